/-! shiftFor: the class's one shift, the reference's search -/
theorem hund_cg {Z Y : St} {a b : Int32} (h : Z.2.1 0 = Y.2.1 0) : s_M_hundredths Z a b = s_M_hundredths Y a b := by
  unfold s_M_hundredths s_M_hundredths_b51 s_M_size s_M_isRing s_M_teeth
  rw [h]
theorem hI_un {ta tb s s' sb : Int} (h : hI ta tb s sb = hI ta tb s' sb) : s = s' := by
  unfold hI at h
  by_cases c : 0 ≤ ta
  · rw [if_pos c, if_pos c] at h
    by_cases d : 0 ≤ tb
    · rw [if_pos d, if_pos d] at h; omega
    · rw [if_neg d, if_neg d] at h; omega
  · rw [if_neg c, if_neg c] at h; omega
/-- like M but for one cell of the row g -/
def LK (M Z : St) (k : Nat) : Prop := FM M Z ∧ ∀ j : Nat, j ≠ k → Z.2.1 0 j = M.2.1 0 j
theorem LK_A {M Z : St} {k : Nat} {v : Int32} (h : LK M Z k) : LK M (sA Z 0 k v) k := ⟨h.1.tr FM_A, fun j hj => (sA_rd hj).trans (h.2 j hj)⟩
theorem LK_e {M Z : St} {k : Nat} {v : Int32} (h : LK M Z k) : (sA Z 0 k v).2.1 0 = (sA M 0 k v).2.1 0 := by
  funext j
  by_cases e : j = k
  · subst e; rw [sA_rs, sA_rs]
  · rw [sA_rd e, sA_rd e, h.2 j e]
section sf
variable {S M : St} {a b p q : Int32}
theorem sf_hund (hB : BN S M) (hP : PM M a b) {s : Int32} (hs : TS s) {Z : St} (hZ : LK M Z (17 + a.toNatClampNeg)) : (s_M_hundredths (sA Z 0 ((17 : Int32) + a).toNatClampNeg s) a b).toInt = hI (s_M_teeth M a).toInt (s_M_teeth M b).toInt s.toInt (M.2.1 0 ((17 : Int32) + b).toNatClampNeg).toInt := by
  have bb := hB.1.1
  have ha := hP.1.2
  have hb := hP.2.1.2
  have ta := i32_tn hP.1.1
  have tb := i32_tn hP.2.1.1
  have ex : ((17 : Int32) + a).toNatClampNeg = 17 + a.toNatClampNeg := ad_tn (C := 17) (by decide) hP.1.1 (by omega)
  have exb : ((17 : Int32) + b).toNatClampNeg = 17 + b.toNatClampNeg := ad_tn (C := 17) (by decide) hP.2.1.1 (by omega)
  have e1a : ((1 : Int32) + a).toNatClampNeg = 1 + a.toNatClampNeg := ad_tn (C := 1) (by decide) hP.1.1 (by omega)
  have e1b : ((1 : Int32) + b).toNatClampNeg = 1 + b.toNatClampNeg := ad_tn (C := 1) (by decide) hP.2.1.1 (by omega)
  have hab : a.toNatClampNeg ≠ b.toNatClampNeg := fun e => hP.2.2.1 (eq32.mpr (by omega))
  rw [ex, hund_cg (LK_e hZ)]
  have hB' : BN (sA S 1 a.toNatClampNeg s) (sA M 0 (17 + a.toNatClampNeg) s) := (BR_shift hB hP.1 hs).cg rfl rfl rfl rfl rfl rfl rfl rfl rfl sA_g
  have f0 : (sA M 0 (17 + a.toNatClampNeg) s).2.1 0 0 = M.2.1 0 0 := sA_rd (by omega)
  have fa : s_M_teeth (sA M 0 (17 + a.toNatClampNeg) s) a = s_M_teeth M a := by rw [s_M_teeth, s_M_teeth, e1a, sA_rd (by omega)]
  have fb : s_M_teeth (sA M 0 (17 + a.toNatClampNeg) s) b = s_M_teeth M b := by rw [s_M_teeth, s_M_teeth, e1b, sA_rd (by omega)]
  have hP' : PM (sA M 0 (17 + a.toNatClampNeg) s) a b := by
    refine ⟨⟨hP.1.1, by rw [f0]; exact ha⟩, ⟨hP.2.1.1, by rw [f0]; exact hb⟩, hP.2.2.1, ?_⟩
    rw [fa, fb]; exact hP.2.2.2
  rw [hund_m hB' hP', fa, fb, ex, exb, sA_rs, sA_rd (by omega)]
/-- what the search asks of a shift -/
def SP (M : St) (a b p q : Int32) (s : Int) : Prop := hI (s_M_teeth M a).toInt (s_M_teeth M b).toInt s (M.2.1 0 ((17 : Int32) + b).toNatClampNeg).toInt * q.toInt = 100 * p.toInt
theorem SP_un (hq : 0 < q.toInt) {s s' : Int} (h : SP M a b p q s) (h' : SP M a b p q s') : s = s' := hI_un (Int.eq_of_mul_eq_mul_right (by omega) (h.trans h'.symm))
theorem sf_hb (hB : BN S M) (hP : PM M a b) {s : Int} (hs : -50 ≤ s ∧ s ≤ 100) : -100000 ≤ hI (s_M_teeth M a).toInt (s_M_teeth M b).toInt s (M.2.1 0 ((17 : Int32) + b).toNatClampNeg).toInt ∧ hI (s_M_teeth M a).toInt (s_M_teeth M b).toInt s (M.2.1 0 ((17 : Int32) + b).toNatClampNeg).toInt ≤ 100000 := by
  obtain ⟨ta, sa, a1, a2, a3, a4, a5, a6, -⟩ := view hB hP.1
  obtain ⟨tb, sb, b1, b2, b3, b4, b5, b6, -⟩ := view hB hP.2.1
  unfold TV at a5 b5
  unfold TS at b6
  rw [a3, b3, b4]
  unfold hI
  by_cases c : 0 ≤ ta.toInt
  · rw [if_pos c]
    by_cases d : 0 ≤ tb.toInt
    · rw [if_pos d]; omega
    · rw [if_neg d]; omega
  · rw [if_neg c]; omega
theorem lt_m50 {y : Int32} : y < -50 ↔ y.toInt < -50 := by
  have e50 : (-50 : Int32).toInt = -50 := by decide
  rw [lt32, e50]
theorem dec_1 {y : Int32} (h1 : -1000 ≤ y.toInt) (h2 : y.toInt ≤ 1000) : (y + (-1)).toInt = y.toInt - 1 := by
  have e1 : (-1 : Int32).toInt = -1 := by decide
  rw [i32_add (by rw [e1]; omega) (by rw [e1]; omega), e1]
  omega
theorem sf_cmp {H p q : Int32} {V : Int} (hh : H.toInt = V) (hbd : -100000 ≤ V ∧ V ≤ 100000) (hp : 1 ≤ p.toInt ∧ p.toInt ≤ 9999) (hq : 1 ≤ q.toInt ∧ q.toInt ≤ 9999) : lg_cmp (H.toInt64 * q.toInt64) ((100 : Int64) * p.toInt64) = 0 ↔ V * q.toInt = 100 * p.toInt := by
  have f100 : (100 : Int64).toInt = 100 := by decide
  have q1 := mul_bd (a := V) (t := q.toInt) (M := 100000) (N := 9999) hbd (by omega) (by omega)
  have ml : (H.toInt64 * q.toInt64).toInt = V * q.toInt := by
    rw [i64_mul (by rw [i64_of, i64_of, hh]; omega) (by rw [i64_of, i64_of, hh]; omega), i64_of, i64_of, hh]
  have mr : ((100 : Int64) * p.toInt64).toInt = 100 * p.toInt := by rw [i64_mul (by rw [f100, i64_of]; omega) (by rw [f100, i64_of]; omega), f100, i64_of]
  rw [lcmp_eq, eq64, ml, mr]
theorem sf_b (hB : BN S M) (hP : PM M a b) (hp : 1 ≤ p.toInt ∧ p.toInt ≤ 9999) (hq : 1 ≤ q.toInt ∧ q.toInt ≤ 9999) (was : Int32) : ∀ (n : Nat) (Z : St) (f y : Int32), LK M Z (17 + a.toNatClampNeg) → DM n y → y.toInt ≤ 100 → -51 ≤ y.toInt →
    ∃ (R : Int32) (Z' : St), s_M_shiftFor_b71 n Z a b p q was f y = (R, sA Z' 0 (17 + a.toNatClampNeg) was) ∧ LK M Z' (17 + a.toNatClampNeg) ∧ (∀ s : Int, -50 ≤ s → s ≤ y.toInt → SP M a b p q s → R.toInt = s) ∧ ((∀ s : Int, -50 ≤ s → s ≤ y.toInt → ¬ SP M a b p q s) → R = f) := by
  have bb := hB.1.1
  have ha := hP.1.2
  have ex : ((17 : Int32) + a).toNatClampNeg = 17 + a.toNatClampNeg := ad_tn (C := 17) (by decide) hP.1.1 (by omega)
  intro n
  induction n with
  | zero => intro Z f y _ h; exact absurd h DM_z
  | succ n ih =>
    intro Z f y hZ hD h1 h2
    rw [s_M_shiftFor_b71, ex]
    by_cases c : y < -50
    · rw [if_pos c]
      rw [lt_m50] at c
      exact ⟨f, Z, rfl, hZ, fun s s1 s2 => by omega, fun _ => rfl⟩
    · rw [if_neg c]
      have c1 := c
      rw [lt_m50] at c1
      have hs : TS y := ⟨by omega, h1⟩
      have es : (y + (-1)).toInt = y.toInt - 1 := dec_1 (by omega) (by omega)
      have hD' := DM_dn hD c
      generalize y + (-1) = y' at es hD' ⊢
      have es1 : y'.toInt ≤ 100 := by omega
      have es2 : -51 ≤ y'.toInt := by omega
      have es3 : -50 ≤ y.toInt := by omega
      have q0 : 0 < q.toInt := by omega
      have hh := sf_hund hB hP hs hZ
      rw [ex] at hh
      have hc : lg_cmp ((s_M_hundredths (sA Z 0 (17 + a.toNatClampNeg) y) a b).toInt64 * q.toInt64) ((100 : Int64) * p.toInt64) = 0 ↔ SP M a b p q y.toInt := sf_cmp hh (sf_hb hB hP (s := y.toInt) ⟨es3, h1⟩) hp hq
      clear hh
      by_cases hSP : SP M a b p q y.toInt
      · rw [if_pos (hc.mpr hSP)]
        clear hc
        obtain ⟨R, Z', r1, r2, r3, r4⟩ := ih _ y y' (LK_A hZ) hD' es1 es2
        have hR := r4 (fun s s1 s2 s3 => by have := SP_un q0 s3 hSP; omega)
        refine ⟨R, Z', r1, r2, fun s s1 s2 s3 => ?_, fun q => absurd hSP (q y.toInt (by omega) (by omega))⟩
        rw [hR]; exact SP_un q0 hSP s3
      · rw [if_neg (fun k => hSP (hc.mp k))]
        clear hc
        obtain ⟨R, Z', r1, r2, r3, r4⟩ := ih _ f y' (LK_A hZ) hD' es1 es2
        refine ⟨R, Z', r1, r2, fun s s1 s2 s3 => ?_, fun q => r4 (fun s s1 s2 => q s s1 (by omega))⟩
        by_cases e : s = y.toInt
        · subst e; exact absurd s3 hSP
        · exact r3 s s1 (by omega) s3
/-- the class's shift is the one that the search asks for -/
theorem sf_c (hB : BN S M) (hP : PM M a b) (hp : 1 ≤ p.toInt ∧ p.toInt ≤ 9999) (hq : 1 ≤ q.toInt ∧ q.toInt ≤ 9999) : (∀ s : Int, -50 ≤ s → s ≤ 100 → SP M a b p q s → (s_B_shiftAt S a b p q).toInt = s) ∧ ((∀ s : Int, -50 ≤ s → s ≤ 100 → ¬ SP M a b p q s) → s_B_shiftAt S a b p q = -1001) := by
  have eb := arm_i hB hP.2.1
  have hra := ring_i (M := M) (w := a)
  have hrb := ring_i (M := M) (w := b)
  have hn := hP.2.2.2
  have c100 : (100 : Int32).toInt = 100 := by decide
  have m1 : ((100 : Int32) * p).toInt = 100 * p.toInt := by rw [i32_mul (by rw [c100]; omega) (by rw [c100]; omega), c100]
  have hdv := i32_div (x := (100 : Int32) * p) (y := q) (by omega)
  have hrm := i32_rem (x := (100 : Int32) * p) (y := q) (by omega)
  obtain ⟨t1, t2, -, t3, t4⟩ := tq_b (x := 100 * p.toInt) (y := q.toInt) (by omega)
  have t2' := t2 (by omega)
  rw [m1] at hdv hrm
  unfold SP
  obtain ⟨ta, sa, a1, a2, a3, a4, a5, a6, -⟩ := view hB hP.1
  obtain ⟨tb, sb, b1, b2, b3, b4, b5, b6, -⟩ := view hB hP.2.1
  unfold TV at a5 b5
  unfold TS at a6 b6
  rw [a3] at hra hn
  rw [b3] at hrb hn
  rw [b3, b4] at eb
  rw [s_B_shiftAt, if_neg (show ¬ q = 0 by rw [eq32, z32]; omega), ring_eq hB hP.1, ring_eq hB hP.2.1, a3, b3, b4]
  generalize (100 * p.toInt).tdiv q.toInt = W at hdv t1 t2'
  generalize (100 * p.toInt).tmod q.toInt = R at hrm t1 t2' t3 t4
  generalize (100 : Int32) * p / q = wn at hdv hrm ⊢
  have hW1 : 0 ≤ W := by
    rcases Int.lt_or_le W 0 with h | h
    · have := Int.mul_le_mul_of_nonneg_left (show W ≤ -1 by omega) (show 0 ≤ q.toInt by omega); omega
    · exact h
  have hW2 : W ≤ 999900 := by
    have := Int.mul_le_mul_of_nonneg_right (show 1 ≤ q.toInt by omega) hW1
    omega
  by_cases d : (100 : Int32) * p - wn * q = 0
  · rw [if_pos d]
    rw [eq32, hrm, z32] at d
    have hsp : ∀ h : Int, h * q.toInt = 100 * p.toInt ↔ h = W := by
      intro h
      constructor
      · intro e; exact Int.eq_of_mul_eq_mul_right (show q.toInt ≠ 0 by omega) (by rw [e, Int.mul_comm W]; omega)
      · intro e; rw [e, Int.mul_comm W]; omega
    have key : ∀ (x : Int32) (v : Int), x.toInt = v → -2000000 ≤ v → v ≤ 2000000 → (∀ s : Int, hI ta.toInt tb.toInt s sb.toInt = W ↔ s = v - 50 * (if 0 ≤ ta.toInt then ta.toInt else -ta.toInt)) → (∀ s : Int, -50 ≤ s → s ≤ 100 → hI ta.toInt tb.toInt s sb.toInt * q.toInt = 100 * p.toInt → (s_B_shiftAt_b77 S a x).toInt = s) ∧ ((∀ s : Int, -50 ≤ s → s ≤ 100 → ¬ hI ta.toInt tb.toInt s sb.toInt * q.toInt = 100 * p.toInt) → s_B_shiftAt_b77 S a x = -1001) := by
      intro x v hx v1 v2 hs
      have em : ((50 : Int32) * (if 0 ≤ s_N_at S 0 a then s_N_at S 0 a else 0 - s_N_at S 0 a)).toInt = 50 * (if 0 ≤ ta.toInt then ta.toInt else -ta.toInt) := by
        rw [a1]
        simp only [le32, z32]
        by_cases c : 0 ≤ ta.toInt
        · rw [if_pos c, if_pos c, mul50 (by omega) (by omega)]
        · rw [if_neg c, if_neg c, mul50 (by rw [sub0 (by omega) (by omega)]; omega) (by rw [sub0 (by omega) (by omega)]; omega), sub0 (by omega) (by omega)]
      have bT : 0 ≤ (if 0 ≤ ta.toInt then ta.toInt else -ta.toInt) ∧ (if 0 ≤ ta.toInt then ta.toInt else -ta.toInt) ≤ 99 := by
        by_cases c : 0 ≤ ta.toInt
        · rw [if_pos c]; omega
        · rw [if_neg c]; omega
      generalize (if 0 ≤ ta.toInt then ta.toInt else -ta.toInt) = T at *
      rw [s_B_shiftAt_b77]
      generalize (50 : Int32) * (if 0 ≤ s_N_at S 0 a then s_N_at S 0 a else 0 - s_N_at S 0 a) = y at *
      have ev : (x - y).toInt = v - 50 * T := by rw [i32_sub (by omega) (by omega), hx, em]
      constructor
      · intro s s1 s2 s3
        have e := (hs s).mp ((hsp _).mp s3)
        rw [if_neg (fun q => sh_i.mp q ⟨by omega, by omega⟩), ev, e]
      · intro hno
        have : ¬ TS (x - y) := fun k => hno (v - 50 * T) (by have := k.1; omega) (by have := k.2; omega) ((hsp _).mpr ((hs _).mpr rfl))
        rw [if_pos (sh_i.mpr this)]
    by_cases ca : 0 ≤ ta.toInt
    · rw [if_pos (hra.mpr ca)]
      by_cases cb : 0 ≤ tb.toInt
      · rw [if_pos (hrb.mpr cb)]
        rw [if_pos cb] at eb
        refine key _ (W - (50 * tb.toInt + sb.toInt)) (by rw [i32_sub (by omega) (by omega), hdv, eb]) (by omega) (by omega) (fun s => ?_)
        rw [hI, if_pos ca, if_pos cb, if_pos ca]; omega
      · rw [if_neg (fun q => cb (hrb.mp q))]
        rw [if_neg cb] at eb
        refine key _ (50 * -tb.toInt + sb.toInt - W) (by rw [i32_sub (by omega) (by omega), hdv, eb]) (by omega) (by omega) (fun s => ?_)
        rw [hI, if_pos ca, if_neg cb, if_pos ca]; omega
    · rw [if_neg (fun q => ca (hra.mp q))]
      rw [if_pos (show 0 ≤ tb.toInt by omega)] at eb
      refine key _ (W + (50 * tb.toInt + sb.toInt)) (by rw [i32_add (by omega) (by omega), hdv, eb]) (by omega) (by omega) (fun s => ?_)
      rw [hI, if_neg ca, if_neg ca]; omega
  · rw [if_neg d]
    rw [eq32, hrm, z32] at d
    have hno : ∀ h : Int, ¬ h * q.toInt = 100 * p.toInt := by
      intro h e
      rw [← t1, Int.mul_comm q.toInt W] at e
      rcases Int.lt_or_le W h with g | g
      · have := Int.mul_le_mul_of_nonneg_right (show W + 1 ≤ h by omega) (show 0 ≤ q.toInt by omega)
        rw [Int.add_mul, Int.one_mul] at this
        omega
      · have := Int.mul_le_mul_of_nonneg_right g (show 0 ≤ q.toInt by omega)
        omega
    exact ⟨fun s _ _ h => absurd h (hno _), fun _ => rfl⟩
theorem q_shiftFor (h : Rel S M) : s_P_shiftFor S a b p q = (s_M_shiftFor M a b p q).1 ∧ Rel S (s_M_shiftFor M a b p q).2 := by
  have hB := h.1
  have bb := hB.1.1
  have f1 : (1 : Int64).toInt = 1 := by decide
  have f9 : (9999 : Int64).toInt = 9999 := by decide
  have g1 : (1 : Int32).toInt = 1 := by decide
  have g9 : (9999 : Int32).toInt = 9999 := by decide
  have ei : ∀ t : Int32, s_M_in t.toInt64 (1 : Int64) (9999 : Int64) = 0 ↔ ¬ (1 ≤ t.toInt ∧ t.toInt ≤ 9999) := fun t => by rw [in_i, i64_of, f1, f9]
  rw [s_P_shiftFor, s_M_shiftFor, can_eq hB]
  by_cases c : s_M_isPair M a b = 0
  · rw [if_pos c, if_pos c]; exact ⟨rfl, h⟩
  · have hP := PM_of hB.1 c
    rw [if_neg c, if_neg c]
    by_cases hp : 1 ≤ p.toInt ∧ p.toInt ≤ 9999
    · rw [if_neg (show ¬ p < 1 by rw [lt32, g1]; omega), if_neg (show ¬ (9999 : Int32) < p by rw [lt32, g9]; omega), if_neg (fun k => (ei p).mp k hp)]
      by_cases hq : 1 ≤ q.toInt ∧ q.toInt ≤ 9999
      · rw [if_neg (show ¬ q < 1 by rw [lt32, g1]; omega), if_pos (show q ≤ 9999 by rw [le32, g9]; omega), if_neg (fun k => (ei q).mp k hq), clash_eq hB hP]
        by_cases d : s_M_clashes M a b = 0
        · rw [if_pos d, if_pos d]
          have ex : ((17 : Int32) + a).toNatClampNeg = 17 + a.toNatClampNeg := ad_tn (C := 17) (by decide) hP.1.1 (by have := hP.1.2; omega)
          rw [ex]
          obtain ⟨R, Z', r1, r2, r3, r4⟩ := sf_b hB hP hp hq (M.2.1 0 (17 + a.toNatClampNeg)) 152 M (-1001) 100 ⟨FM.rf, fun _ _ => rfl⟩ ⟨by decide, by decide⟩ (by decide) (by decide)
          obtain ⟨k1, k2⟩ := sf_c hB hP hp hq
          have e100 : (100 : Int32).toInt = 100 := by decide
          rw [e100] at r3 r4
          rw [r1]
          refine ⟨?_, ?_⟩
          · show s_B_shiftAt S a b p q = R
            by_cases hx : ∃ s : Int, -50 ≤ s ∧ s ≤ 100 ∧ SP M a b p q s
            · obtain ⟨s, s1, s2, s3⟩ := hx
              exact eq32.mpr ((k1 s s1 s2 s3).trans (r3 s s1 s2 s3).symm)
            · exact (k2 (fun s s1 s2 s3 => hx ⟨s, s1, s2, s3⟩)).trans (r4 (fun s s1 s2 s3 => hx ⟨s, s1, s2, s3⟩)).symm
          · refine Rel_of h ?_ FR.rf (r2.1.tr FM_A)
            have eg : (sA Z' 0 (17 + a.toNatClampNeg) (M.2.1 0 (17 + a.toNatClampNeg))).2.1 0 = M.2.1 0 := by
              funext j
              by_cases e : j = 17 + a.toNatClampNeg
              · subst e; rw [sA_rs]
              · rw [sA_rd e, r2.2 j e]
            unfold BN
            rw [eg]; exact hB
        · rw [if_neg d, if_neg d]; exact ⟨rfl, h⟩
      · rw [if_pos ((ei q).mpr hq)]
        refine ⟨?_, h⟩
        by_cases d : q < 1
        · rw [if_pos d]
        · rw [if_neg d, if_neg (show ¬ q ≤ 9999 by rw [lt32, g1] at d; rw [le32, g9]; omega)]
    · rw [if_pos ((ei p).mpr hp)]
      refine ⟨?_, h⟩
      by_cases d : p < 1
      · rw [if_pos d]
      · rw [if_neg d, if_pos (show (9999 : Int32) < p by rw [lt32, g1] at d; rw [lt32, g9]; omega)]
end sf
