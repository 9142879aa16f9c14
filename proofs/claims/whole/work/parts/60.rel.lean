/-! the class's bench beside the reference's row -/
theorem lt32 {x y : Int32} : x < y ↔ x.toInt < y.toInt := Int32.lt_iff_toInt_lt
theorem le32 {x y : Int32} : x ≤ y ↔ x.toInt ≤ y.toInt := Int32.le_iff_toInt_le
theorem eq32 {x y : Int32} : x = y ↔ x.toInt = y.toInt := Int32.toInt_inj.symm
theorem lt64 {x y : Int64} : x < y ↔ x.toInt < y.toInt := Int64.lt_iff_toInt_lt
theorem le64 {x y : Int64} : x ≤ y ↔ x.toInt ≤ y.toInt := Int64.le_iff_toInt_le
theorem eq64 {x y : Int64} : x = y ↔ x.toInt = y.toInt := Int64.toInt_inj.symm
theorem z32 : (0 : Int32).toInt = 0 := by decide
theorem i32_sub {x y : Int32} (h1 : -2147483648 ≤ x.toInt - y.toInt) (h2 : x.toInt - y.toInt < 2147483648) : (x - y).toInt = x.toInt - y.toInt := by
  rw [Int32.toInt_sub]; exact Int.bmod_eq_of_le (by omega) (by omega)
theorem i32_mul {x y : Int32} (h1 : -2147483648 ≤ x.toInt * y.toInt) (h2 : x.toInt * y.toInt < 2147483648) : (x * y).toInt = x.toInt * y.toInt := by
  rw [Int32.toInt_mul]; exact Int.bmod_eq_of_le (by omega) (by omega)
theorem i32_neg {x : Int32} (h : -2147483648 < x.toInt) : (-x).toInt = -x.toInt := by
  have := i32_hi x
  rw [Int32.toInt_neg]; exact Int.bmod_eq_of_le (by omega) (by omega)
theorem eq01 {a b : Int32} (ha : a = 0 ∨ a = 1) (hb : b = 0 ∨ b = 1) (h : a = 0 ↔ b = 0) : a = b := by
  rcases ha with rfl | rfl
  · exact (h.mp rfl).symm
  · rcases hb with rfl | rfl
    · exact absurd (h.mpr rfl) (by decide)
    · rfl
def TS (s : Int32) : Prop := -50 ≤ s.toInt ∧ s.toInt ≤ 100
def PR (g : Nat → Int32) (a b : Int32) : Prop := wl g a ∧ wl g b ∧ ¬ a = b ∧ ¬ ((g (1 + a.toNatClampNeg)).toInt < 0 ∧ (g (1 + b.toNatClampNeg)).toInt < 0)
def BR (n0 n1 n2 n3 p : Int32) (f0 f1 f2 f3 : Nat → Int32) (g : Nat → Int32) : Prop :=
  GI g ∧ (n0 = g 0 ∧ n1 = g 0 ∧ n2 = g 34 ∧ n3 = g 34 ∧ p = g 33) ∧
  (∀ k : Nat, (k : Int) < (g 0).toInt → f0 k = g (1 + k) ∧ f1 k = g (17 + k) ∧ TS (g (17 + k))) ∧
  ∀ k : Nat, (k : Int) < (g 34).toInt → f2 k = g (35 + k) ∧ f3 k = g (44 + k) ∧ PR g (g (35 + k)) (g (44 + k))
def BN (S M : St) : Prop := BR (S.1 0) (S.1 1) (S.1 2) (S.1 3) (S.1 19) (S.2.1 0) (S.2.1 1) (S.2.1 2) (S.2.1 3) (M.2.1 0)
def BK (S M : St) : Prop := BR (S.1 4) (S.1 5) (S.1 6) (S.1 7) (S.1 20) (S.2.1 4) (S.2.1 5) (S.2.1 6) (S.2.1 7) (M.2.1 1)
def BA (S M : St) : Prop := BR (S.1 8) (S.1 9) (S.1 10) (S.1 11) (S.1 21) (S.2.1 8) (S.2.1 9) (S.2.1 10) (S.2.1 11) (M.2.1 2)
def TR (S M : St) : Prop := S.1 12 = M.1 4 ∧ (0 ≤ (M.1 4).toInt ∧ (M.1 4).toInt ≤ 80) ∧ ∀ k : Nat, (k : Int) < (M.1 4).toInt → S.2.1 12 k = M.2.1 3 k
def WR (S M : St) : Prop := ∀ r : Nat, r < 3 → S.1 (16 + r) = M.2.1 7 r ∧ (-1 ≤ (M.2.1 7 r).toInt ∧ (M.2.1 7 r).toInt ≤ 20) ∧ ∀ k : Nat, k < 20 → S.2.2 r k = M.2.2 0 (20 * r + k)
def KP (S M : St) : Prop := S.1 22 = M.1 0 ∧ (M.1 0 = 0 ∨ BK S M)
/-- the two states beside one another, between two calls -/
def Rel (S M : St) : Prop := BN S M ∧ KP S M ∧ TR S M ∧ WR S M
theorem BN.G {S M : St} (h : BN S M) : GI (M.2.1 0) := h.1
theorem Rel.G {S M : St} (h : Rel S M) : GI (M.2.1 0) := h.1.1
theorem Rel.Z {S M : St} (h : Rel S M) : RZ (M.2.1 7) := fun r hr => (h.2.2.2 r hr).2.1
theorem Rel.F {S M : St} (h : Rel S M) : 0 ≤ (M.1 4).toInt ∧ (M.1 4).toInt ≤ 80 := h.2.2.1.2.1
section now
variable {S M : St} {w a b k : Int32}
theorem has_i (hB : BN S M) : s_N_has S 0 w = 0 ↔ ¬ wl (M.2.1 0) w := by
  obtain ⟨hG, ⟨h0, -⟩, -⟩ := hB
  have c0 : (nI (cap 0)).toInt = 16 := (cap_i 0).trans (by decide)
  have bb := hG.1
  unfold s_N_has wl
  rw [h0]
  simp only [lt32, le32, c0, z32]
  repeat' split
  all_goals first | exact iff_of_true rfl (by omega) | exact iff_of_false (by decide) (by omega)
theorem isW_i (hG : GI (M.2.1 0)) : s_M_isWheel M w = 0 ↔ ¬ wl (M.2.1 0) w := by
  constructor
  · intro h hw
    have bb := hG.1
    have h1 := in_0 h
    rw [i64_of, i64_of, z64, i32_pred (by omega)] at h1
    have := hw.1; have := hw.2
    omega
  · intro h
    rcases z_M_isWheel M w with e | e
    · exact e
    · exact absurd (isW hG (by rw [e]; decide)) h
theorem has_eq (hB : BN S M) : s_N_has S 0 w = s_M_isWheel M w := eq01 (z_N_has S 0 w) (z_M_isWheel M w) ((has_i hB).trans (isW_i hB.1).symm)
theorem at_in {i : Nat} (h0 : 0 ≤ w.toInt) (h1 : w.toInt < (S.1 i).toInt) (h2 : w.toInt < (cap i : Int)) : s_N_at S i w = S.2.1 i w.toNatClampNeg := by
  rw [s_N_at, if_neg (by rw [lt32, z32]; omega), if_neg (by rw [le32]; omega), if_neg (by rw [le32, cap_i]; omega)]
theorem view (hB : BN S M) (hw : wl (M.2.1 0) w) : ∃ t s : Int32, s_N_at S 0 w = t ∧ s_N_at S 1 w = s ∧ s_M_teeth M w = t ∧ M.2.1 0 ((17 : Int32) + w).toNatClampNeg = s ∧ TV t ∧ TS s ∧ t = M.2.1 0 (1 + w.toNatClampNeg) := by
  obtain ⟨hG, ⟨h0, h1, -⟩, hW, -⟩ := hB
  obtain ⟨w0, w1⟩ := hw
  have bb := hG.1
  have hk : (w.toNatClampNeg : Int) < (M.2.1 0 0).toInt := by rw [i32_tn w0]; exact w1
  obtain ⟨e0, e1, e2⟩ := hW w.toNatClampNeg hk
  have c0 : (cap 0 : Int) = 16 := by decide
  have c1 : (cap 1 : Int) = 16 := by decide
  refine ⟨M.2.1 0 (1 + w.toNatClampNeg), M.2.1 0 (17 + w.toNatClampNeg), ?_, ?_, ?_, ?_, hG.2.2.2.1 _ hk, e2, rfl⟩
  · rw [at_in w0 (by rw [h0]; exact w1) (by omega), e0]
  · rw [at_in w0 (by rw [h1]; exact w1) (by omega), e1]
  · rw [s_M_teeth, ad_tn (C := 1) (by decide) w0 (by omega)]
  · rw [ad_tn (C := 17) (by decide) w0 (by omega)]
theorem ring_eq (hB : BN S M) (hw : wl (M.2.1 0) w) : s_B_isRing S w = s_M_isRing M w := by
  obtain ⟨t, s, h1, h2, h3, h4, h5, h6, -⟩ := view hB hw
  rw [s_B_isRing, s_M_isRing, h1, h3]
theorem can_eq (hB : BN S M) : s_B_canPair S a b = s_M_isPair M a b := by
  rw [s_B_canPair, s_M_isPair, s_B_hasWheel, s_B_hasWheel, has_eq hB, has_eq hB]
  by_cases h1 : s_M_isWheel M a = 0
  · rw [if_pos h1, if_pos h1]
  · by_cases h2 : s_M_isWheel M b = 0
    · rw [if_neg h1, if_pos h2, if_neg h1, if_pos h2]
    · rw [ring_eq hB (isW hB.1 h1), ring_eq hB (isW hB.1 h2)]
/-- what a pair that may stand is -/
def PM (M : St) (a b : Int32) : Prop := wl (M.2.1 0) a ∧ wl (M.2.1 0) b ∧ ¬ a = b ∧ ¬ ((s_M_teeth M a).toInt < 0 ∧ (s_M_teeth M b).toInt < 0)
theorem th_g (hG : GI (M.2.1 0)) (hw : wl (M.2.1 0) w) : s_M_teeth M w = M.2.1 0 (1 + w.toNatClampNeg) := by
  have bb := hG.1
  have := hw.2
  rw [s_M_teeth, ad_tn (C := 1) (by decide) hw.1 (by omega)]
theorem PM_PR (hG : GI (M.2.1 0)) : PM M a b ↔ PR (M.2.1 0) a b := by
  constructor
  · intro ⟨h1, h2, h3, h4⟩
    rw [th_g hG h1, th_g hG h2] at h4
    exact ⟨h1, h2, h3, h4⟩
  · intro ⟨h1, h2, h3, h4⟩
    rw [← th_g hG h1, ← th_g hG h2] at h4
    exact ⟨h1, h2, h3, h4⟩
theorem ring_i : s_M_isRing M w = 0 ↔ 0 ≤ (s_M_teeth M w).toInt := by
  rw [s_M_isRing]
  simp only [le32, z32]
  split
  · exact iff_of_true rfl (by omega)
  · exact iff_of_false (by decide) (by omega)
theorem PM_of (hG : GI (M.2.1 0)) (h : ¬ s_M_isPair M a b = 0) : PM M a b := by
  have hw := isP hG h
  rw [s_M_isPair] at h
  by_cases h1 : s_M_isWheel M a = 0
  · rw [if_pos h1] at h; exact absurd rfl h
  · by_cases h2 : s_M_isWheel M b = 0
    · rw [if_neg h1, if_pos h2] at h; exact absurd rfl h
    · rw [if_neg h1, if_neg h2] at h
      by_cases h3 : a = b
      · rw [if_pos h3] at h; exact absurd rfl h
      · rw [if_neg h3] at h
        refine ⟨hw.1, hw.2, h3, fun q => ?_⟩
        rw [if_neg (fun e => by rw [ring_i] at e; omega), if_neg (fun e => by rw [ring_i] at e; omega)] at h
        exact absurd rfl h
theorem pr_at (hB : BN S M) (h0 : 0 ≤ k.toInt) (c : ¬ M.2.1 0 34 ≤ k) : s_N_at S 2 k = M.2.1 0 ((35 : Int32) + k).toNatClampNeg ∧ s_N_at S 3 k = M.2.1 0 ((44 : Int32) + k).toNatClampNeg ∧ PM M (M.2.1 0 ((35 : Int32) + k).toNatClampNeg) (M.2.1 0 ((44 : Int32) + k).toNatClampNeg) := by
  have hB0 := hB
  obtain ⟨hG, ⟨-, -, h2, h3, -⟩, -, hP⟩ := hB
  have bb := hG.2.2.1
  rw [le32] at c
  have hk : (k.toNatClampNeg : Int) < (M.2.1 0 34).toInt := by rw [i32_tn h0]; omega
  obtain ⟨e2, e3, e4⟩ := hP k.toNatClampNeg hk
  have c2 : (cap 2 : Int) = 9 := by decide
  have c3 : (cap 3 : Int) = 9 := by decide
  rw [ad_tn (C := 35) (by decide) h0 (by omega), ad_tn (C := 44) (by decide) h0 (by omega)]
  refine ⟨?_, ?_, (PM_PR hG).mpr e4⟩
  · rw [at_in h0 (by rw [h2]; omega) (by omega), e2]
  · rw [at_in h0 (by rw [h3]; omega) (by omega), e3]
/-- a wheel as whole numbers -/
theorem clash_eq (hB : BN S M) (hP : PM M a b) : s_B_clashes S a b = s_M_clashes M a b := by
  obtain ⟨ta, sa, a1, a2, a3, a4, a5, a6, -⟩ := view hB hP.1
  obtain ⟨tb, sb, b1, b2, b3, b4, b5, b6, -⟩ := view hB hP.2.1
  have hn := hP.2.2.2
  rw [a3, b3] at hn
  unfold TV at a5 b5
  have hra : s_M_isRing M a = 0 ↔ 0 ≤ ta.toInt := by rw [ring_i, a3]
  have hrb : s_M_isRing M b = 0 ↔ 0 ≤ tb.toInt := by rw [ring_i, b3]
  have e8 : (8 : Int32).toInt = 8 := by decide
  have e9 : (-8 : Int32).toInt = -8 := by decide
  rw [s_B_clashes, s_B_hasRing, ring_eq hB hP.1, ring_eq hB hP.2.1, s_M_clashes, s_M_size, s_M_size, a1, b1, a3, b3]
  by_cases ca : 0 ≤ ta.toInt
  · have ha := hra.mpr ca
    by_cases cb : 0 ≤ tb.toInt
    · have hb := hrb.mpr cb
      rw [if_pos ha, if_pos hb, if_pos rfl, if_pos ha, if_pos ha, if_pos hb]
    · have hb : ¬ s_M_isRing M b = 0 := fun e => cb (hrb.mp e)
      have en : (-tb).toInt = -tb.toInt := i32_neg (by omega)
      have e1 : (-tb - ta).toInt = -tb.toInt - ta.toInt := by rw [i32_sub (by omega) (by omega), en]
      have e2 : (ta + tb).toInt = ta.toInt + tb.toInt := i32_add (by omega) (by omega)
      rw [if_pos ha, if_neg hb, if_neg (by decide), if_pos ha, if_pos ha, if_neg hb, if_neg hb]
      simp only [le32, e8, e9, e1, e2]
      by_cases cc : ta.toInt + tb.toInt ≤ -8
      · rw [if_pos cc, if_pos (by omega)]
      · rw [if_neg cc, if_neg (by omega)]
  · have ha : ¬ s_M_isRing M a = 0 := fun e => ca (hra.mp e)
    have en : (-ta).toInt = -ta.toInt := i32_neg (by omega)
    have e1 : (-ta - tb).toInt = -ta.toInt - tb.toInt := by rw [i32_sub (by omega) (by omega), en]
    have e2 : (ta + tb).toInt = ta.toInt + tb.toInt := i32_add (by omega) (by omega)
    simp only [if_neg ha, if_neg (show ¬ (1 : Int32) = 0 by decide), le32, e8, e9, e1, e2]
    by_cases cc : ta.toInt + tb.toInt ≤ -8
    · rw [if_pos cc, if_pos (by omega)]
    · rw [if_neg cc, if_neg (by omega)]
/-- DISTANCE in hundredths -/
def hI (ta tb sa sb : Int) : Int := if 0 ≤ ta then (if 0 ≤ tb then 50 * ta + sa + (50 * tb + sb) else 50 * -tb + sb - (50 * ta + sa)) else 50 * -ta + sa - (50 * tb + sb)
theorem mul50 {t : Int32} (h1 : -200 ≤ t.toInt) (h2 : t.toInt ≤ 200) : ((50 : Int32) * t).toInt = 50 * t.toInt := by
  have c50 : (50 : Int32).toInt = 50 := by decide
  rw [i32_mul (by rw [c50]; omega) (by rw [c50]; omega), c50]
theorem sub0 {t : Int32} (h1 : -200 ≤ t.toInt) (h2 : t.toInt ≤ 200) : (0 - t).toInt = -t.toInt := by
  rw [i32_sub (by rw [z32]; omega) (by rw [z32]; omega), z32]; omega
theorem arm_i (hB : BN S M) (hw : wl (M.2.1 0) w) : (s_B_arm S w).toInt = 50 * (if 0 ≤ (s_M_teeth M w).toInt then (s_M_teeth M w).toInt else -(s_M_teeth M w).toInt) + (M.2.1 0 ((17 : Int32) + w).toNatClampNeg).toInt := by
  obtain ⟨t, s, h1, h2, h3, h4, h5, h6, -⟩ := view hB hw
  unfold TV at h5
  unfold TS at h6
  rw [s_B_arm, h1, h2, h3, h4]
  simp only [le32, z32]
  by_cases c : 0 ≤ t.toInt
  · rw [if_pos c, if_pos c]
    have e := mul50 (t := t) (by omega) (by omega)
    rw [i32_add (by omega) (by omega), e]
  · rw [if_neg c, if_neg c]
    have e0 := sub0 (t := t) (by omega) (by omega)
    have e := mul50 (t := 0 - t) (by omega) (by omega)
    rw [i32_add (by omega) (by omega), e, e0]
theorem hund_c (hB : BN S M) (hP : PM M a b) : (s_B_hundredths S a b).toInt = hI (s_M_teeth M a).toInt (s_M_teeth M b).toInt (M.2.1 0 ((17 : Int32) + a).toNatClampNeg).toInt (M.2.1 0 ((17 : Int32) + b).toNatClampNeg).toInt := by
  have ea := arm_i hB hP.1
  have eb := arm_i hB hP.2.1
  obtain ⟨ta, sa, a1, a2, a3, a4, a5, a6, -⟩ := view hB hP.1
  obtain ⟨tb, sb, b1, b2, b3, b4, b5, b6, -⟩ := view hB hP.2.1
  have hra : s_M_isRing M a = 0 ↔ 0 ≤ ta.toInt := by rw [ring_i, a3]
  have hrb : s_M_isRing M b = 0 ↔ 0 ≤ tb.toInt := by rw [ring_i, b3]
  unfold TV at a5 b5
  unfold TS at a6 b6
  rw [a3, a4] at ea
  rw [b3, b4] at eb
  rw [s_B_hundredths, ring_eq hB hP.1, ring_eq hB hP.2.1, a3, a4, b3, b4, hI]
  simp only [hra, hrb]
  by_cases ca : 0 ≤ ta.toInt
  · rw [if_pos ca] at ea
    by_cases cb : 0 ≤ tb.toInt
    · rw [if_pos cb] at eb
      rw [if_pos ca, if_pos cb, if_pos ca, if_pos cb, i32_add (by omega) (by omega), ea, eb]
    · rw [if_neg cb] at eb
      rw [if_pos ca, if_neg cb, if_pos ca, if_neg cb, i32_sub (by omega) (by omega), ea, eb]
  · rw [if_neg ca] at ea
    have cb : 0 ≤ tb.toInt := by have := hP.2.2.2; rw [a3, b3] at this; omega
    rw [if_pos cb] at eb
    rw [if_neg ca, if_neg ca, i32_sub (by omega) (by omega), ea, eb]
theorem hund_m (hB : BN S M) (hP : PM M a b) : (s_M_hundredths M a b).toInt = hI (s_M_teeth M a).toInt (s_M_teeth M b).toInt (M.2.1 0 ((17 : Int32) + a).toNatClampNeg).toInt (M.2.1 0 ((17 : Int32) + b).toNatClampNeg).toInt := by
  obtain ⟨ta, sa, a1, a2, a3, a4, a5, a6, -⟩ := view hB hP.1
  obtain ⟨tb, sb, b1, b2, b3, b4, b5, b6, -⟩ := view hB hP.2.1
  have hra : s_M_isRing M a = 0 ↔ 0 ≤ ta.toInt := by rw [ring_i, a3]
  have hrb : s_M_isRing M b = 0 ↔ 0 ≤ tb.toInt := by rw [ring_i, b3]
  unfold TV at a5 b5
  unfold TS at a6 b6
  have hn := hP.2.2.2
  rw [a3, b3] at hn
  rw [s_M_hundredths, s_M_hundredths_b51, s_M_size, s_M_size, a3, a4, b3, b4, hI]
  simp only [hra, hrb]
  by_cases ca : 0 ≤ ta.toInt
  · by_cases cb : 0 ≤ tb.toInt
    · simp only [if_pos ca, if_pos cb]
      have e1 : (ta + tb).toInt = ta.toInt + tb.toInt := i32_add (by omega) (by omega)
      have e2 := mul50 (t := ta + tb) (by omega) (by omega)
      have e3 : ((50 : Int32) * (ta + tb) + sa).toInt = 50 * (ta.toInt + tb.toInt) + sa.toInt := by rw [i32_add (by omega) (by omega), e2, e1]
      rw [i32_add (by omega) (by omega), e3]
      omega
    · simp only [if_pos ca, if_neg cb]
      have e0 : (-tb).toInt = -tb.toInt := i32_neg (by omega)
      have e1 : (-tb - ta).toInt = -tb.toInt - ta.toInt := by rw [i32_sub (by omega) (by omega), e0]
      have e2 := mul50 (t := -tb - ta) (by omega) (by omega)
      have e3 : ((50 : Int32) * (-tb - ta) + sb).toInt = 50 * (-tb.toInt - ta.toInt) + sb.toInt := by rw [i32_add (by omega) (by omega), e2, e1]
      rw [i32_sub (by omega) (by omega), e3]
      omega
  · have cb : 0 ≤ tb.toInt := by omega
    simp only [if_neg ca]
    have e0 : (-ta).toInt = -ta.toInt := i32_neg (by omega)
    have e1 : (-ta - tb).toInt = -ta.toInt - tb.toInt := by rw [i32_sub (by omega) (by omega), e0]
    have e2 := mul50 (t := -ta - tb) (by omega) (by omega)
    have e3 : ((50 : Int32) * (-ta - tb) + sa).toInt = 50 * (-ta.toInt - tb.toInt) + sa.toInt := by rw [i32_add (by omega) (by omega), e2, e1]
    rw [i32_sub (by omega) (by omega), e3]
    omega
theorem hund_eq (hB : BN S M) (hP : PM M a b) : s_B_hundredths S a b = s_M_hundredths M a b := Int32.toInt_inj.mp ((hund_c hB hP).trans (hund_m hB hP).symm)
theorem sqr_eq (hB : BN S M) : s_B_square S = s_M_square M := by
  have h := hB.2.1.2.2.2.2
  rw [s_B_square, s_M_square, h]
  rcases g33_3 hB.1 with e | e | e <;> rw [e] <;> decide
theorem keep_eq (hB : BN S M) (t s : Int32) : s_B_keepsLimit S t s = 0 ↔ ¬ s_M_isCut M t s = 0 := by
  rw [s_B_keepsLimit, s_M_isCut, sqr_eq hB]
  simp only [lt32, le32]
  by_cases c : ((200 : Int32) * ((100 : Int32) - s)).toInt ≤ (t * s_M_square M).toInt
  · rw [if_neg (by omega), if_pos c]; decide
  · rw [if_pos (by omega), if_neg c]; decide
end now
