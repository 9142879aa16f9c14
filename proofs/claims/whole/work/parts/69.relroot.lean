/-! square roots, contact -/
def SQ (v r : Int) : Prop := 0 ≤ r ∧ r * r ≤ v ∧ v < (r + 1) * (r + 1)
theorem SQ_le {v r t : Int} (h : SQ v r) (ht : 0 ≤ t) (h2 : t * t ≤ v) : t ≤ r := by
  rcases Int.lt_or_le r t with c | c
  · have h3 := h.2.2
    have := Int.mul_le_mul (show r + 1 ≤ t by omega) (show r + 1 ≤ t by omega) (by have := h.1; omega) ht
    omega
  · exact c
theorem SQ_un {v r t : Int} (h : SQ v r) (k : SQ v t) : r = t := by
  have h1 := SQ_le h k.1 k.2.1
  have h2 := SQ_le k h.1 h.2.1
  omega
theorem rm_b (v : Int64) : ∀ (n : Nat) (x y : Int64), RT n x y → x.toInt * x.toInt ≤ v.toInt → v.toInt < y.toInt * y.toInt → SQ v.toInt (s_M_root_b7 n v x y).toInt := by
  intro n
  induction n with
  | zero => intro x y h; exact absurd h RT_z
  | succ n ih =>
    intro x y h h1 h2
    obtain ⟨r0, r1, r2, r3, r4⟩ := h
    have hR : RT (n + 1) x y := ⟨r0, r1, r2, r3, r4⟩
    have e1 : (1 : Int64).toInt = 1 := by decide
    rw [s_M_root_b7]
    by_cases c : lg_cmp (y - x) 1 ≤ 0
    · rw [if_pos c]
      rw [lcmp_le, le64, e1, i64_sub (by omega) (by omega)] at c
      have ey : y.toInt = x.toInt + 1 := by omega
      rw [ey] at h2
      exact ⟨r1, h1, h2⟩
    · rw [if_neg c]
      have em := RT_m hR
      have bm : 0 ≤ (x.toInt + y.toInt) / 2 ∧ (x.toInt + y.toInt) / 2 ≤ 3000000 := by omega
      have eq : (((x + y) / 2) * ((x + y) / 2)).toInt = ((x + y) / 2).toInt * ((x + y) / 2).toInt := by
        have q := mul_bd (a := ((x + y) / 2).toInt) (t := ((x + y) / 2).toInt) (M := 3000000) (N := 3000000) (by omega) (by omega) (by omega)
        exact i64_mul (by omega) (by omega)
      by_cases d : 0 < lg_cmp (((x + y) / 2) * ((x + y) / 2)) v
      · rw [if_pos d]
        rw [lcmp_gt, lt64, eq] at d
        exact ih _ _ (RT_hi hR c) h1 d
      · rw [if_neg d]
        rw [lcmp_gt, lt64, eq] at d
        exact ih _ _ (RT_lo hR c) (by omega) h2
theorem rm_sq {v : Int64} (h0 : 0 ≤ v.toInt) (h1 : v.toInt < 9000000000000) : SQ v.toInt (s_M_root v).toInt := by
  have e3 : (3000000 : Int64).toInt = 3000000 := by decide
  rw [s_M_root]
  exact rm_b v 23 0 3000000 ⟨by decide, by decide, by decide, by decide, by decide⟩ (by rw [z64]; omega) (by rw [e3]; omega)
theorem shl_31 : ∀ b : Nat, b < 31 → ((1 : Int64) <<< ((Int32.ofNat b).toInt64 &&& 63)).toInt = 2 ^ b := by decide +kernel
theorem rc_b (v : Int64) : ∀ (b n : Nat) (x : Int64) (k : Int32), b < n → b ≤ 31 → k.toInt = (b : Int) - 1 → 0 ≤ x.toInt → x.toInt + 2 ^ b ≤ 2147483648 → x.toInt * x.toInt ≤ v.toInt → v.toInt < (x.toInt + 2 ^ b) * (x.toInt + 2 ^ b) → SQ v.toInt (s_P_root_b6 n v x k).toInt := by
  intro b
  induction b with
  | zero =>
    intro n x k hn hb hk h0 h1 h2 h3
    obtain ⟨n, rfl⟩ : ∃ n', n = n' + 1 := ⟨n - 1, by omega⟩
    rw [s_P_root_b6, if_pos (by rw [lt32, z32]; omega)]
    exact ⟨h0, h2, h3⟩
  | succ b ih =>
    intro n x k hn hb hk h0 h1 h2 h3
    obtain ⟨n, rfl⟩ : ∃ n', n = n' + 1 := ⟨n - 1, by omega⟩
    have ek : k = Int32.ofNat b := eq32.mpr (by rw [hk, Int32.toInt_ofNat_of_lt (by omega)]; omega)
    have em : (-1 : Int32).toInt = -1 := by decide
    have es : (k + (-1)).toInt = (b : Int) - 1 := by rw [i32_add (by rw [em]; omega) (by rw [em]; omega), em, hk]; omega
    have hs := shl_31 b (by omega)
    rw [← ek] at hs
    rw [s_P_root_b6, if_neg (by rw [lt32, z32]; omega)]
    generalize (1 : Int64) <<< (k.toInt64 &&& 63) = u at hs ⊢
    have hp : (2 : Int) ^ (b + 1) = 2 ^ b + 2 ^ b := by rw [Int.pow_succ]; omega
    rw [hp] at h1 h3
    have hpos : (0 : Int) < 2 ^ b := Int.pow_pos (by omega)
    generalize (2 : Int) ^ b = P at *
    have et : (x + u).toInt = x.toInt + P := by rw [i64_add (by omega) (by omega), hs]
    have eq : ((x + u) * (x + u)).toInt = (x.toInt + P) * (x.toInt + P) := by
      have q := mul_bd (a := x.toInt + P) (t := x.toInt + P) (M := 2147483648) (N := 2147483648) (by omega) (by omega) (by omega)
      rw [i64_mul (by rw [et]; omega) (by rw [et]; omega), et]
    by_cases d : 0 < lg_cmp ((x + u) * (x + u)) v
    · rw [if_pos d]
      rw [lcmp_gt, lt64, eq] at d
      exact ih n x _ (by omega) (by omega) es h0 (by omega) h2 d
    · rw [if_neg d]
      rw [lcmp_gt, lt64, eq] at d
      refine ih n (x + u) _ (by omega) (by omega) es (by omega) (by omega) (by rw [et]; omega) ?_
      rw [et, Int.add_assoc]; exact h3
theorem rc_sq {v : Int64} (h0 : 0 ≤ v.toInt) (h1 : v.toInt < 9000000000000) : SQ v.toInt (s_P_root v).toInt := by
  rw [s_P_root]
  exact rc_b v 31 32 0 30 (by omega) (by omega) (by decide) (by decide) (by decide) (by rw [z64]; omega) (by rw [z64]; omega)
theorem root_eq {v : Int64} (h0 : 0 ≤ v.toInt) (h1 : v.toInt < 9000000000000) : s_P_root v = s_M_root v := eq64.mpr (SQ_un (rc_sq h0 h1) (rm_sq h0 h1))
section ct
variable {S M : St} {w a b x : Int32}
theorem sq_bd (hG : GI (M.2.1 0)) : 627 ≤ (s_M_square M).toInt ∧ (s_M_square M).toInt ≤ 1786 := by
  rcases sq_3 hG with q | q | q <;> rw [q] <;> decide
theorem cos_eq (hB : BN S M) : s_B_cosine S = s_M_root (((10000 : Int64) - (s_M_square M).toInt64) * (10000 : Int64)) := by
  have h := sq_bd hB.1
  have e : (10000 : Int64).toInt = 10000 := by decide
  have e1 : ((10000 : Int64) - (s_M_square M).toInt64).toInt = 10000 - (s_M_square M).toInt := by rw [i64_sub (by rw [e, i64_of]; omega) (by rw [e, i64_of]; omega), e, i64_of]
  have e2 : (((10000 : Int64) - (s_M_square M).toInt64) * (10000 : Int64)).toInt = (10000 - (s_M_square M).toInt) * 10000 := by rw [i64_mul (by rw [e1, e]; omega) (by rw [e1, e]; omega), e1, e]
  rw [s_B_cosine, sqr_eq hB]
  exact root_eq (by rw [e2]; omega) (by rw [e2]; omega)
theorem rch_eq (hB : BN S M) (hw : wl (M.2.1 0) w) (hp : 0 ≤ (s_M_teeth M w).toInt) : s_B_reach S w = s_M_reach M w := by
  have ha := arm_i hB hw
  rw [if_pos hp] at ha
  have h := sq_bd hB.1
  obtain ⟨t, s, h1, h2, h3, h4, h5, h6, -⟩ := view hB hw
  unfold TV at h5
  unfold TS at h6
  rw [h3, h4] at ha
  rw [h3] at hp
  have e100 : (100 : Int32).toInt = 100 := by decide
  have f100 : (100 : Int64).toInt = 100 := by decide
  have f50 : (50 : Int64).toInt = 50 := by decide
  have e1 : (s_B_arm S w + 100).toInt = 50 * t.toInt + s.toInt + 100 := by rw [i32_add (by omega) (by omega), ha, e100]
  have e2 : ((50 : Int64) * t.toInt64).toInt = 50 * t.toInt := by rw [i64_mul (by rw [f50, i64_of]; omega) (by rw [f50, i64_of]; omega), f50, i64_of]
  have e3 : ((50 : Int64) * t.toInt64 + 100).toInt = 50 * t.toInt + 100 := by rw [i64_add (by omega) (by omega), e2, f100]
  have ex : (s_B_arm S w + (100 : Int32)).toInt64 = ((50 : Int64) * t.toInt64 + (100 : Int64)) + s.toInt64 := eq64.mpr (by rw [i64_of, e1, i64_add (by rw [e3, i64_of]; omega) (by rw [e3, i64_of]; omega), e3, i64_of]; omega)
  have g1 : (10000 : Int32).toInt = 10000 := by decide
  have g2 : (10000 : Int64).toInt = 10000 := by decide
  have ec : ((10000 : Int32) - s_M_square M).toInt64 = (10000 : Int64) - (s_M_square M).toInt64 := eq64.mpr (by rw [i64_of, i32_sub (by omega) (by omega), i64_sub (by rw [g2, i64_of]; omega) (by rw [g2, i64_of]; omega), g1, g2, i64_of])
  have vx : (((50 : Int64) * t.toInt64 + (100 : Int64)) + s.toInt64).toInt = 50 * t.toInt + 100 + s.toInt := by rw [i64_add (by rw [e3, i64_of]; omega) (by rw [e3, i64_of]; omega), e3, i64_of]
  have vc : ((10000 : Int64) - (s_M_square M).toInt64).toInt = 10000 - (s_M_square M).toInt := by rw [i64_sub (by rw [g2, i64_of]; omega) (by rw [g2, i64_of]; omega), g2, i64_of]
  rw [s_B_reach, s_M_reach, sqr_eq hB, h1, h3, h4, ex, ec]
  generalize ((50 : Int64) * t.toInt64 + (100 : Int64)) + s.toInt64 = X at vx ⊢
  generalize (10000 : Int64) - (s_M_square M).toInt64 = C at vc ⊢
  have v4 : (4 : Int64).toInt = 4 := by decide
  have v25 : (2500 : Int64).toInt = 2500 := by decide
  have bx : 0 ≤ X.toInt ∧ X.toInt ≤ 5150 := by omega
  have bc : 0 ≤ C.toInt ∧ C.toInt ≤ 10000 := by omega
  have m1 : ((4 : Int64) * X).toInt = 4 * X.toInt := by rw [i64_mul (by rw [v4]; omega) (by rw [v4]; omega), v4]
  have q2 := mul_bd (a := 4 * X.toInt) (t := X.toInt) (M := 20600) (N := 5150) (by omega) (by omega) (by omega)
  have p2 := Int.mul_nonneg (show 0 ≤ 4 * X.toInt by omega) bx.1
  have m2 : ((4 : Int64) * X * X).toInt = 4 * X.toInt * X.toInt := by rw [i64_mul (by rw [m1]; omega) (by rw [m1]; omega), m1]
  have q3 := mul_bd (a := t.toInt) (t := t.toInt) (M := 99) (N := 99) (by omega) (by omega) (by omega)
  have p3 := Int.mul_nonneg hp hp
  have m3 : (t.toInt64 * t.toInt64).toInt = t.toInt * t.toInt := by rw [i64_mul (by rw [i64_of]; omega) (by rw [i64_of]; omega), i64_of]
  have q4 := mul_bd (a := t.toInt * t.toInt) (t := C.toInt) (M := 9801) (N := 10000) (by omega) (by omega) (by omega)
  have p4 := Int.mul_nonneg p3 bc.1
  have m4 : (t.toInt64 * t.toInt64 * C).toInt = t.toInt * t.toInt * C.toInt := by rw [i64_mul (by rw [m3]; omega) (by rw [m3]; omega), m3]
  have m5 : ((4 : Int64) * X * X - t.toInt64 * t.toInt64 * C).toInt = 4 * X.toInt * X.toInt - t.toInt * t.toInt * C.toInt := by rw [i64_sub (by omega) (by omega), m2, m4]
  have m6 : (((4 : Int64) * X * X - t.toInt64 * t.toInt64 * C) * 2500).toInt = (4 * X.toInt * X.toInt - t.toInt * t.toInt * C.toInt) * 2500 := by rw [i64_mul (by rw [m5, v25]; omega) (by rw [m5, v25]; omega), m5, v25]
  by_cases c : 0 ≤ lg_cmp (((4 : Int64) * X * X - t.toInt64 * t.toInt64 * C) * 2500) 0
  · rw [if_pos c, if_pos c]
    rw [lcmp_ge, le64, z64] at c
    exact root_eq c (by rw [m6]; omega)
  · rw [if_neg c, if_neg c]
theorem pth_eq (hB : BN S M) (hP : PM M a b) (ca : s_M_isRing M a = 0) (cb : s_M_isRing M b = 0) : s_B_path S a b = ((s_M_reach M a) + (s_M_reach M b)) - (s_M_root ((((s_M_hundredths M a b).toInt64) * ((s_M_hundredths M a b).toInt64)) * ((s_M_square M).toInt64))) := by
  have h := sq_bd hB.1
  have hh : s_B_arm S a + s_B_arm S b = s_M_hundredths M a b := by
    rw [← hund_eq hB hP, s_B_hundredths, ring_eq hB hP.1, ring_eq hB hP.2.1, if_pos ca, if_pos cb]
  have hv := hund_m hB hP
  have na := ring_i.mp ca
  have nb := ring_i.mp cb
  obtain ⟨ta, sa, a1, a2, a3, a4, a5, a6, -⟩ := view hB hP.1
  obtain ⟨tb, sb, b1, b2, b3, b4, b5, b6, -⟩ := view hB hP.2.1
  unfold TV at a5 b5
  unfold TS at a6 b6
  rw [a3] at na
  rw [b3] at nb
  rw [a3, b3, a4, b4, hI, if_pos na, if_pos nb] at hv
  rw [s_B_path, rch_eq hB hP.1 (ring_i.mp ca), rch_eq hB hP.2.1 (ring_i.mp cb), hh, sqr_eq hB]
  have bd : 0 ≤ (s_M_hundredths M a b).toInt ∧ (s_M_hundredths M a b).toInt ≤ 10100 := by omega
  generalize s_M_hundredths M a b = d at bd ⊢
  have q2 := mul_bd (a := d.toInt) (t := d.toInt) (M := 10100) (N := 10100) (by omega) (by omega) (by omega)
  have p2 := Int.mul_nonneg bd.1 bd.1
  have m2 : (d.toInt64 * d.toInt64).toInt = d.toInt * d.toInt := by rw [i64_mul (by rw [i64_of]; omega) (by rw [i64_of]; omega), i64_of]
  have q3 := mul_bd (a := d.toInt * d.toInt) (t := (s_M_square M).toInt) (M := 102010000) (N := 1786) (by omega) (by omega) (by omega)
  have p3 := Int.mul_nonneg p2 (show 0 ≤ (s_M_square M).toInt by omega)
  have m3 : (d.toInt64 * d.toInt64 * (s_M_square M).toInt64).toInt = d.toInt * d.toInt * (s_M_square M).toInt := by rw [i64_mul (by rw [m2, i64_of]; omega) (by rw [m2, i64_of]; omega), m2, i64_of]
  rw [root_eq (by rw [m3]; exact p3) (by rw [m3]; omega)]
theorem mx_eq (t : Int64) : (if t < (0 : Int64) then (0 : Int64) else t) = s_M_contact_b144 M t := by
  rw [s_M_contact_b144]
  by_cases c : t < 0
  · rw [if_pos c, if_neg (fun q => by rw [lcmp_ge, le64, z64] at q; rw [lt64, z64] at c; omega)]
  · rw [if_neg c, if_pos (by rw [lcmp_ge, le64, z64]; rw [lt64, z64] at c; omega)]
theorem hi_eq (x h : Int64) : x - h + 2 = x + 2 - h := by
  rw [Int64.sub_eq_add_neg, Int64.sub_eq_add_neg, Int64.add_assoc, Int64.add_assoc, Int64.add_comm (-h) 2]
theorem q_contact (h : Rel S M) : s_P_contact S a b x = s_M_contact M a b x := by
  have hB := h.1
  have e1 : (1 : Int64).toInt = 1 := by decide
  have e2 : (1 : Int32).toInt = 1 := by decide
  have ei : s_M_in x.toInt64 (0 : Int64) (1 : Int64) = 0 ↔ ¬ (0 ≤ x.toInt ∧ x.toInt ≤ 1) := by rw [in_i, i64_of, z64, e1]
  rw [s_P_contact, s_M_contact, can_eq hB]
  by_cases c : 0 ≤ x.toInt ∧ x.toInt ≤ 1
  · rw [if_neg (show ¬ x < 0 by rw [lt32, z32]; omega), if_neg (show ¬ (1 : Int32) < x by rw [lt32, e2]; omega)]
    by_cases c1 : s_M_isPair M a b = 0
    · rw [if_pos c1, if_pos c1]
    · have hP := PM_of hB.1 c1
      rw [if_neg c1, if_neg c1, s_B_hasRing, ring_eq hB hP.1, ring_eq hB hP.2.1]
      by_cases ca : s_M_isRing M a = 0
      · by_cases cb : s_M_isRing M b = 0
        · have hn : ¬ s_M_in x.toInt64 (0 : Int64) (1 : Int64) = 0 := fun q => ei.mp q c
          simp only [if_pos ca, if_pos cb, if_true, if_neg hn]
          rw [s_B_lowContact, s_B_lowContact_b35, s_B_lowContact_b35, s_B_highContact, s_B_highContact_b35, s_B_highContact_b35, pth_eq hB hP ca cb, cos_eq hB, if_neg (fun q => ct_ne1 hB.1 (lcmp_eq.mp q)), if_neg (fun q => ct_ne2 hB.1 (lcmp_eq.mp q)), mx_eq (M := M), mx_eq (M := M), hi_eq]
        · simp only [if_pos ca, if_neg cb, if_neg (show ¬ (1 : Int32) = 0 by decide)]
      · simp only [if_neg ca, if_neg (show ¬ (1 : Int32) = 0 by decide)]
  · have hn := ei.mpr c
    have em : (if s_M_isPair M a b = 0 then (-9223372036854775808 : Int64) else (if s_M_isRing M a = 0 then (if s_M_isRing M b = 0 then (-9223372036854775808 : Int64) else (-9223372036854775808 : Int64)) else (-9223372036854775808 : Int64))) = (-9223372036854775808 : Int64) := by split <;> (try split) <;> (try split) <;> rfl
    simp only [if_pos hn]
    rw [em]
    by_cases d : x < 0
    · rw [if_pos d]
    · rw [if_neg d, if_pos (show (1 : Int32) < x by rw [lt32, z32] at d; rw [lt32, e2]; omega)]
end ct
