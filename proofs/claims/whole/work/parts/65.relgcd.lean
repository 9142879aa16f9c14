/-! fractions in lowest terms: the class's divisor, the reference's -/
theorem cd_b : ∀ (m n : Nat) (x y : Int64) (z : Int32) (p q : Nat), x.toInt = (p : Int) → y.toInt = (q : Int) → q ≤ p → p * q < 2 ^ m → m < n → 0 ≤ z.toInt → z.toInt + m < 200 → s_P_commonDivisor_b9 n x y z = lN (Nat.gcd p q) := by
  intro m
  have e200 : (200 : Int32).toInt = 200 := by decide
  induction m with
  | zero =>
    intro n x y z p q hx hy hqp hpq hn h0 h1
    obtain ⟨n, rfl⟩ : ∃ n', n = n' + 1 := ⟨n - 1, by omega⟩
    have hq : q = 0 := by
      rcases Nat.eq_zero_or_pos q with h | h
      · exact h
      · have := Nat.mul_le_mul hqp (Nat.le_refl q)
        have := Nat.mul_pos h h
        omega
    subst hq
    rw [s_P_commonDivisor_b9, if_neg (by rw [le32, e200]; omega), if_pos (lcmp_eq.mpr (eq64.mpr (by rw [hy, z64]; rfl))), Nat.gcd_zero_right, ← lN_eqI hx]
  | succ m ih =>
    intro n x y z p q hx hy hqp hpq hn h0 h1
    obtain ⟨n, rfl⟩ : ∃ n', n = n' + 1 := ⟨n - 1, by omega⟩
    rw [s_P_commonDivisor_b9, if_neg (by rw [le32, e200]; omega)]
    by_cases h : lg_cmp y 0 = 0
    · rw [if_pos h]
      have e := lcmp_eq.mp h
      rw [e, z64] at hy
      have hq0 : q = 0 := by omega
      subst hq0
      rw [Nat.gcd_zero_right, ← lN_eqI hx]
    · rw [if_neg h]
      have hne : y.toInt ≠ 0 := fun e => h (lcmp_eq.mpr (Int64.toInt_inj.mp (by rw [e, z64])))
      have hq1 : 0 < q := by omega
      have hm : p % q < q := Nat.mod_lt _ hq1
      have hd := Nat.div_add_mod p q
      have hd1 : 0 < p / q := Nat.div_pos hqp hq1
      have h2 : 2 * (p % q) < p := by
        have := Nat.mul_le_mul (Nat.le_refl q) hd1
        omega
      have h3 : 2 * (q * (p % q)) < 2 ^ (m + 1) := by
        have := (Nat.mul_lt_mul_left hq1).mpr h2
        rw [← Nat.mul_assoc, Nat.mul_comm q 2, Nat.mul_assoc, Nat.mul_comm q p] at this
        omega
      have es : (z + 1).toInt = z.toInt + 1 := i32_suc (by omega)
      rw [ih n y (x - x / y * y) (z + 1) q (p % q) hy (by rw [i64_rem (by omega)]; exact tmodN hx hy) (by omega) (by rw [Nat.pow_succ] at h3; omega) (by omega) (by omega) (by omega)]
      have e : Nat.gcd q (p % q) = Nat.gcd p q := by rw [Nat.gcd_comm p q, Nat.gcd_comm q (p % q), ← Nat.gcd_rec]
      rw [e]
theorem cd_eq {x y : Int64} {p q : Nat} (hx : x.toInt = (p : Int)) (hy : y.toInt = (q : Int)) : s_P_commonDivisor x y = lN (Nat.gcd p q) := by
  have hp := i64_hi x
  have hq := i64_hi y
  rw [s_P_commonDivisor, s_P_commonDivisor_b9, if_neg (by decide)]
  by_cases h : lg_cmp y 0 = 0
  · rw [if_pos h]
    have e := lcmp_eq.mp h
    rw [e, z64] at hy
    have hq0 : q = 0 := by omega
    subst hq0
    rw [Nat.gcd_zero_right, ← lN_eqI hx]
  · rw [if_neg h]
    have hne : y.toInt ≠ 0 := fun e => h (lcmp_eq.mpr (Int64.toInt_inj.mp (by rw [e, z64])))
    have hq1 : 0 < q := by omega
    have hm : p % q < q := Nat.mod_lt _ hq1
    have e1 : ((0 : Int32) + 1).toInt = 1 := by decide
    have h3 : q * (p % q) < 2 ^ 126 := by
      have a1 : q < 2 ^ 63 := by omega
      have a2 : p % q < 2 ^ 63 := by omega
      have := Nat.mul_lt_mul'' a1 a2
      rwa [← Nat.pow_add] at this
    rw [cd_b 126 200 y (x - x / y * y) (0 + 1) q (p % q) hy (by rw [i64_rem (by omega)]; exact tmodN hx hy) (by omega) h3 (by omega) (by omega) (by omega)]
    have e : Nat.gcd q (p % q) = Nat.gcd p q := by rw [Nat.gcd_comm p q, Nat.gcd_comm q (p % q), ← Nat.gcd_rec]
    rw [e]
theorem part_b {a b w : Int64} (hb : 0 < b.toInt) : s_P_partOf_b20 (GD a b) w = w / GD a b := by
  obtain ⟨h1, h2⟩ := GD_toInt (a := a) hb
  have e1 : (1 : Int64).toInt = 1 := by decide
  rw [s_P_partOf_b20]
  by_cases c : lg_cmp (GD a b) 1 ≤ 0
  · rw [if_pos c]
    rw [lcmp_le, le64, e1, h1] at c
    exact eq64.mpr (by rw [i64_div (by rw [h1]; omega), h1, show ((Nat.gcd a.toInt.natAbs b.toInt.toNat : Nat) : Int) = 1 by omega, Int.tdiv_one])
  · rw [if_neg c]
theorem part_eq {S : St} {a b : Int64} {c : Int32} (hb : 0 < b.toInt) (ha : -9223372036854775807 ≤ a.toInt) : s_P_partOf a b c = s_M_part (s_M_lays S a b) c := by
  have eg : s_P_commonDivisor (if 0 < a then a else -a) b = GD a b := by
    by_cases h : 0 < a
    · rw [if_pos h]
      rw [lt64, z64] at h
      exact cd_eq (by omega) (by omega)
    · rw [if_neg h]
      rw [lt64, z64] at h
      exact cd_eq (by rw [i64_neg (by omega)]; omega) (by omega)
  rw [s_P_partOf, eg, part_b hb, part_b hb, s_M_part, lays_eq hb ha, sL_1.1, sL_1.2]
section gc
variable {S M : St} {w a b t v x : Int32}
theorem FM_lays {p q : Int64} : FM M (s_M_lays M p q) := by
  rw [s_M_lays]
  by_cases h : 0 ≤ lg_cmp p 0
  · rw [if_pos h]
    obtain ⟨h1, h2, h3⟩ := lays_21b (q.toInt.toNat + 1) M p q p q
    exact ⟨h2, fun r _ => by rw [h1], h3⟩
  · rw [if_neg h]
    obtain ⟨h1, h2, h3⟩ := lays_21b (q.toInt.toNat + 1) M p q (-p) q
    exact ⟨h2, fun r _ => by rw [h1], h3⟩
theorem BN_lays {p q : Int64} (h : BN S M) : BN S (s_M_lays M p q) := by
  unfold BN
  rw [lays_21]; exact h
theorem Rel_lays {p q : Int64} (h : Rel S M) : Rel S (s_M_lays M p q) := Rel_of h (BN_lays h.1) FR.rf FM_lays
theorem isPt : s_P_isPart x = 0 ↔ s_M_in x.toInt64 (0 : Int64) (1 : Int64) = 0 := by
  have e1 : (1 : Int64).toInt = 1 := by decide
  have e2 : (1 : Int32).toInt = 1 := by decide
  rw [in_i, i64_of, z64, e1, s_P_isPart]
  simp only [eq32, z32, e2]
  by_cases h0 : x.toInt = 0
  · rw [if_pos h0]; exact iff_of_false (by decide) (by omega)
  · rw [if_neg h0]
    by_cases h1 : x.toInt = 1
    · rw [if_pos h1]; exact iff_of_false (by decide) (by omega)
    · rw [if_neg h1]; exact iff_of_true rfl (by omega)
theorem q_distance (h : Rel S M) : s_P_distance S a b x = (s_M_distance M a b x).1 ∧ Rel S (s_M_distance M a b x).2 := by
  have hB := h.1
  rw [s_P_distance, s_M_distance, can_eq hB]
  simp only [isPt]
  by_cases c1 : s_M_isPair M a b = 0
  · rw [if_pos c1, if_pos c1]
    exact ⟨by split <;> rfl, h⟩
  · rw [if_neg c1, if_neg c1]
    by_cases c2 : s_M_in x.toInt64 (0 : Int64) (1 : Int64) = 0
    · rw [if_pos c2, if_pos c2]; exact ⟨rfl, h⟩
    · have hP := PM_of hB.1 c1
      rw [if_neg c2, if_neg c2, clash_eq hB hP, hund_eq hB hP]
      by_cases c3 : s_M_clashes M a b = 0
      · rw [if_pos c3, if_pos c3]
        exact ⟨part_eq (by decide) (i2l_lo _), Rel_lays h⟩
      · rw [if_neg c3, if_neg c3]; exact ⟨rfl, h⟩
theorem sz_c (hB : BN S M) (hw : wl (M.2.1 0) w) : (if 0 ≤ s_N_at S 0 w then s_N_at S 0 w else 0 - s_N_at S 0 w) = s_M_size M w := by
  obtain ⟨t, s, h1, h2, h3, h4, h5, h6, -⟩ := view hB hw
  unfold TV at h5
  have hr : s_M_isRing M w = 0 ↔ 0 ≤ t.toInt := by rw [ring_i, h3]
  rw [h1, s_M_size, h3]
  simp only [hr, le32, z32]
  by_cases c : 0 ≤ t.toInt
  · rw [if_pos c, if_pos c]
  · rw [if_neg c, if_neg c]
    exact eq32.mpr (by rw [sub0 (by omega) (by omega), i32_neg (by omega)])
theorem above_eq (hB : BN S M) (hP : PM M a b) : s_B_above S a b = (s_M_sign M a b).toInt64 * (s_M_size M b).toInt64 := by
  have hz := sz_bd hB.1 hP.2.1
  rw [s_B_above, sz_c hB hP.2.1, s_B_hasRing, ring_eq hB hP.1, ring_eq hB hP.2.1, s_M_sign]
  have e1 : (1 : Int32).toInt64.toInt = 1 := by decide
  have em : (-1 : Int32).toInt64.toInt = -1 := by decide
  have pos : (s_M_size M b).toInt64 = (1 : Int32).toInt64 * (s_M_size M b).toInt64 := eq64.mpr (by rw [i64_mul (by rw [e1, i64_of]; omega) (by rw [e1, i64_of]; omega), e1]; omega)
  have neg : (-(s_M_size M b)).toInt64 = (-1 : Int32).toInt64 * (s_M_size M b).toInt64 := eq64.mpr (by rw [i64_mul (by rw [em, i64_of]; omega) (by rw [em, i64_of]; omega), em, i64_of, i64_of, i32_neg (by omega)]; omega)
  by_cases c1 : s_M_isRing M a = 0
  · rw [if_pos c1]
    by_cases c2 : s_M_isRing M b = 0
    · rw [if_pos c2, if_pos rfl, if_pos c1, if_pos c2]; exact neg
    · rw [if_neg c2, if_neg (show ¬ (1 : Int32) = 0 by decide), if_pos c1, if_neg c2]; exact pos
  · rw [if_neg c1, if_neg (show ¬ (1 : Int32) = 0 by decide), if_neg c1]; exact pos
theorem below_eq (hB : BN S M) (hP : PM M a b) : s_B_below S a b = (s_M_size M a).toInt64 := by rw [s_B_below, sz_c hB hP.1]
theorem q_ratio (h : Rel S M) : s_P_ratio S a b x = (s_M_ratio M a b x).1 ∧ Rel S (s_M_ratio M a b x).2 := by
  have hB := h.1
  rw [s_P_ratio, s_M_ratio, can_eq hB]
  simp only [isPt]
  by_cases c1 : s_M_isPair M a b = 0
  · rw [if_pos c1, if_pos c1]
    exact ⟨by split <;> rfl, h⟩
  · rw [if_neg c1, if_neg c1]
    by_cases c2 : s_M_in x.toInt64 (0 : Int64) (1 : Int64) = 0
    · rw [if_pos c2, if_pos c2]; exact ⟨rfl, h⟩
    · have hP := PM_of hB.1 c1
      rw [if_neg c2, if_neg c2, clash_eq hB hP, above_eq hB hP, below_eq hB hP]
      by_cases c3 : s_M_clashes M a b = 0
      · rw [if_pos c3, if_pos c3]
        exact ⟨part_eq (r_hp hB.1 hP.1) (r_ha hB.1 hP.2.1), Rel_lays h⟩
      · rw [if_neg c3, if_neg c3]; exact ⟨rfl, h⟩
end gc
