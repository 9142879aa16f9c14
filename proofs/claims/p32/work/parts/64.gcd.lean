/-! the greatest common divisor (out of whole's parts: wip/p32/pick.py) -/
theorem lN_eqI {x : Int64} {n : Nat} (h : x.toInt = (n : Int)) : x = lN n := by
  have := i64_hi x
  exact Int64.toInt_inj.mp (by rw [h, pk_lT (by omega)])
theorem tmodN {x y : Int} {p q : Nat} (hx : x = (p : Int)) (hy : y = (q : Int)) : x.tmod y = ((p % q : Nat) : Int) := by
  subst hx; subst hy
  rw [Int.tmod_eq_emod_of_nonneg (by omega)]
  rfl
def GD (a b : Int64) : Int64 := lN (Nat.gcd a.toInt.natAbs b.toInt.toNat)
theorem GD_toInt {a b : Int64} (hb : 0 < b.toInt) : (GD a b).toInt = (Nat.gcd a.toInt.natAbs b.toInt.toNat : Int) ∧ 0 < Nat.gcd a.toInt.natAbs b.toInt.toNat := by
  have h1 : 0 < Nat.gcd a.toInt.natAbs b.toInt.toNat := Nat.gcd_pos_of_pos_right _ (by omega)
  have h2 : Nat.gcd a.toInt.natAbs b.toInt.toNat ≤ b.toInt.toNat := Nat.gcd_le_right _ (by omega)
  have := i64_hi b
  exact ⟨pk_lT (by omega), h1⟩
theorem GD_dvd_a {a b : Int64} : ((Nat.gcd a.toInt.natAbs b.toInt.toNat : Nat) : Int) ∣ a.toInt := by
  rw [← Int.dvd_natAbs]
  exact Int.natCast_dvd_natCast.mpr (Nat.gcd_dvd_left _ _)
theorem GD_dvd_b {a b : Int64} (hb : 0 < b.toInt) : ((Nat.gcd a.toInt.natAbs b.toInt.toNat : Nat) : Int) ∣ b.toInt := by
  have h : ((Nat.gcd a.toInt.natAbs b.toInt.toNat : Nat) : Int) ∣ ((b.toInt.toNat : Nat) : Int) := Int.natCast_dvd_natCast.mpr (Nat.gcd_dvd_right _ _)
  rwa [Int.toNat_of_nonneg (by omega)] at h
theorem cd_b : ∀ (m n : Nat) (x y : Int64) (z : Int32) (p q : Nat), x.toInt = (p : Int) → y.toInt = (q : Int) → q ≤ p → p * q < 2 ^ m → m < n → 0 ≤ z.toInt → z.toInt + m < 200 → s_P_commonDivisor_b9 n x y z = lN (Nat.gcd p q) := by
  intro m
  have e200 : (200 : Int32).toInt = 200 := by decide
  induction m with
  | zero =>
    intro n x y z p q hx hy hqp hpq hn h0 h1
    obtain ⟨n, rfl⟩ : ∃ n', n = n' + 1 := ⟨n - 1, by omega⟩
    have hq : q = 0 := by
      rcases Nat.eq_zero_or_pos q with h | h
      · exact h
      · have := Nat.mul_le_mul hqp (Nat.le_refl q)
        have := Nat.mul_pos h h
        omega
    subst hq
    rw [s_P_commonDivisor_b9, if_neg (by rw [le32, e200]; omega), if_pos (lcmp_eq.mpr (eq64.mpr (by rw [hy, z64]; rfl))), Nat.gcd_zero_right, ← lN_eqI hx]
  | succ m ih =>
    intro n x y z p q hx hy hqp hpq hn h0 h1
    obtain ⟨n, rfl⟩ : ∃ n', n = n' + 1 := ⟨n - 1, by omega⟩
    rw [s_P_commonDivisor_b9, if_neg (by rw [le32, e200]; omega)]
    by_cases h : lg_cmp y 0 = 0
    · rw [if_pos h]
      have e := lcmp_eq.mp h
      rw [e, z64] at hy
      have hq0 : q = 0 := by omega
      subst hq0
      rw [Nat.gcd_zero_right, ← lN_eqI hx]
    · rw [if_neg h]
      have hne : y.toInt ≠ 0 := fun e => h (lcmp_eq.mpr (Int64.toInt_inj.mp (by rw [e, z64])))
      have hq1 : 0 < q := by omega
      have hm : p % q < q := Nat.mod_lt _ hq1
      have hd := Nat.div_add_mod p q
      have hd1 : 0 < p / q := Nat.div_pos hqp hq1
      have h2 : 2 * (p % q) < p := by
        have := Nat.mul_le_mul (Nat.le_refl q) hd1
        omega
      have h3 : 2 * (q * (p % q)) < 2 ^ (m + 1) := by
        have := (Nat.mul_lt_mul_left hq1).mpr h2
        rw [← Nat.mul_assoc, Nat.mul_comm q 2, Nat.mul_assoc, Nat.mul_comm q p] at this
        omega
      have es : (z + 1).toInt = z.toInt + 1 := i32_suc (by omega)
      rw [ih n y (x - x / y * y) (z + 1) q (p % q) hy (by rw [i64_rem (by omega)]; exact tmodN hx hy) (by omega) (by rw [Nat.pow_succ] at h3; omega) (by omega) (by omega) (by omega)]
      have e : Nat.gcd q (p % q) = Nat.gcd p q := by rw [Nat.gcd_comm p q, Nat.gcd_comm q (p % q), ← Nat.gcd_rec]
      rw [e]
theorem cd_eq {x y : Int64} {p q : Nat} (hx : x.toInt = (p : Int)) (hy : y.toInt = (q : Int)) : s_P_commonDivisor x y = lN (Nat.gcd p q) := by
  have hp := i64_hi x
  have hq := i64_hi y
  rw [s_P_commonDivisor, s_P_commonDivisor_b9, if_neg (by decide)]
  by_cases h : lg_cmp y 0 = 0
  · rw [if_pos h]
    have e := lcmp_eq.mp h
    rw [e, z64] at hy
    have hq0 : q = 0 := by omega
    subst hq0
    rw [Nat.gcd_zero_right, ← lN_eqI hx]
  · rw [if_neg h]
    have hne : y.toInt ≠ 0 := fun e => h (lcmp_eq.mpr (Int64.toInt_inj.mp (by rw [e, z64])))
    have hq1 : 0 < q := by omega
    have hm : p % q < q := Nat.mod_lt _ hq1
    have e1 : ((0 : Int32) + 1).toInt = 1 := by decide
    have h3 : q * (p % q) < 2 ^ 126 := by
      have a1 : q < 2 ^ 63 := by omega
      have a2 : p % q < 2 ^ 63 := by omega
      have := Nat.mul_lt_mul'' a1 a2
      rwa [← Nat.pow_add] at this
    rw [cd_b 126 200 y (x - x / y * y) (0 + 1) q (p % q) hy (by rw [i64_rem (by omega)]; exact tmodN hx hy) (by omega) h3 (by omega) (by omega) (by omega)]
    have e : Nat.gcd q (p % q) = Nat.gcd p q := by rw [Nat.gcd_comm p q, Nat.gcd_comm q (p % q), ← Nat.gcd_rec]
    rw [e]
theorem part_b {a b w : Int64} (hb : 0 < b.toInt) : s_P_partOf_b20 (GD a b) w = w / GD a b := by
  obtain ⟨h1, h2⟩ := GD_toInt (a := a) hb
  have e1 : (1 : Int64).toInt = 1 := by decide
  rw [s_P_partOf_b20]
  by_cases c : lg_cmp (GD a b) 1 ≤ 0
  · rw [if_pos c]
    rw [lcmp_le, le64, e1, h1] at c
    exact eq64.mpr (by rw [i64_div (by rw [h1]; omega), h1, show ((Nat.gcd a.toInt.natAbs b.toInt.toNat : Nat) : Int) = 1 by omega, Int.tdiv_one])
  · rw [if_neg c]
/-- a part of a fraction, as whole numbers -/
theorem part_t {a b : Int64} {c : Int32} (hb : 0 < b.toInt) (ha : -9223372036854775807 ≤ a.toInt) : (s_P_partOf a b c).toInt = if c = 0 then a.toInt.tdiv (Nat.gcd a.toInt.natAbs b.toInt.toNat : Nat) else b.toInt.tdiv (Nat.gcd a.toInt.natAbs b.toInt.toNat : Nat) := by
  have eg : s_P_commonDivisor (if 0 < a then a else -a) b = GD a b := by
    by_cases h : 0 < a
    · rw [if_pos h]
      rw [lt64, z64] at h
      exact cd_eq (by omega) (by omega)
    · rw [if_neg h]
      rw [lt64, z64] at h
      exact cd_eq (by rw [i64_neg (by omega)]; omega) (by omega)
  obtain ⟨h1, h2⟩ := GD_toInt (a := a) hb
  rw [s_P_partOf, eg, part_b hb, part_b hb]
  by_cases c0 : c = 0
  · rw [if_pos c0, if_pos c0, i64_div (by rw [h1]; omega), h1]
  · rw [if_neg c0, if_neg c0, i64_div (by rw [h1]; omega), h1]
/-- Z by D in lowest terms, Z with a sign: what the two parts are -/
theorem part_pq {a b : Int64} {Z D : Nat} (hZ : 0 < Z) (hD : 0 < D) (hb : b.toInt = (D : Int)) (ha : a.toInt = (Z : Int) ∨ a.toInt = -(Z : Int)) (hs : Z < 4000000000000000000) :
    (s_P_partOf a b 1).toInt = ((D / Nat.gcd Z D : Nat) : Int) ∧ (a.toInt = (Z : Int) → (s_P_partOf a b 0).toInt = ((Z / Nat.gcd Z D : Nat) : Int)) ∧ (a.toInt = -(Z : Int) → (s_P_partOf a b 0).toInt = -((Z / Nat.gcd Z D : Nat) : Int)) ∧ 0 < Z / Nat.gcd Z D ∧ 0 < D / Nat.gcd Z D := by
  have e1 : a.toInt.natAbs = Z := by omega
  have e2 : b.toInt.toNat = D := by omega
  have hg : 0 < Nat.gcd Z D := Nat.gcd_pos_of_pos_left _ hZ
  have q1 : 0 < Z / Nat.gcd Z D := Nat.div_pos (Nat.gcd_le_left _ hZ) hg
  have q2 : 0 < D / Nat.gcd Z D := Nat.div_pos (Nat.gcd_le_right _ hD) hg
  refine ⟨?_, fun h => ?_, fun h => ?_, q1, q2⟩
  · rw [part_t (by omega) (by omega), if_neg (by decide), e1, e2, hb]; rfl
  · rw [part_t (by omega) (by omega), if_pos rfl, e1, e2, h]; rfl
  · rw [part_t (by omega) (by omega), if_pos rfl, e1, e2, h, Int.neg_tdiv]; rfl
theorem isPt : s_P_isPart (0 : Int32) = 1 ∧ s_P_isPart (1 : Int32) = 1 := by decide
