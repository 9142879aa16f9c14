/-! the greatest common divisor in the reference (lays) and in the class (commonDivisor); the bounds that the walk of train needs -/
theorem lN_eqI {x : Int64} {n : Nat} (h : x.toInt = (n : Int)) : x = lN n := by
  have := i64_hi x
  exact Int64.toInt_inj.mp (by rw [h, pk_lT (by omega)])
theorem tmodN {x y : Int} {p q : Nat} (hx : x = (p : Int)) (hy : y = (q : Int)) : x.tmod y = ((p % q : Nat) : Int) := by
  subst hx; subst hy
  rw [Int.tmod_eq_emod_of_nonneg (by omega)]
  rfl
theorem lays_b : ∀ (n : Nat) (Z : St) (a b x y : Int64) (p q : Nat), x.toInt = (p : Int) → y.toInt = (q : Int) → q < n → s_M_lays_b17 n Z a b x y = sL (sL Z 1 0 (a / lN (Nat.gcd p q))) 1 1 (b / lN (Nat.gcd p q)) := by
  intro n
  induction n with
  | zero => intro Z a b x y p q hx hy hq; omega
  | succ n ih =>
    intro Z a b x y p q hx hy hq
    rw [s_M_lays_b17]
    by_cases h : lg_cmp y 0 = 0
    · rw [if_pos h]
      have e := lcmp_eq.mp h
      rw [e, z64] at hy
      have hq0 : q = 0 := by omega
      subst hq0
      rw [Nat.gcd_zero_right, lN_eqI hx]
    · rw [if_neg h]
      have hne : y.toInt ≠ 0 := fun e => h (lcmp_eq.mpr (Int64.toInt_inj.mp (by rw [e, z64])))
      have hq1 : 0 < q := by omega
      have hm : p % q < q := Nat.mod_lt _ hq1
      rw [ih Z a b y (x - x / y * y) q (p % q) hy (by rw [i64_rem (by omega)]; exact tmodN hx hy) (by omega)]
      have e : Nat.gcd q (p % q) = Nat.gcd p q := by rw [Nat.gcd_comm p q, Nat.gcd_comm q (p % q), ← Nat.gcd_rec]
      rw [e]
/-- the divisor of both, as the reference has it -/
def GD (a b : Int64) : Int64 := lN (Nat.gcd a.toInt.natAbs b.toInt.toNat)
theorem lays_eq {S : St} {a b : Int64} (hb : 0 < b.toInt) (ha : -9223372036854775807 ≤ a.toInt) : s_M_lays S a b = sL (sL S 1 0 (a / GD a b)) 1 1 (b / GD a b) := by
  rw [s_M_lays]
  by_cases h : 0 ≤ lg_cmp a 0
  · rw [if_pos h]
    have h1 := h
    rw [lcmp_ge, Int64.le_iff_toInt_le, z64] at h1
    exact lays_b _ S a b a b a.toInt.natAbs b.toInt.toNat (by omega) (by omega) (by omega)
  · rw [if_neg h]
    have h1 := h
    rw [lcmp_ge, Int64.le_iff_toInt_le, z64] at h1
    exact lays_b _ S a b (-a) b a.toInt.natAbs b.toInt.toNat (by rw [i64_neg (by omega)]; omega) (by omega) (by omega)
theorem GD_toInt {a b : Int64} (hb : 0 < b.toInt) : (GD a b).toInt = (Nat.gcd a.toInt.natAbs b.toInt.toNat : Int) ∧ 0 < Nat.gcd a.toInt.natAbs b.toInt.toNat := by
  have h1 : 0 < Nat.gcd a.toInt.natAbs b.toInt.toNat := Nat.gcd_pos_of_pos_right _ (by omega)
  have h2 : Nat.gcd a.toInt.natAbs b.toInt.toNat ≤ b.toInt.toNat := Nat.gcd_le_right _ (by omega)
  have := i64_hi b
  exact ⟨pk_lT (by omega), h1⟩
theorem GD_dvd_a {a b : Int64} : ((Nat.gcd a.toInt.natAbs b.toInt.toNat : Nat) : Int) ∣ a.toInt := by
  rw [← Int.dvd_natAbs]
  exact Int.natCast_dvd_natCast.mpr (Nat.gcd_dvd_left _ _)
theorem GD_dvd_b {a b : Int64} (hb : 0 < b.toInt) : ((Nat.gcd a.toInt.natAbs b.toInt.toNat : Nat) : Int) ∣ b.toInt := by
  have h : ((Nat.gcd a.toInt.natAbs b.toInt.toNat : Nat) : Int) ∣ ((b.toInt.toNat : Nat) : Int) := Int.natCast_dvd_natCast.mpr (Nat.gcd_dvd_right _ _)
  rwa [Int.toNat_of_nonneg (by omega)] at h
/-- the parts laid, as whole numbers: exact quotients -/
theorem lay_a {a b : Int64} (hb : 0 < b.toInt) : (a / GD a b).toInt * (Nat.gcd a.toInt.natAbs b.toInt.toNat : Int) = a.toInt := by
  obtain ⟨h1, h2⟩ := GD_toInt (a := a) hb
  rw [i64_div (by rw [h1]; omega), h1]
  exact Int.tdiv_mul_cancel GD_dvd_a
theorem lay_b {a b : Int64} (hb : 0 < b.toInt) : (b / GD a b).toInt * (Nat.gcd a.toInt.natAbs b.toInt.toNat : Int) = b.toInt := by
  obtain ⟨h1, h2⟩ := GD_toInt (a := a) hb
  rw [i64_div (by rw [h1]; omega), h1]
  exact Int.tdiv_mul_cancel (GD_dvd_b hb)
theorem le_mul_pos {x : Int} {g : Nat} (hx : 0 ≤ x) (hg : 0 < g) : x ≤ x * (g : Int) := by
  have := Int.mul_le_mul_of_nonneg_left (show (1 : Int) ≤ (g : Int) by omega) hx
  omega
theorem lay_bd {a b : Int64} {M : Int} (hb : 0 < b.toInt) (ha : -M ≤ a.toInt ∧ a.toInt ≤ M) (hM : b.toInt ≤ M) : (-M ≤ (a / GD a b).toInt ∧ (a / GD a b).toInt ≤ M) ∧ 0 < (b / GD a b).toInt ∧ (b / GD a b).toInt ≤ M := by
  obtain ⟨h1, h2⟩ := GD_toInt (a := a) hb
  have e1 := lay_a (a := a) hb
  have e2 := lay_b (a := a) hb
  generalize Nat.gcd a.toInt.natAbs b.toInt.toNat = g at e1 e2 h2
  generalize (a / GD a b).toInt = u at e1 ⊢
  generalize (b / GD a b).toInt = v at e2 ⊢
  have hv : 0 < v := by
    rcases Int.lt_or_le 0 v with h | h
    · exact h
    · have := Int.mul_le_mul_of_nonneg_right h (show (0 : Int) ≤ (g : Int) by omega)
      omega
  have hv2 := le_mul_pos (x := v) (by omega) h2
  refine ⟨?_, hv, by omega⟩
  rcases Int.le_total 0 u with h | h
  · have := le_mul_pos h h2
    exact ⟨by omega, by omega⟩
  · have := le_mul_pos (x := -u) (by omega) h2
    rw [Int.neg_mul] at this
    exact ⟨by omega, by omega⟩
theorem sL_1 {S : St} {x y : Int64} : (sL (sL S 1 0 x) 1 1 y).2.2 1 0 = x ∧ (sL (sL S 1 0 x) 1 1 y).2.2 1 1 = y := by
  refine ⟨?_, ?_⟩ <;> simp [sL, sG, va_up, vp_updL]
theorem sL_o {S : St} {x y : Int64} : (sL (sL S 1 0 x) 1 1 y).1 = S.1 ∧ (sL (sL S 1 0 x) 1 1 y).2.1 = S.2.1 ∧ (sL (sL S 1 0 x) 1 1 y).2.2 0 = S.2.2 0 := ⟨rfl, rfl, by simp [sL, sG, va_up]⟩
/-! train's numbers: k pairs' products stay below 99 to the k -/
def T9 (k : Int32) (a b : Int64) : Prop := k.toInt ≤ 9 ∧ (-(99 ^ k.toInt.toNat) ≤ a.toInt ∧ a.toInt ≤ 99 ^ k.toInt.toNat) ∧ 0 < b.toInt ∧ b.toInt ≤ 99 ^ k.toInt.toNat
theorem p99 {k : Nat} (h : k ≤ 8) : (1 : Int) ≤ 99 ^ k ∧ (99 : Int) ^ k ≤ 9227446944279201 := by
  match k, h with
  | 0, _ => decide
  | 1, _ => decide
  | 2, _ => decide
  | 3, _ => decide
  | 4, _ => decide
  | 5, _ => decide
  | 6, _ => decide
  | 7, _ => decide
  | 8, _ => decide
  | k + 9, h => omega
theorem mul_bd {a t M N : Int} (ha : -M ≤ a ∧ a ≤ M) (ht : -N ≤ t ∧ t ≤ N) (hM : 0 ≤ M) : -(M * N) ≤ a * t ∧ a * t ≤ M * N := by
  have h1 : a.natAbs ≤ M.natAbs := by omega
  have h2 : t.natAbs ≤ N.natAbs := by omega
  have h3 : (a * t).natAbs ≤ (M * N).natAbs := by rw [Int.natAbs_mul, Int.natAbs_mul]; exact Nat.mul_le_mul h1 h2
  have h4 : 0 ≤ M * N := Int.mul_nonneg hM (by omega)
  omega
theorem sz_bd {S : St} {w : Int32} (hG : GI (S.2.1 0)) (hw : wl (S.2.1 0) w) : 5 ≤ (s_M_size S w).toInt ∧ (s_M_size S w).toInt ≤ 99 := by
  obtain ⟨g1, -, -, g4, -⟩ := hG
  have e : ((1 : Int32) + w).toNatClampNeg = 1 + w.toNatClampNeg := ad_tn (C := 1) (by decide) hw.1 (by have := hw.2; omega)
  have ht : s_M_teeth S w = S.2.1 0 (1 + w.toNatClampNeg) := by rw [s_M_teeth, e]
  have hv := g4 w.toNatClampNeg (by rw [i32_tn hw.1]; exact hw.2)
  rw [← ht] at hv
  unfold TV at hv
  rw [s_M_size, s_M_isRing]
  have z : (0 : Int32).toInt = 0 := by decide
  by_cases c : 0 ≤ s_M_teeth S w
  · rw [if_pos c, if_pos rfl]
    rw [Int32.le_iff_toInt_le, z] at c
    rcases hv with h | h
    · omega
    · exact h
  · rw [if_neg c, if_neg (by decide)]
    rw [Int32.le_iff_toInt_le, z] at c
    have en : (-(s_M_teeth S w)).toInt = -(s_M_teeth S w).toInt := by
      rw [Int32.toInt_neg]
      exact Int.bmod_eq_of_le (by omega) (by omega)
    rw [en]
    rcases hv with h | h
    · omega
    · omega
theorem sg_bd {S : St} {a b : Int32} : (s_M_sign S a b).toInt = 1 ∨ (s_M_sign S a b).toInt = -1 := by
  rw [s_M_sign]
  by_cases h1 : s_M_isRing S a = 0
  · by_cases h2 : s_M_isRing S b = 0
    · rw [if_pos h1, if_pos h2]; exact Or.inr (by decide)
    · rw [if_pos h1, if_neg h2]; exact Or.inl (by decide)
  · rw [if_neg h1]; exact Or.inl (by decide)
theorem r_hp {S : St} {w : Int32} (hG : GI (S.2.1 0)) (hw : wl (S.2.1 0) w) : 0 < (s_M_size S w).toInt64.toInt := by
  rw [i64_of]; have := sz_bd hG hw; omega
theorem r_ha {S : St} {a b w : Int32} (hG : GI (S.2.1 0)) (hw : wl (S.2.1 0) w) : -9223372036854775807 ≤ ((s_M_sign S a b).toInt64 * (s_M_size S w).toInt64).toInt := by
  have h1 := sz_bd hG hw
  have h2 := sg_bd (S := S) (a := a) (b := b)
  have h3 : -(1 * 99) ≤ (s_M_sign S a b).toInt64.toInt * (s_M_size S w).toInt64.toInt ∧ (s_M_sign S a b).toInt64.toInt * (s_M_size S w).toInt64.toInt ≤ 1 * 99 := mul_bd (by rw [i64_of]; omega) (by rw [i64_of]; omega) (by decide)
  rw [i64_mul (by omega) (by omega)]
  omega
/-- one more pair -/
theorem T9_mul {S : St} {k o r : Int32} {a b : Int64} (hG : GI (S.2.1 0)) (h : T9 k a b) (hk : k.toInt ≤ 8) (ho : wl (S.2.1 0) o) (hr : wl (S.2.1 0) r) :
    (-(99 ^ k.toInt.toNat * 99) ≤ (a * (s_M_sign S o r).toInt64 * (s_M_size S r).toInt64).toInt ∧ (a * (s_M_sign S o r).toInt64 * (s_M_size S r).toInt64).toInt ≤ 99 ^ k.toInt.toNat * 99) ∧ 0 < (b * (s_M_size S o).toInt64).toInt ∧ (b * (s_M_size S o).toInt64).toInt ≤ 99 ^ k.toInt.toNat * 99 ∧
    (a * (s_M_sign S o r).toInt64 * (s_M_size S r).toInt64).toInt = a.toInt * (s_M_sign S o r).toInt * (s_M_size S r).toInt ∧ (b * (s_M_size S o).toInt64).toInt = b.toInt * (s_M_size S o).toInt := by
  obtain ⟨-, h1, h2, h3⟩ := h
  obtain ⟨p1, p2⟩ := p99 (k := k.toInt.toNat) (by omega)
  have so := sz_bd hG ho
  have sr := sz_bd hG hr
  have sg := sg_bd (S := S) (a := o) (b := r)
  generalize hP : (99 : Int) ^ k.toInt.toNat = P at *
  have m1 : -(P * 1) ≤ a.toInt * (s_M_sign S o r).toInt64.toInt ∧ a.toInt * (s_M_sign S o r).toInt64.toInt ≤ P * 1 := mul_bd h1 (by rw [i64_of]; omega) (by omega)
  have e1 : (a * (s_M_sign S o r).toInt64).toInt = a.toInt * (s_M_sign S o r).toInt := by rw [i64_mul (by omega) (by omega), i64_of]
  rw [i64_of] at m1
  have m2 : -(P * 99) ≤ (a * (s_M_sign S o r).toInt64).toInt * (s_M_size S r).toInt64.toInt ∧ (a * (s_M_sign S o r).toInt64).toInt * (s_M_size S r).toInt64.toInt ≤ P * 99 := mul_bd (by rw [e1]; omega) (by rw [i64_of]; omega) (by omega)
  have e2 : (a * (s_M_sign S o r).toInt64 * (s_M_size S r).toInt64).toInt = a.toInt * (s_M_sign S o r).toInt * (s_M_size S r).toInt := by rw [i64_mul (by omega) (by omega), e1, i64_of]
  have m3 : -(P * 99) ≤ b.toInt * (s_M_size S o).toInt64.toInt ∧ b.toInt * (s_M_size S o).toInt64.toInt ≤ P * 99 := mul_bd (by omega) (by rw [i64_of]; omega) (by omega)
  have e3 : (b * (s_M_size S o).toInt64).toInt = b.toInt * (s_M_size S o).toInt := by rw [i64_mul (by omega) (by omega), i64_of]
  have m4 : 0 < b.toInt * (s_M_size S o).toInt := Int.mul_pos h2 (by omega)
  rw [e1, i64_of] at m2
  rw [i64_of] at m3
  exact ⟨by rw [e2]; exact m2, by rw [e3]; exact m4, by rw [e3]; omega, e2, e3⟩
theorem T9_0 {a : Int64} (h : a = 1) : T9 0 a a := by
  subst h
  exact ⟨by decide, ⟨by decide, by decide⟩, by decide, by decide⟩
theorem T9_st {S Z : St} {k o r : Int32} {a b : Int64} (hG : GI (S.2.1 0)) (h : T9 k a b) (h0 : 0 ≤ k.toInt) (hk : k.toInt ≤ 8) (ho : wl (S.2.1 0) o) (hr : wl (S.2.1 0) r) :
    T9 (k + 1) ((s_M_lays Z (a * (s_M_sign S o r).toInt64 * (s_M_size S r).toInt64) (b * (s_M_size S o).toInt64)).2.2 1 0) ((s_M_lays Z (a * (s_M_sign S o r).toInt64 * (s_M_size S r).toInt64) (b * (s_M_size S o).toInt64)).2.2 1 1) := by
  obtain ⟨m1, m2, m3, -, -⟩ := T9_mul hG h hk ho hr
  obtain ⟨p1, p2⟩ := p99 (k := k.toInt.toNat) (by omega)
  rw [lays_eq m2 (by omega), sL_1.1, sL_1.2]
  have e : (k + 1).toInt = k.toInt + 1 := i32_suc (by omega)
  have e2 : (99 : Int) ^ (k + 1).toInt.toNat = 99 ^ k.toInt.toNat * 99 := by
    rw [e, show (k.toInt + 1).toNat = k.toInt.toNat + 1 by omega, Int.pow_succ]
  have q := lay_bd m2 m1 m3
  unfold T9
  rw [e2]
  exact ⟨by omega, q.1, q.2.1, q.2.2⟩
theorem g33_3 {S : St} (hG : GI (S.2.1 0)) : S.2.1 0 33 = 0 ∨ S.2.1 0 33 = 1 ∨ S.2.1 0 33 = 2 := by
  obtain ⟨-, h, -⟩ := hG
  have h0 : (0 : Int32).toInt = 0 := by decide
  have h1 : (1 : Int32).toInt = 1 := by decide
  have h2 : (2 : Int32).toInt = 2 := by decide
  rcases (show (S.2.1 0 33).toInt = 0 ∨ (S.2.1 0 33).toInt = 1 ∨ (S.2.1 0 33).toInt = 2 by omega) with q | q | q
  · exact Or.inl (Int32.toInt_inj.mp (by rw [q, h0]))
  · exact Or.inr (Or.inl (Int32.toInt_inj.mp (by rw [q, h1])))
  · exact Or.inr (Or.inr (Int32.toInt_inj.mp (by rw [q, h2])))
theorem ct_r : s_M_root (((10000 : Int64) - (627 : Int32).toInt64) * (10000 : Int64)) = 9681 ∧ s_M_root (((10000 : Int64) - (1170 : Int32).toInt64) * (10000 : Int64)) = 9396 ∧ s_M_root (((10000 : Int64) - (1786 : Int32).toInt64) * (10000 : Int64)) = 9063 := by decide +kernel
theorem sq_3 {S : St} (hG : GI (S.2.1 0)) : s_M_square S = 627 ∨ s_M_square S = 1170 ∨ s_M_square S = 1786 := by
  rw [s_M_square]
  rcases g33_3 hG with q | q | q <;> rw [q]
  · exact Or.inl (by decide)
  · exact Or.inr (Or.inl (by decide))
  · exact Or.inr (Or.inr (by decide))
theorem ct_ne1 {S : St} (hG : GI (S.2.1 0)) : ¬ (31416 : Int64) * (s_M_root (((10000 : Int64) - (s_M_square S).toInt64) * (10000 : Int64)) + (1 : Int64)) = 0 := by
  rcases sq_3 hG with q | q | q <;> rw [q]
  · rw [ct_r.1]; decide
  · rw [ct_r.2.1]; decide
  · rw [ct_r.2.2]; decide
theorem ct_ne2 {S : St} (hG : GI (S.2.1 0)) : ¬ (31415 : Int64) * (s_M_root (((10000 : Int64) - (s_M_square S).toInt64) * (10000 : Int64))) = 0 := by
  rcases sq_3 hG with q | q | q <;> rw [q]
  · rw [ct_r.1]; decide
  · rw [ct_r.2.1]; decide
  · rw [ct_r.2.2]; decide
theorem lays_21b : ∀ (n : Nat) (Z : St) (a b x y : Int64), (s_M_lays_b17 n Z a b x y).2.1 = Z.2.1 ∧ (s_M_lays_b17 n Z a b x y).1 = Z.1 ∧ (s_M_lays_b17 n Z a b x y).2.2 0 = Z.2.2 0 := by
  intro n
  induction n with
  | zero => intro Z a b x y; exact ⟨rfl, rfl, rfl⟩
  | succ n ih =>
    intro Z a b x y
    rw [s_M_lays_b17]
    by_cases h : lg_cmp y 0 = 0
    · rw [if_pos h]; exact ⟨rfl, rfl, by simp [sL, sG, va_up]⟩
    · rw [if_neg h]; exact ih Z a b _ _
theorem lays_21 {S : St} {a b : Int64} : (s_M_lays S a b).2.1 = S.2.1 := by
  rw [s_M_lays]
  by_cases h : 0 ≤ lg_cmp a 0
  · rw [if_pos h]; exact (lays_21b _ _ _ _ _ _).1
  · rw [if_neg h]; exact (lays_21b _ _ _ _ _ _).1
theorem T9_hp {S : St} {k : Int32} {a b : Int64} (hG : GI (S.2.1 0)) (h : T9 k a b) (h0 : 0 ≤ k.toInt) (c : ¬ S.2.1 0 34 ≤ k) : 0 < (b * (s_M_size S (S.2.1 0 ((35 : Int32) + k).toNatClampNeg)).toInt64).toInt :=
  (T9_mul hG h (by have := (w9_of h0 c hG).2; omega) (pr_1 hG h0 c).1 (pr_1 hG h0 c).2).2.1
theorem T9_ha {S : St} {k : Int32} {a b : Int64} (hG : GI (S.2.1 0)) (h : T9 k a b) (h0 : 0 ≤ k.toInt) (c : ¬ S.2.1 0 34 ≤ k) : -9223372036854775807 ≤ (a * (s_M_sign S (S.2.1 0 ((35 : Int32) + k).toNatClampNeg) (S.2.1 0 ((44 : Int32) + k).toNatClampNeg)).toInt64 * (s_M_size S (S.2.1 0 ((44 : Int32) + k).toNatClampNeg)).toInt64).toInt := by
  have h9 := (w9_of h0 c hG).2
  have q := (T9_mul hG h (by omega) (pr_1 hG h0 c).1 (pr_1 hG h0 c).2).1.1
  have := (p99 (k := k.toInt.toNat) (by omega)).2
  omega
theorem T9_go {S : St} {k : Int32} {a b : Int64} (hG : GI (S.2.1 0)) (h : T9 k a b) (h0 : 0 ≤ k.toInt) (c : ¬ S.2.1 0 34 ≤ k) : T9 (k + 1) ((s_M_lays S (a * (s_M_sign S (S.2.1 0 ((35 : Int32) + k).toNatClampNeg) (S.2.1 0 ((44 : Int32) + k).toNatClampNeg)).toInt64 * (s_M_size S (S.2.1 0 ((44 : Int32) + k).toNatClampNeg)).toInt64) (b * (s_M_size S (S.2.1 0 ((35 : Int32) + k).toNatClampNeg)).toInt64)).2.2 1 0) ((s_M_lays S (a * (s_M_sign S (S.2.1 0 ((35 : Int32) + k).toNatClampNeg) (S.2.1 0 ((44 : Int32) + k).toNatClampNeg)).toInt64 * (s_M_size S (S.2.1 0 ((44 : Int32) + k).toNatClampNeg)).toInt64) (b * (s_M_size S (S.2.1 0 ((35 : Int32) + k).toNatClampNeg)).toInt64)).2.2 1 1) :=
  T9_st hG h h0 (by have := (w9_of h0 c hG).2; omega) (pr_1 hG h0 c).1 (pr_1 hG h0 c).2
theorem g34_pos {g : Nat → Int32} (hG : GI g) (c : ¬ g 34 = 0) : ¬ g 34 ≤ 0 := by
  have h := hG.2.2.1
  have z : (0 : Int32).toInt = 0 := by decide
  intro q
  rw [Int32.le_iff_toInt_le, z] at q
  exact c (Int32.toInt_inj.mp (by rw [z]; omega))
theorem in18 {k : Int32} (h : ¬ s_M_in k.toInt64 (1 : Int64) (8 : Int64) = 0) : k18 k := by
  have q := in_1 h
  have a : (1 : Int64).toInt = 1 := by decide
  have b : (8 : Int64).toInt = 8 := by decide
  rw [i64_of, a, b] at q
  exact q
def MO (n : Nat) (k : Int32) : Prop := 0 < n ∧ k.toInt < (n : Int) ∧ k18 k
theorem MO_z {k : Int32} : ¬ MO 0 k := fun h => Nat.lt_irrefl 0 h.1
