/-! plain facts (out of whole's parts: wip/p32/pick.py) -/
theorem sV_f {S : St} {k r j : Nat} {x : Int32} : (sV S k x).2.1 r j = S.2.1 r j := rfl
theorem sV_l {S : St} {k r j : Nat} {x : Int32} : (sV S k x).2.2 r j = S.2.2 r j := rfl
theorem sA_l {S : St} {i k r j : Nat} {x : Int32} : (sA S i k x).2.2 r j = S.2.2 r j := rfl
theorem sL_f {S : St} {i k r j : Nat} {x : Int64} : (sL S i k x).2.1 r j = S.2.1 r j := rfl
theorem sA_f {S : St} {i k r j : Nat} {x : Int32} (h : r ≠ i) : (sA S i k x).2.1 r j = S.2.1 r j := by simp [sA, sF, va_up, h]
theorem vin_k {x : Int32} {n : Nat} (h : 0 ≤ x.toInt ∧ x.toInt < n) : vp_in x n := vp_in_iff.mpr h
def TV (t : Int32) : Prop := (-99 ≤ t.toInt ∧ t.toInt ≤ -20) ∨ (5 ≤ t.toInt ∧ t.toInt ≤ 99)
theorem i32_tn {x : Int32} (h : 0 ≤ x.toInt) : (x.toNatClampNeg : Int) = x.toInt := by unfold Int32.toNatClampNeg; omega
theorem ad_tn {c w : Int32} {C : Nat} (hC : c.toInt = (C : Int)) (hw : 0 ≤ w.toInt) (h : (C : Int) + w.toInt < 2147483648) : (c + w).toNatClampNeg = C + w.toNatClampNeg := by
  have e : (c + w).toInt = c.toInt + w.toInt := i32_add (by omega) (by omega)
  have h1 := i32_tn (x := c + w) (by omega)
  have h2 := i32_tn (x := w) hw
  omega
theorem lcmp_lt {x y : Int64} : lg_cmp x y < 0 ↔ x < y := by
  unfold lg_cmp
  by_cases h1 : y < x
  · rw [if_pos h1]
    exact ⟨fun h => absurd h (by decide), fun h => absurd (Int64.lt_trans h h1) (Int64.lt_irrefl)⟩
  · by_cases h2 : x = y
    · rw [if_neg h1, if_pos h2, h2]
      exact ⟨fun h => absurd h (by decide), fun h => absurd h Int64.lt_irrefl⟩
    · rw [if_neg h1, if_neg h2]
      refine ⟨fun _ => ?_, fun _ => by decide⟩
      rw [Int64.lt_iff_toInt_lt] at h1 ⊢
      have : x.toInt ≠ y.toInt := fun e => h2 (Int64.toInt_inj.mp e)
      omega
theorem lcmp_gt {x y : Int64} : 0 < lg_cmp x y ↔ y < x := by
  unfold lg_cmp
  by_cases h1 : y < x
  · rw [if_pos h1]
    exact ⟨fun _ => h1, fun _ => by decide⟩
  · by_cases h2 : x = y
    · rw [if_neg h1, if_pos h2]
      exact ⟨fun h => absurd h (by decide), fun h => absurd h h1⟩
    · rw [if_neg h1, if_neg h2]
      exact ⟨fun h => absurd h (by decide), fun h => absurd h h1⟩
theorem lcmp_eq {x y : Int64} : lg_cmp x y = 0 ↔ x = y := by
  unfold lg_cmp
  by_cases h1 : y < x
  · rw [if_pos h1]
    exact ⟨fun h => absurd h (by decide), fun h => absurd (h ▸ h1) Int64.lt_irrefl⟩
  · by_cases h2 : x = y
    · rw [if_neg h1, if_pos h2]
      exact ⟨fun _ => h2, fun _ => rfl⟩
    · rw [if_neg h1, if_neg h2]
      exact ⟨fun h => absurd h (by decide), fun h => absurd h h2⟩
theorem lcmp_ge {x y : Int64} : 0 ≤ lg_cmp x y ↔ y ≤ x := by
  rw [← Int32.not_lt, ← Int64.not_lt, lcmp_lt]
theorem lcmp_le {x y : Int64} : lg_cmp x y ≤ 0 ↔ x ≤ y := by
  rw [← Int32.not_lt, ← Int64.not_lt, lcmp_gt]
theorem i64_of (x : Int32) : x.toInt64.toInt = x.toInt := by simp
theorem i64_lo (x : Int64) : -9223372036854775808 ≤ x.toInt := by have h := Int64.le_toInt x; simpa using h
theorem i64_hi (x : Int64) : x.toInt < 9223372036854775808 := by have h := Int64.toInt_lt x; simpa using h
theorem i64_add {x y : Int64} (h1 : -9223372036854775808 ≤ x.toInt + y.toInt) (h2 : x.toInt + y.toInt < 9223372036854775808) : (x + y).toInt = x.toInt + y.toInt := by
  rw [Int64.toInt_add]
  exact Int.bmod_eq_of_le (by omega) (by omega)
theorem i64_sub {x y : Int64} (h1 : -9223372036854775808 ≤ x.toInt - y.toInt) (h2 : x.toInt - y.toInt < 9223372036854775808) : (x - y).toInt = x.toInt - y.toInt := by
  rw [Int64.toInt_sub]
  exact Int.bmod_eq_of_le (by omega) (by omega)
theorem i64_mul {x y : Int64} (h1 : -9223372036854775808 ≤ x.toInt * y.toInt) (h2 : x.toInt * y.toInt < 9223372036854775808) : (x * y).toInt = x.toInt * y.toInt := by
  rw [Int64.toInt_mul]
  exact Int.bmod_eq_of_le (by omega) (by omega)
theorem i64_neg {x : Int64} (h : -9223372036854775808 < x.toInt) : (-x).toInt = -x.toInt := by
  have := i64_hi x
  rw [Int64.toInt_neg]
  exact Int.bmod_eq_of_le (by omega) (by omega)
theorem i64_div {x y : Int64} (hy : 0 < y.toInt) : (x / y).toInt = x.toInt.tdiv y.toInt := Int64.toInt_div_of_ne_right x y (fun e => by rw [e] at hy; exact absurd hy (by decide))
theorem i64_rem {x y : Int64} (hy : 0 < y.toInt) : (x - x / y * y).toInt = x.toInt.tmod y.toInt := by
  obtain ⟨e, h1, h2, h3, h4⟩ := tq_b (x := x.toInt) hy
  have hl := i64_lo x
  have hh := i64_hi x
  have hb : (x / y * y).toInt = y.toInt * x.toInt.tdiv y.toInt := by
    rw [Int64.toInt_mul, i64_div hy, Int.mul_comm]
    refine Int.bmod_eq_of_le ?_ ?_ <;> rcases Int.le_total 0 x.toInt with h | h <;> (have q1 := h1; have q2 := h2; first | (have q := h1 h; omega) | (have q := h2 h; omega))
  rw [Int64.toInt_sub, hb]
  have : x.toInt - y.toInt * x.toInt.tdiv y.toInt = x.toInt.tmod y.toInt := by omega
  rw [this]
  have hyh := i64_hi y
  exact Int.bmod_eq_of_le (by omega) (by omega)
theorem z64 : (0 : Int64).toInt = 0 := by decide
def k18 (k : Int32) : Prop := 1 ≤ k.toInt ∧ k.toInt ≤ 8
theorem k18_ne {k : Int32} (h : k18 k) : ¬ k = 0 := fun e => by rw [e] at h; exact absurd h.1 (by decide)
theorem sA_rd {S : St} {i k j : Nat} {v : Int32} (h : j ≠ k) : (sA S i k v).2.1 i j = S.2.1 i j := by simp [sA, sF, va_up, upd, h]
theorem sA_rs {S : St} {i k : Nat} {v : Int32} : (sA S i k v).2.1 i k = v := by simp [sA, sF, va_up, upd]
theorem sA_1 {S : St} {i k : Nat} {x : Int32} : (sA S i k x).1 = S.1 := rfl
theorem sA_g {S : St} {k : Nat} {x : Int32} : (sA S 0 k x).2.1 0 = upd (S.2.1 0) k x := by simp [sA, sF, va_up]
theorem upd_ne {f : Nat → Int32} {k j : Nat} {x : Int32} (h : j ≠ k) : upd f k x j = f j := by simp [upd, h]
theorem upd_eq {f : Nat → Int32} {k : Nat} {x : Int32} : upd f k x k = x := by simp [upd]
theorem sV_ne {S : St} {i j : Nat} {x : Int32} (h : j ≠ i) : (sV S i x).1 j = S.1 j := upd_ne h
theorem sV_eq {S : St} {i : Nat} {x : Int32} : (sV S i x).1 i = x := upd_eq
section
variable {n x : Int32}
theorem sA_o {A : St} {i m r : Nat} {x : Int32} (h : r ≠ i) : (sA A i m x).2.1 r = A.2.1 r := by
  show va_up A.2.1 i _ r = A.2.1 r
  rw [va_up, if_neg h]
theorem sA_k {A : St} {i m r k : Nat} {x : Int32} (h : k ≠ m) : (sA A i m x).2.1 r k = A.2.1 r k := by
  by_cases e : r = i
  · subst e; exact sA_rd h
  · rw [sA_o e]
end
theorem lt32 {x y : Int32} : x < y ↔ x.toInt < y.toInt := Int32.lt_iff_toInt_lt
theorem le32 {x y : Int32} : x ≤ y ↔ x.toInt ≤ y.toInt := Int32.le_iff_toInt_le
theorem eq32 {x y : Int32} : x = y ↔ x.toInt = y.toInt := Int32.toInt_inj.symm
theorem lt64 {x y : Int64} : x < y ↔ x.toInt < y.toInt := Int64.lt_iff_toInt_lt
theorem le64 {x y : Int64} : x ≤ y ↔ x.toInt ≤ y.toInt := Int64.le_iff_toInt_le
theorem eq64 {x y : Int64} : x = y ↔ x.toInt = y.toInt := Int64.toInt_inj.symm
theorem z32 : (0 : Int32).toInt = 0 := by decide
theorem i32_sub {x y : Int32} (h1 : -2147483648 ≤ x.toInt - y.toInt) (h2 : x.toInt - y.toInt < 2147483648) : (x - y).toInt = x.toInt - y.toInt := by
  rw [Int32.toInt_sub]; exact Int.bmod_eq_of_le (by omega) (by omega)
theorem i32_mul {x y : Int32} (h1 : -2147483648 ≤ x.toInt * y.toInt) (h2 : x.toInt * y.toInt < 2147483648) : (x * y).toInt = x.toInt * y.toInt := by
  rw [Int32.toInt_mul]; exact Int.bmod_eq_of_le (by omega) (by omega)
theorem i32_neg {x : Int32} (h : -2147483648 < x.toInt) : (-x).toInt = -x.toInt := by
  have := i32_hi x
  rw [Int32.toInt_neg]; exact Int.bmod_eq_of_le (by omega) (by omega)
theorem eq01 {a b : Int32} (ha : a = 0 ∨ a = 1) (hb : b = 0 ∨ b = 1) (h : a = 0 ↔ b = 0) : a = b := by
  rcases ha with rfl | rfl
  · exact (h.mp rfl).symm
  · rcases hb with rfl | rfl
    · exact absurd (h.mpr rfl) (by decide)
    · rfl
def TS (s : Int32) : Prop := -50 ≤ s.toInt ∧ s.toInt ≤ 100
section
variable {S : St} {w a b t v x : Int32} {i : Nat}
theorem at_in {i : Nat} (h0 : 0 ≤ w.toInt) (h1 : w.toInt < (S.1 i).toInt) (h2 : w.toInt < (cap i : Int)) : s_N_at S i w = S.2.1 i w.toNatClampNeg := by
  rw [s_N_at, if_neg (by rw [lt32, z32]; omega), if_neg (by rw [le32]; omega), if_neg (by rw [le32, cap_i]; omega)]
def hI (ta tb sa sb : Int) : Int := if 0 ≤ ta then (if 0 ≤ tb then 50 * ta + sa + (50 * tb + sb) else 50 * -tb + sb - (50 * ta + sa)) else 50 * -ta + sa - (50 * tb + sb)
theorem mul50 {t : Int32} (h1 : -200 ≤ t.toInt) (h2 : t.toInt ≤ 200) : ((50 : Int32) * t).toInt = 50 * t.toInt := by
  have c50 : (50 : Int32).toInt = 50 := by decide
  rw [i32_mul (by rw [c50]; omega) (by rw [c50]; omega), c50]
theorem sub0 {t : Int32} (h1 : -200 ≤ t.toInt) (h2 : t.toInt ≤ 200) : (0 - t).toInt = -t.toInt := by
  rw [i32_sub (by rw [z32]; omega) (by rw [z32]; omega), z32]; omega
def FR (S S' : St) : Prop := (∀ j : Nat, 4 ≤ j → j ≠ 19 → S'.1 j = S.1 j) ∧ (∀ r : Nat, 4 ≤ r → S'.2.1 r = S.2.1 r) ∧ S'.2.2 = S.2.2
theorem FR.rf {S : St} : FR S S := ⟨fun _ _ _ => rfl, fun _ _ => rfl, rfl⟩
theorem FR.tr {S S' S'' : St} (h : FR S S') (h' : FR S' S'') : FR S S'' := ⟨fun j a b => (h'.1 j a b).trans (h.1 j a b), fun r a => (h'.2.1 r a).trans (h.2.1 r a), h'.2.2.trans h.2.2⟩
theorem FR_V {S : St} {i : Nat} {x : Int32} (hi : i < 4 ∨ i = 19) : FR S (sV S i x) := ⟨fun j a b => upd_ne (by omega), fun _ _ => rfl, rfl⟩
theorem FR_A {S : St} {i k : Nat} {x : Int32} (hi : i < 4) : FR S (sA S i k x) := ⟨fun _ _ _ => rfl, fun r a => by show va_up S.2.1 i _ r = S.2.1 r; rw [va_up, if_neg (by omega)], rfl⟩
theorem N_add_go (h0 : 0 ≤ (S.1 i).toInt) (h1 : (S.1 i).toInt < (cap i : Int)) : s_N_add S i x = sV (sA S i (S.1 i).toNatClampNeg x) i (S.1 i + 1) := by
  rw [s_N_add, if_neg (by rw [lt32, z32]; omega), if_neg (by rw [le32, cap_i]; omega)]
  rfl
theorem N_set_go (h0 : 0 ≤ w.toInt) (h1 : w.toInt < (S.1 i).toInt) (h2 : w.toInt < (cap i : Int)) : s_N_set S i w v = sA S i w.toNatClampNeg v := by
  rw [s_N_set, if_neg (by rw [lt32, z32]; omega), if_neg (by rw [le32]; omega), if_neg (by rw [le32, cap_i]; omega)]
theorem full_i : s_N_isFull S i = 0 ↔ (S.1 i).toInt < (cap i : Int) := by
  rw [s_N_isFull]
  simp only [lt32, cap_i]
  split
  · exact iff_of_true rfl (by omega)
  · exact iff_of_false (by decide) (by omega)
theorem tee_i : s_P_isTeeth t = 0 ↔ ¬ TV t := by
  have e1 : (5 : Int32).toInt = 5 := by decide
  have e2 : (99 : Int32).toInt = 99 := by decide
  have e3 : (-99 : Int32).toInt = -99 := by decide
  have e4 : (-20 : Int32).toInt = -20 := by decide
  unfold s_P_isTeeth s_P_isOutward TV
  simp only [lt32, e1, e2, e3, e4]
  repeat' split
  all_goals first | exact iff_of_true rfl (by omega) | exact iff_of_false (by decide) (by omega) | exact absurd rfl (by assumption) | (exfalso; revert ‹(1 : Int32) = 0›; decide)
theorem sh_i : s_P_isShift t = 0 ↔ ¬ TS t := by
  have e1 : (-50 : Int32).toInt = -50 := by decide
  have e2 : (100 : Int32).toInt = 100 := by decide
  unfold s_P_isShift TS
  simp only [lt32, e1, e2]
  repeat' split
  all_goals first | exact iff_of_true rfl (by omega) | exact iff_of_false (by decide) (by omega)
end
def CP (i j : Nat) (S F : St) : Prop := F.1 i = S.1 j ∧ (∀ k : Nat, (k : Int) < (S.1 j).toInt → F.2.1 i k = S.2.1 j k) ∧ (∀ l : Nat, l ≠ i → F.1 l = S.1 l) ∧ (∀ r : Nat, r ≠ i → F.2.1 r = S.2.1 r) ∧ F.2.2 = S.2.2
theorem bec_b {i j : Nat} {S : St} (hij : i ≠ j) (hb : (S.1 j).toInt ≤ (cap i : Int)) (hc : (S.1 j).toInt ≤ (cap j : Int)) : ∀ (n : Nat) (Z : St) (x : Int32), UP n (S.1 j) x → x.toInt ≤ (S.1 j).toInt → Z.1 i = x → (∀ k : Nat, (k : Int) < x.toInt → Z.2.1 i k = S.2.1 j k) → (∀ l : Nat, l ≠ i → Z.1 l = S.1 l) → (∀ r : Nat, r ≠ i → Z.2.1 r = S.2.1 r) → Z.2.2 = S.2.2 → CP i j S (s_N_become_b6 i j n Z x) := by
  intro n
  induction n with
  | zero => intro Z x h; exact absurd h UP_z
  | succ n ih =>
    intro Z x h hx e1 e2 e3 e4 e5
    rw [s_N_become_b6, s_N_size, e3 j hij.symm]
    by_cases c : S.1 j ≤ x
    · rw [if_pos c]
      have c1 := c
      rw [le32] at c1
      refine ⟨?_, fun k hk => e2 k (by omega), e3, e4, e5⟩
      rw [e1]
      exact eq32.mpr (by omega)
    · rw [if_neg c]
      have c1 := c
      rw [le32] at c1
      have h0 := h.2.2
      have hcap := cap_lt i
      have hk := i32_tn h0
      have es : (x + 1).toInt = x.toInt + 1 := i32_suc (by omega)
      have ea : s_N_at Z j x = S.2.1 j x.toNatClampNeg := by rw [at_in h0 (by rw [e3 j hij.symm]; omega) (by omega), e4 j hij.symm]
      rw [ea, N_add_go (S := Z) (i := i) (by rw [e1]; exact h0) (by rw [e1]; omega), e1]
      refine ih _ _ (UP_up h c) (by omega) (by show upd Z.1 i (x + 1) i = x + 1; rw [upd_eq]) ?_ ?_ ?_ e5
      · intro k hk1
        by_cases e : k = x.toNatClampNeg
        · subst e
          show (sA Z i x.toNatClampNeg (S.2.1 j x.toNatClampNeg)).2.1 i x.toNatClampNeg = _
          rw [sA_rs]
        · show (sA Z i x.toNatClampNeg (S.2.1 j x.toNatClampNeg)).2.1 i k = _
          rw [sA_rd e]
          exact e2 k (by omega)
      · intro l hl
        show upd Z.1 i (x + 1) l = S.1 l
        rw [upd_ne hl]; exact e3 l hl
      · intro r hr
        show va_up Z.2.1 i _ r = S.2.1 r
        rw [va_up, if_neg hr]; exact e4 r hr
theorem bec {i j : Nat} {S : St} (hij : i ≠ j) (h0 : 0 ≤ (S.1 j).toInt) (hb : (S.1 j).toInt ≤ (cap i : Int)) (hc : (S.1 j).toInt ≤ (cap j : Int)) : CP i j S (s_N_become S i j) := by
  rw [s_N_become]
  refine bec_b hij hb hc _ _ 0 (UP_in (by decide)) (by rw [z32]; exact h0) (by show upd S.1 i 0 i = 0; rw [upd_eq]) (fun k hk => by rw [z32] at hk; omega) (fun l hl => by show upd S.1 i 0 l = S.1 l; rw [upd_ne hl]) (fun _ _ => rfl) rfl
def C4 (t u p q : Nat) (S F : St) : Prop := (F.1 t = S.1 u ∧ F.1 (t + 1) = S.1 (u + 1) ∧ F.1 (t + 2) = S.1 (u + 2) ∧ F.1 (t + 3) = S.1 (u + 3) ∧ F.1 p = S.1 q) ∧
  ((∀ k : Nat, (k : Int) < (S.1 u).toInt → F.2.1 t k = S.2.1 u k) ∧ (∀ k : Nat, (k : Int) < (S.1 (u + 1)).toInt → F.2.1 (t + 1) k = S.2.1 (u + 1) k) ∧ (∀ k : Nat, (k : Int) < (S.1 (u + 2)).toInt → F.2.1 (t + 2) k = S.2.1 (u + 2) k) ∧ ∀ k : Nat, (k : Int) < (S.1 (u + 3)).toInt → F.2.1 (t + 3) k = S.2.1 (u + 3) k) ∧
  (∀ l : Nat, (l < t ∨ t + 3 < l) → l ≠ p → F.1 l = S.1 l) ∧ (∀ r : Nat, (r < t ∨ t + 3 < r) → F.2.1 r = S.2.1 r) ∧ F.2.2 = S.2.2
theorem become4 {t u p q : Nat} {S : St} (htu : t + 3 < u ∨ u + 3 < t) (hp : t + 3 < p ∧ u + 3 < p) (hq : t + 3 < q)
    (z0 : 0 ≤ (S.1 u).toInt ∧ (S.1 u).toInt ≤ (cap t : Int) ∧ (S.1 u).toInt ≤ (cap u : Int)) (z1 : 0 ≤ (S.1 (u + 1)).toInt ∧ (S.1 (u + 1)).toInt ≤ (cap (t + 1) : Int) ∧ (S.1 (u + 1)).toInt ≤ (cap (u + 1) : Int)) (z2 : 0 ≤ (S.1 (u + 2)).toInt ∧ (S.1 (u + 2)).toInt ≤ (cap (t + 2) : Int) ∧ (S.1 (u + 2)).toInt ≤ (cap (u + 2) : Int)) (z3 : 0 ≤ (S.1 (u + 3)).toInt ∧ (S.1 (u + 3)).toInt ≤ (cap (t + 3) : Int) ∧ (S.1 (u + 3)).toInt ≤ (cap (u + 3) : Int)) :
    C4 t u p q S (sV (s_N_become (s_N_become (s_N_become (s_N_become S t u) (t + 1) (u + 1)) (t + 2) (u + 2)) (t + 3) (u + 3)) p ((s_N_become (s_N_become (s_N_become (s_N_become S t u) (t + 1) (u + 1)) (t + 2) (u + 2)) (t + 3) (u + 3)).1 q)) := by
  have h0 := bec (S := S) (i := t) (j := u) (by omega) z0.1 z0.2.1 z0.2.2
  generalize s_N_become S t u = F0 at h0 ⊢
  obtain ⟨a1, a2, a3, a4, a5⟩ := h0
  have y1 : F0.1 (u + 1) = S.1 (u + 1) := a3 _ (by omega)
  have h1 := bec (S := F0) (i := t + 1) (j := u + 1) (by omega) (by rw [y1]; exact z1.1) (by rw [y1]; exact z1.2.1) (by rw [y1]; exact z1.2.2)
  generalize s_N_become F0 (t + 1) (u + 1) = F1 at h1 ⊢
  obtain ⟨b1, b2, b3, b4, b5⟩ := h1
  have y2 : F1.1 (u + 2) = S.1 (u + 2) := (b3 _ (by omega)).trans (a3 _ (by omega))
  have h2 := bec (S := F1) (i := t + 2) (j := u + 2) (by omega) (by rw [y2]; exact z2.1) (by rw [y2]; exact z2.2.1) (by rw [y2]; exact z2.2.2)
  generalize s_N_become F1 (t + 2) (u + 2) = F2 at h2 ⊢
  obtain ⟨c1, c2, c3, c4, c5⟩ := h2
  have y3 : F2.1 (u + 3) = S.1 (u + 3) := (c3 _ (by omega)).trans ((b3 _ (by omega)).trans (a3 _ (by omega)))
  have h3 := bec (S := F2) (i := t + 3) (j := u + 3) (by omega) (by rw [y3]; exact z3.1) (by rw [y3]; exact z3.2.1) (by rw [y3]; exact z3.2.2)
  generalize s_N_become F2 (t + 3) (u + 3) = F3 at h3 ⊢
  obtain ⟨d1, d2, d3, d4, d5⟩ := h3
  refine ⟨⟨?_, ?_, ?_, ?_, ?_⟩, ⟨?_, ?_, ?_, ?_⟩, ?_, ?_, ?_⟩
  · show upd F3.1 p _ t = _
    rw [upd_ne (by omega), d3 _ (by omega), c3 _ (by omega), b3 _ (by omega), a1]
  · show upd F3.1 p _ (t + 1) = _
    rw [upd_ne (by omega), d3 _ (by omega), c3 _ (by omega), b1, y1]
  · show upd F3.1 p _ (t + 2) = _
    rw [upd_ne (by omega), d3 _ (by omega), c1, y2]
  · show upd F3.1 p _ (t + 3) = _
    rw [upd_ne (by omega), d1, y3]
  · show upd F3.1 p _ p = _
    rw [upd_eq, d3 _ (by omega), c3 _ (by omega), b3 _ (by omega), a3 _ (by omega)]
  · intro k hk
    show F3.2.1 t k = _
    rw [d4 _ (by omega), c4 _ (by omega), b4 _ (by omega)]
    exact a2 k hk
  · intro k hk
    show F3.2.1 (t + 1) k = _
    rw [d4 _ (by omega), c4 _ (by omega), b2 k (by rw [y1]; exact hk), a4 _ (by omega)]
  · intro k hk
    show F3.2.1 (t + 2) k = _
    rw [d4 _ (by omega), c2 k (by rw [y2]; exact hk), b4 _ (by omega), a4 _ (by omega)]
  · intro k hk
    show F3.2.1 (t + 3) k = _
    rw [d2 k (by rw [y3]; exact hk), c4 _ (by omega), b4 _ (by omega), a4 _ (by omega)]
  · intro l hl hlp
    show upd F3.1 p _ l = _
    rw [upd_ne hlp, d3 _ (by omega), c3 _ (by omega), b3 _ (by omega), a3 _ (by omega)]
  · intro r hr
    show F3.2.1 r = _
    rw [d4 _ (by omega), c4 _ (by omega), b4 _ (by omega), a4 _ (by omega)]
  · show F3.2.2 = _
    rw [d5, c5, b5, a5]
