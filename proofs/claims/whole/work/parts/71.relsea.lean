/-! searched -/
theorem Rel_k {S M S' M' : St} (h : Rel S M) (h1 : ∀ j : Nat, j < 25 → S'.1 j = S.1 j) (h2 : S'.2 = S.2) (m0 : M'.1 0 = M.1 0) (m4 : M'.1 4 = M.1 4) (m2 : M'.2 = M.2) : Rel S' M' := by
  obtain ⟨hB, ⟨k1, k2⟩, ⟨t1, t2, t3⟩, hW⟩ := h
  refine ⟨?_, ⟨?_, ?_⟩, ⟨?_, ?_, ?_⟩, ?_⟩
  · unfold BN
    rw [h1 0 (by omega), h1 1 (by omega), h1 2 (by omega), h1 3 (by omega), h1 19 (by omega), h2, m2]; exact hB
  · rw [h1 22 (by omega), m0]; exact k1
  · rw [m0]
    refine k2.imp (fun q => q) (fun q => ?_)
    unfold BK
    rw [h1 4 (by omega), h1 5 (by omega), h1 6 (by omega), h1 7 (by omega), h1 20 (by omega), h2, m2]; exact q
  · rw [h1 12 (by omega), m4]; exact t1
  · rw [m4]; exact t2
  · rw [m4, h2, m2]; exact t3
  · intro r hr
    rw [h1 (16 + r) (by omega), h2, m2]; exact hW r hr
/-- the two searches on their way: what was asked, how many, the best -/
def QS (k u w t : Int32) (Z Y : St) : Prop := Rel Z Y ∧ (Z.1 25 = k ∧ Z.1 26 = u ∧ Z.1 27 = w ∧ Z.1 28 = t) ∧ Z.1 29 = Y.1 1 ∧ (Z.1 29 = 0 ∨ (Z.1 30 = Y.1 2 ∧ Z.1 31 = Y.1 3 ∧ (5 ≤ (Y.1 2).toInt ∧ (Y.1 2).toInt ≤ 60) ∧ (5 ≤ (Y.1 3).toInt ∧ (Y.1 3).toInt ≤ 60)))
def UW (u w : Int32) : Prop := (1 ≤ u.toInt ∧ u.toInt ≤ 99) ∧ 1 ≤ w.toInt ∧ w.toInt ≤ 99
def S6 (s : Int32) : Prop := 5 ≤ s.toInt ∧ s.toInt ≤ 60
section se
variable {Z Y : St} {k u w t s p : Int32}
/-- how far a set is from what was asked -/
def mI (s p u w : Int) : Int := if 0 ≤ 2 * (s + p) * w - u * s then 2 * (s + p) * w - u * s else -(2 * (s + p) * w - u * s)
theorem mI_b (hu : UW u w) (hs : S6 s) (hp : S6 p) : (0 ≤ 2 * (s.toInt + p.toInt) * w.toInt ∧ 2 * (s.toInt + p.toInt) * w.toInt ≤ 23760) ∧ (0 ≤ u.toInt * s.toInt ∧ u.toInt * s.toInt ≤ 5940) := by
  obtain ⟨u1, u2⟩ := hu
  unfold S6 at hs hp
  have q1 := mul_bd (a := 2 * (s.toInt + p.toInt)) (t := w.toInt) (M := 240) (N := 99) (by omega) (by omega) (by omega)
  have q2 := Int.mul_nonneg (show 0 ≤ 2 * (s.toInt + p.toInt) by omega) (show 0 ≤ w.toInt by omega)
  have q3 := mul_bd (a := u.toInt) (t := s.toInt) (M := 99) (N := 60) (by omega) (by omega) (by omega)
  have q4 := Int.mul_nonneg (show 0 ≤ u.toInt by omega) (show 0 ≤ s.toInt by omega)
  omega
theorem mI_r (hu : UW u w) (hs : S6 s) (hp : S6 p) : 0 ≤ mI s.toInt p.toInt u.toInt w.toInt ∧ mI s.toInt p.toInt u.toInt w.toInt ≤ 23760 := by
  obtain ⟨q1, q2⟩ := mI_b hu hs hp
  unfold mI
  generalize 2 * (s.toInt + p.toInt) * w.toInt = A at *
  generalize u.toInt * s.toInt = B at *
  by_cases c : 0 ≤ A - B
  · rw [if_pos c]; omega
  · rw [if_neg c]; omega
theorem mis_c (h26 : Z.1 26 = u) (h27 : Z.1 27 = w) (hu : UW u w) (hs : S6 s) (hp : S6 p) : (s_H_miss Z s p).toInt = mI s.toInt p.toInt u.toInt w.toInt := by
  obtain ⟨q1, q2⟩ := mI_b hu hs hp
  unfold S6 at hs hp
  have e0 : (s + s_T_ring s p).toInt = 2 * (s.toInt + p.toInt) := by
    have e2 := mul2 (t := p) (by omega) (by omega)
    have e4 : (s + (2 : Int32) * p).toInt = s.toInt + 2 * p.toInt := by rw [i32_add (by omega) (by omega), e2]
    rw [s_T_ring, i32_add (by omega) (by omega), e4]; omega
  have e1 : ((s + s_T_ring s p) * w).toInt = 2 * (s.toInt + p.toInt) * w.toInt := by rw [i32_mul (by rw [e0]; omega) (by rw [e0]; omega), e0]
  have e2 : (u * s).toInt = u.toInt * s.toInt := i32_mul (by omega) (by omega)
  have e3 : ((s + s_T_ring s p) * w - u * s).toInt = 2 * (s.toInt + p.toInt) * w.toInt - u.toInt * s.toInt := by rw [i32_sub (by omega) (by omega), e1, e2]
  rw [s_H_miss, h26, h27, mI]
  simp only [le32, z32, e3]
  by_cases c : 0 ≤ 2 * (s.toInt + p.toInt) * w.toInt - u.toInt * s.toInt
  · rw [if_pos c, if_pos c, e3]
  · rw [if_neg c, if_neg c, i32_sub (by rw [z32, e3]; omega) (by rw [z32, e3]; omega), z32, e3]; omega
theorem off_m (hu : UW u w) (hs : S6 s) (hp : S6 p) : (s_M_off s p u w).toInt = mI s.toInt p.toInt u.toInt w.toInt := by
  obtain ⟨q1, q2⟩ := mI_b hu hs hp
  unfold S6 at hs hp
  have f2 : (2 : Int64).toInt = 2 := by decide
  have e0 : (s + p).toInt = s.toInt + p.toInt := i32_add (by omega) (by omega)
  have e1 : ((2 : Int64) * (s + p).toInt64).toInt = 2 * (s.toInt + p.toInt) := by rw [i64_mul (by rw [f2, i64_of, e0]; omega) (by rw [f2, i64_of, e0]; omega), f2, i64_of, e0]
  have e2 : ((2 : Int64) * (s + p).toInt64 * w.toInt64).toInt = 2 * (s.toInt + p.toInt) * w.toInt := by rw [i64_mul (by rw [e1, i64_of]; omega) (by rw [e1, i64_of]; omega), e1, i64_of]
  have e3 : (u.toInt64 * s.toInt64).toInt = u.toInt * s.toInt := by rw [i64_mul (by rw [i64_of, i64_of]; omega) (by rw [i64_of, i64_of]; omega), i64_of, i64_of]
  have e4 : ((2 : Int64) * (s + p).toInt64 * w.toInt64 - u.toInt64 * s.toInt64).toInt = 2 * (s.toInt + p.toInt) * w.toInt - u.toInt * s.toInt := by rw [i64_sub (by omega) (by omega), e2, e3]
  rw [s_M_off, mI]
  simp only [lcmp_ge, le64, z64, e4]
  by_cases c : 0 ≤ 2 * (s.toInt + p.toInt) * w.toInt - u.toInt * s.toInt
  · rw [if_pos c, if_pos c, e4]
  · rw [if_neg c, if_neg c, i64_neg (by omega), e4]
theorem tt_eq : s_T_teethTogether s p k = s_M_teethOf s p k := by rw [s_T_teethTogether, s_M_teethOf, s_T_ring, Int32.add_assoc (s + k * p) s]
theorem tt_b (hs : S6 s) (hp : S6 p) (hk : k18 k) : 0 ≤ (s_M_teethOf s p k).toInt ∧ (s_M_teethOf s p k).toInt ≤ 1000 := by
  unfold S6 at hs hp
  have h1 := hk.1
  have h2 := hk.2
  have q1 := mul_bd (a := k.toInt) (t := p.toInt) (M := 8) (N := 60) (by omega) (by omega) (by omega)
  have q2 := Int.mul_nonneg (show 0 ≤ k.toInt by omega) (show 0 ≤ p.toInt by omega)
  have e1 : (k * p).toInt = k.toInt * p.toInt := i32_mul (by omega) (by omega)
  have e2 := mul2 (t := p) (by omega) (by omega)
  have e3 : (s + k * p).toInt = s.toInt + k.toInt * p.toInt := by rw [i32_add (by omega) (by omega), e1]
  have e4 : (s + k * p + s).toInt = s.toInt + k.toInt * p.toInt + s.toInt := by rw [i32_add (by omega) (by omega), e3]
  rw [s_M_teethOf, i32_add (by omega) (by omega), e4, e2]
  omega
/-- near enough, in both words -/
theorem near_i (hq : QS k u w t Z Y) (hu : UW u w) (ht : 0 ≤ t.toInt ∧ t.toInt ≤ 200) (hs : S6 s) (hp : S6 p) : s_H_isNear Z s p = 0 ↔ 0 < lg_cmp ((s_M_off s p u w) * (1000 : Int64)) ((u.toInt64 * t.toInt64) * s.toInt64) := by
  obtain ⟨-, ⟨-, h26, h27, h28⟩, -⟩ := hq
  have hm := mis_c h26 h27 hu hs hp
  have ho := off_m hu hs hp
  have hr := mI_r hu hs hp
  have c1 : (1000 : Int32).toInt = 1000 := by decide
  have c2 : (1000 : Int64).toInt = 1000 := by decide
  unfold S6 at hs
  obtain ⟨u1, -⟩ := hu
  have q1 := mul_bd (a := u.toInt) (t := t.toInt) (M := 99) (N := 200) (by omega) (by omega) (by omega)
  have q2 := mul_bd (a := u.toInt * t.toInt) (t := s.toInt) (M := 19800) (N := 60) (by omega) (by omega) (by omega)
  have e1 : (u * t).toInt = u.toInt * t.toInt := i32_mul (by omega) (by omega)
  have e2 : (u * t * s).toInt = u.toInt * t.toInt * s.toInt := by rw [i32_mul (by rw [e1]; omega) (by rw [e1]; omega), e1]
  have e3 : (s_H_miss Z s p * 1000).toInt = mI s.toInt p.toInt u.toInt w.toInt * 1000 := by rw [i32_mul (by rw [hm, c1]; omega) (by rw [hm, c1]; omega), hm, c1]
  have g1 : (u.toInt64 * t.toInt64).toInt = u.toInt * t.toInt := by rw [i64_mul (by rw [i64_of, i64_of]; omega) (by rw [i64_of, i64_of]; omega), i64_of, i64_of]
  have g2 : (u.toInt64 * t.toInt64 * s.toInt64).toInt = u.toInt * t.toInt * s.toInt := by rw [i64_mul (by rw [g1, i64_of]; omega) (by rw [g1, i64_of]; omega), g1, i64_of]
  have g3 : (s_M_off s p u w * 1000).toInt = mI s.toInt p.toInt u.toInt w.toInt * 1000 := by rw [i64_mul (by rw [ho, c2]; omega) (by rw [ho, c2]; omega), ho, c2]
  rw [s_H_isNear, h26, h28, lcmp_gt, lt64, g2, g3]
  simp only [lt32, e2, e3]
  generalize u.toInt * t.toInt * s.toInt = A
  generalize mI s.toInt p.toInt u.toInt w.toInt * 1000 = B
  by_cases c : A < B
  · rw [if_pos c]; exact iff_of_true rfl c
  · rw [if_neg c]; exact iff_of_false (by decide) c
end se
