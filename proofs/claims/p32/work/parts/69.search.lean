/-! searched (begins with plain facts out of whole's parts: wip/p32/pick.py, search.lean.txt) -/
theorem mul_bd {a t M N : Int} (ha : -M ≤ a ∧ a ≤ M) (ht : -N ≤ t ∧ t ≤ N) (hM : 0 ≤ M) : -(M * N) ≤ a * t ∧ a * t ≤ M * N := by
  have h1 : a.natAbs ≤ M.natAbs := by omega
  have h2 : t.natAbs ≤ N.natAbs := by omega
  have h3 : (a * t).natAbs ≤ (M * N).natAbs := by rw [Int.natAbs_mul, Int.natAbs_mul]; exact Nat.mul_le_mul h1 h2
  have h4 : 0 ≤ M * N := Int.mul_nonneg hM (by omega)
  omega
def UW (u w : Int32) : Prop := (1 ≤ u.toInt ∧ u.toInt ≤ 99) ∧ 1 ≤ w.toInt ∧ w.toInt ≤ 99
def S6 (s : Int32) : Prop := 5 ≤ s.toInt ∧ s.toInt ≤ 60
section se
variable {Z Y : St} {k u w t s p : Int32}
def mI (s p u w : Int) : Int := if 0 ≤ 2 * (s + p) * w - u * s then 2 * (s + p) * w - u * s else -(2 * (s + p) * w - u * s)
theorem mI_b (hu : UW u w) (hs : S6 s) (hp : S6 p) : (0 ≤ 2 * (s.toInt + p.toInt) * w.toInt ∧ 2 * (s.toInt + p.toInt) * w.toInt ≤ 23760) ∧ (0 ≤ u.toInt * s.toInt ∧ u.toInt * s.toInt ≤ 5940) := by
  obtain ⟨u1, u2⟩ := hu
  unfold S6 at hs hp
  have q1 := mul_bd (a := 2 * (s.toInt + p.toInt)) (t := w.toInt) (M := 240) (N := 99) (by omega) (by omega) (by omega)
  have q2 := Int.mul_nonneg (show 0 ≤ 2 * (s.toInt + p.toInt) by omega) (show 0 ≤ w.toInt by omega)
  have q3 := mul_bd (a := u.toInt) (t := s.toInt) (M := 99) (N := 60) (by omega) (by omega) (by omega)
  have q4 := Int.mul_nonneg (show 0 ≤ u.toInt by omega) (show 0 ≤ s.toInt by omega)
  omega
theorem mI_r (hu : UW u w) (hs : S6 s) (hp : S6 p) : 0 ≤ mI s.toInt p.toInt u.toInt w.toInt ∧ mI s.toInt p.toInt u.toInt w.toInt ≤ 23760 := by
  obtain ⟨q1, q2⟩ := mI_b hu hs hp
  unfold mI
  generalize 2 * (s.toInt + p.toInt) * w.toInt = A at *
  generalize u.toInt * s.toInt = B at *
  by_cases c : 0 ≤ A - B
  · rw [if_pos c]; omega
  · rw [if_neg c]; omega
theorem mis_c (h26 : Z.1 26 = u) (h27 : Z.1 27 = w) (hu : UW u w) (hs : S6 s) (hp : S6 p) : (s_H_miss Z s p).toInt = mI s.toInt p.toInt u.toInt w.toInt := by
  obtain ⟨q1, q2⟩ := mI_b hu hs hp
  unfold S6 at hs hp
  have e0 : (s + s_T_ring s p).toInt = 2 * (s.toInt + p.toInt) := by
    have e2 := mul2 (t := p) (by omega) (by omega)
    have e4 : (s + (2 : Int32) * p).toInt = s.toInt + 2 * p.toInt := by rw [i32_add (by omega) (by omega), e2]
    rw [s_T_ring, i32_add (by omega) (by omega), e4]; omega
  have e1 : ((s + s_T_ring s p) * w).toInt = 2 * (s.toInt + p.toInt) * w.toInt := by rw [i32_mul (by rw [e0]; omega) (by rw [e0]; omega), e0]
  have e2 : (u * s).toInt = u.toInt * s.toInt := i32_mul (by omega) (by omega)
  have e3 : ((s + s_T_ring s p) * w - u * s).toInt = 2 * (s.toInt + p.toInt) * w.toInt - u.toInt * s.toInt := by rw [i32_sub (by omega) (by omega), e1, e2]
  rw [s_H_miss, h26, h27, mI]
  simp only [le32, z32, e3]
  by_cases c : 0 ≤ 2 * (s.toInt + p.toInt) * w.toInt - u.toInt * s.toInt
  · rw [if_pos c, if_pos c, e3]
  · rw [if_neg c, if_neg c, i32_sub (by rw [z32, e3]; omega) (by rw [z32, e3]; omega), z32, e3]; omega
end se
section se3
variable {S Z Y : St} {x k y t v u w g f : Int32}
def AK (a b k u w t : Int32) : Prop := 5 ≤ a.toInt ∧ a.toInt ≤ b.toInt ∧ b.toInt ≤ 60 ∧ k18 k ∧ UW u w ∧ 0 ≤ t.toInt ∧ t.toInt ≤ 200
theorem rem99 (x : Int32) : (x - x / 100 * 100).toInt ≤ 99 := by
  have h : (100 : Int32).toInt = 100 := by decide
  rw [i32_rem (by rw [h]; decide), h]
  have := Int.tmod_lt_of_pos x.toInt (show (0 : Int) < 100 by decide)
  omega
theorem ask75 : s_H_isAsked_b75 k t g f = 0 ↔ (g = 0 ∨ f = 0 ∨ ¬ (k18 k ∧ 0 ≤ t.toInt ∧ t.toInt ≤ 200)) := by
  have e1 : (1 : Int32).toInt = 1 := by decide
  have e8 : (8 : Int32).toInt = 8 := by decide
  have e2 : (200 : Int32).toInt = 200 := by decide
  rw [s_H_isAsked_b75]
  unfold k18
  by_cases c1 : g = 0
  · rw [if_pos c1]; exact iff_of_true rfl (Or.inl c1)
  · rw [if_neg c1]
    by_cases c2 : f = 0
    · rw [if_pos c2]; exact iff_of_true rfl (Or.inr (Or.inl c2))
    · rw [if_neg c2]
      have e : (g = 0 ∨ f = 0 ∨ ¬ ((1 ≤ k.toInt ∧ k.toInt ≤ 8) ∧ 0 ≤ t.toInt ∧ t.toInt ≤ 200)) ↔ ¬ ((1 ≤ k.toInt ∧ k.toInt ≤ 8) ∧ 0 ≤ t.toInt ∧ t.toInt ≤ 200) := ⟨fun h => (h.resolve_left c1).resolve_left c2, fun h => Or.inr (Or.inr h)⟩
      rw [e]
      simp only [lt32, e1, e8, e2, z32]
      repeat' split
      all_goals first | exact iff_of_true rfl (by omega) | exact iff_of_false (by decide) (by omega)
theorem ask49 (hw : w.toInt ≤ 99) : s_H_isAsked_b49 k t u w g = 0 ↔ (g = 0 ∨ ¬ (UW u w ∧ k18 k ∧ 0 ≤ t.toInt ∧ t.toInt ≤ 200)) := by
  have e1 : (1 : Int32).toInt = 1 := by decide
  have e9 : (99 : Int32).toInt = 99 := by decide
  have n0 : s_H_isAsked_b75 k t g 0 = 0 := ask75.mpr (Or.inr (Or.inl rfl))
  rw [s_H_isAsked_b49, s_H_isAsked_b74]
  by_cases c : UW u w
  · have c0 := c
    obtain ⟨⟨u1, u2⟩, w1, -⟩ := c0
    rw [if_neg (by rw [lt32, e1]; omega), if_neg (by rw [lt32, e9]; omega), if_neg (by rw [lt32, e1]; omega), ask75]
    constructor
    · intro h
      exact h.imp (fun q => q) (fun q r => (q.resolve_left (by decide)) r.2)
    · intro h
      exact h.imp (fun q => q) (fun q => Or.inr (fun r => q ⟨c, r⟩))
  · refine iff_of_true ?_ (Or.inr (fun q => c q.1))
    unfold UW at c
    simp only [lt32, e1, e9]
    split
    · exact n0
    · split
      · exact n0
      · split
        · exact n0
        · exact absurd ⟨⟨by omega, by omega⟩, by omega, by omega⟩ c
theorem asked_i : s_H_isAsked x k y t = 0 ↔ ¬ AK (x / 100) (x - x / 100 * 100) k (y / 100) (y - y / 100 * 100) t := by
  have e5 : (5 : Int32).toInt = 5 := by decide
  have e6 : (60 : Int32).toInt = 60 := by decide
  have hw := rem99 y
  rw [s_H_isAsked, s_H_isAsked_b48]
  generalize x - x / 100 * 100 = b
  generalize y - y / 100 * 100 = w at hw ⊢
  generalize x / 100 = a
  generalize y / 100 = u
  have n0 : s_H_isAsked_b49 k t u w 0 = 0 := (ask49 hw).mpr (Or.inl rfl)
  unfold AK
  by_cases c : 5 ≤ a.toInt ∧ a.toInt ≤ b.toInt ∧ b.toInt ≤ 60
  · rw [if_neg (by rw [lt32, e5]; omega), if_neg (by rw [lt32, e6]; omega), if_neg (by rw [lt32]; omega), ask49 hw]
    constructor
    · intro h q
      exact (h.resolve_left (by decide)) ⟨q.2.2.2.2.1, q.2.2.2.1, q.2.2.2.2.2⟩
    · intro h
      exact Or.inr (fun q => h ⟨c.1, c.2.1, c.2.2, q.2.1, q.1, q.2.2⟩)
  · refine iff_of_true ?_ (fun q => c ⟨q.1, q.2.1, q.2.2.1⟩)
    simp only [lt32, e5, e6]
    split
    · exact n0
    · split
      · exact n0
      · split
        · exact n0
        · exact absurd ⟨by omega, by omega, by omega⟩ c
end se3
section sea
variable {Z Y S : St} {k u w t t' s p : Int32} {c : Int}
def S3 (x : Int32) : Prop := 10 ≤ x.toInt ∧ x.toInt ≤ 30
theorem S3.s6 {x : Int32} (h : S3 x) : S6 x := by unfold S3 at h; unfold S6; omega
/-- one set looked at -/
def stp (Z : St) (s p : Int32) : St := if s_H_isNear Z s p = 0 then Z else if s_T_canBe s p (Z.1 25) = 0 then Z else s_H_take Z s p
theorem b59_s {kc : St → Int32 → Int32 → Int32 → St} {n : Nat} {a b : Int32} : s_H_run_b59 kc (n + 1) Z a b s p = if b < p then kc Z a b (s + 1) else s_H_run_b59 kc n (stp Z s p) a b s (p + 1) := by
  rw [s_H_run_b59, stp]
  by_cases c1 : b < p
  · rw [if_pos c1, if_pos c1]
  · rw [if_neg c1, if_neg c1]
    by_cases c2 : s_H_isNear Z s p = 0
    · rw [if_pos c2, if_pos c2]
    · rw [if_neg c2, if_neg c2]
      by_cases c3 : s_T_canBe s p (Z.1 25) = 0
      · rw [if_pos c3, if_pos c3]
      · rw [if_neg c3, if_neg c3]
/-- two searches side by side -/
theorem lock_in {Φ : Int → St → St → Prop} (hs : ∀ (c : Int) (Z Y : St) (s p : Int32), S3 s → S3 p → Φ c Z Y → Φ (c + 1) (stp Z s p) (stp Y s p)) {kc : St → Int32 → Int32 → Int32 → St} (h3 : S3 s) : ∀ (n : Nat) (p : Int32) (c : Int) (Z Y : St), 10 ≤ p.toInt → p.toInt ≤ 31 → 31 - p.toInt < (n : Int) → Φ c Z Y → ∃ Z' Y' : St, s_H_run_b59 kc n Z 10 30 s p = kc Z' 10 30 (s + 1) ∧ s_H_run_b59 kc n Y 10 30 s p = kc Y' 10 30 (s + 1) ∧ Φ (c + (31 - p.toInt)) Z' Y' := by
  intro n
  have e30 : (30 : Int32).toInt = 30 := by decide
  induction n with
  | zero => intro p c Z Y h0 h1 h2; omega
  | succ n ih =>
    intro p c Z Y h0 h1 h2 h
    rw [b59_s, b59_s]
    by_cases d : (30 : Int32) < p
    · rw [if_pos d, if_pos d]
      rw [lt32, e30] at d
      exact ⟨Z, Y, rfl, rfl, by rw [show c + (31 - p.toInt) = c by omega]; exact h⟩
    · rw [if_neg d, if_neg d]
      rw [lt32, e30] at d
      have es : (p + 1).toInt = p.toInt + 1 := i32_suc (by omega)
      obtain ⟨Z', Y', i1, i2, i3⟩ := ih (p + 1) (c + 1) _ _ (by omega) (by omega) (by omega) (hs c Z Y s p h3 ⟨by omega, by omega⟩ h)
      exact ⟨Z', Y', i1, i2, by rw [show c + (31 - p.toInt) = c + 1 + (31 - (p + 1).toInt) by omega]; exact i3⟩
theorem lock_out {Φ : Int → St → St → Prop} (hs : ∀ (c : Int) (Z Y : St) (s p : Int32), S3 s → S3 p → Φ c Z Y → Φ (c + 1) (stp Z s p) (stp Y s p)) : ∀ (n : Nat) (s : Int32) (c : Int) (Z Y : St), 10 ≤ s.toInt → s.toInt ≤ 31 → 31 - s.toInt < (n : Int) → Φ c Z Y → Φ (c + 21 * (31 - s.toInt)) (s_H_run_b48 n Z 10 30 s) (s_H_run_b48 n Y 10 30 s) := by
  intro n
  have e30 : (30 : Int32).toInt = 30 := by decide
  have e10 : (10 : Int32).toInt = 10 := by decide
  induction n with
  | zero => intro s c Z Y h0 h1 h2; omega
  | succ n ih =>
    intro s c Z Y h0 h1 h2 h
    rw [s_H_run_b48, s_H_run_b48]
    by_cases d : (30 : Int32) < s
    · rw [if_pos d, if_pos d]
      rw [lt32, e30] at d
      rw [show c + 21 * (31 - s.toInt) = c by omega]; exact h
    · rw [if_neg d, if_neg d]
      rw [lt32, e30] at d
      have es : (s + 1).toInt = s.toInt + 1 := i32_suc (by omega)
      obtain ⟨Z', Y', i1, i2, i3⟩ := lock_in hs (kc := fun Z x5 x6 x7 => s_H_run_b48 n Z x5 x6 x7) (s := s) ⟨by omega, by omega⟩ (((30 : Int32).toInt + 1 - (10 : Int32).toInt).toNat + 1) 10 c Z Y (by decide) (by decide) (by decide) h
      rw [i1, i2, show c + 21 * (31 - s.toInt) = c + (31 - (10 : Int32).toInt) + 21 * (31 - (s + 1).toInt) by rw [e10, es]; omega]
      exact ih (s + 1) _ Z' Y' (by omega) (by omega) (by omega) i3
/-- what a search of 10 to 30 begins with -/
def beg (S : St) (k uw t : Int32) : St := sV (sV (sV (sV (sV S 25 k) 26 (uw / 100)) 27 (uw - uw / 100 * 100)) 28 t) 29 0
theorem run_lock {Φ : Int → St → St → Prop} (hs : ∀ (c : Int) (Z Y : St) (s p : Int32), S3 s → S3 p → Φ c Z Y → Φ (c + 1) (stp Z s p) (stp Y s p)) {uw uw' : Int32} {k' : Int32} (h : Φ 0 (beg Z k uw t) (beg Y k' uw' t')) : Φ 441 (s_H_run Z 1030 k uw t) (s_H_run Y 1030 k' uw' t') := by
  have e1 : (1030 : Int32) / 100 = 10 := by decide
  have e2 : (1030 : Int32) - 10 * 100 = 30 := by decide
  rw [s_H_run, s_H_run, e1, e2]
  exact lock_out hs _ 10 0 _ _ (by decide) (by decide) (by decide) h
/-- what a search keeps to -/
def RS (k u w t : Int32) (Z : St) : Prop := Z.1 25 = k ∧ Z.1 26 = u ∧ Z.1 27 = w ∧ Z.1 28 = t
def nr (u w t s p : Int32) : Prop := mI s.toInt p.toInt u.toInt w.toInt * 1000 ≤ u.toInt * t.toInt * s.toInt
/-- the first one found, so far -/
def GS (k u w t : Int32) (Z : St) : Prop := Z.1 29 = 0 ∨ (S3 (Z.1 30) ∧ S3 (Z.1 31) ∧ nr u w t (Z.1 30) (Z.1 31) ∧ ¬ s_T_canBe (Z.1 30) (Z.1 31) k = 0)
theorem near_i (hr : RS k u w t Z) (hu : UW u w) (ht : 0 ≤ t.toInt ∧ t.toInt ≤ 200) (hs : S6 s) (hp : S6 p) : s_H_isNear Z s p = 0 ↔ ¬ nr u w t s p := by
  obtain ⟨h25, h26, h27, h28⟩ := hr
  have e1000 : (1000 : Int32).toInt = 1000 := by decide
  have hm := mis_c h26 h27 hu hs hp
  have hb := mI_r hu hs hp
  have hss := hs
  unfold S6 at hss
  obtain ⟨u1, u2⟩ := hu
  have q1 := mul_bd (a := u.toInt) (t := t.toInt) (M := 99) (N := 200) (by omega) (by omega) (by omega)
  have q2 := Int.mul_nonneg (show 0 ≤ u.toInt by omega) (show 0 ≤ t.toInt by omega)
  have e1 : (u * t).toInt = u.toInt * t.toInt := i32_mul (by omega) (by omega)
  have q3 := mul_bd (a := u.toInt * t.toInt) (t := s.toInt) (M := 19800) (N := 60) (by omega) (by omega) (by omega)
  have q4 := Int.mul_nonneg q2 (show 0 ≤ s.toInt by omega)
  have e2 : (u * t * s).toInt = u.toInt * t.toInt * s.toInt := by rw [i32_mul (by rw [e1]; omega) (by rw [e1]; omega), e1]
  have e3 : (s_H_miss Z s p * 1000).toInt = mI s.toInt p.toInt u.toInt w.toInt * 1000 := by rw [i32_mul (by rw [hm, e1000]; omega) (by rw [hm, e1000]; omega), hm, e1000]
  rw [s_H_isNear, h26, h28]
  unfold nr
  simp only [lt32, e2, e3]
  split
  · exact iff_of_true rfl (by omega)
  · exact iff_of_false (by decide) (by omega)
theorem take_1 (j : Nat) (h : j ≠ 29 ∧ j ≠ 30 ∧ j ≠ 31) : (s_H_take Z s p).1 j = Z.1 j := by
  rw [s_H_take, s_H_take_b16, s_H_take_b26, s_H_take_b26]
  split
  · rw [sV_ne h.1, sV_ne h.2.2, sV_ne h.2.1]
  · split
    · rw [sV_ne h.1]
    · rw [sV_ne h.1, sV_ne h.2.2, sV_ne h.2.1]
theorem take_2 : (s_H_take Z s p).2 = Z.2 := by
  rw [s_H_take, s_H_take_b16, s_H_take_b26, s_H_take_b26]
  split
  · rfl
  · split <;> rfl
theorem b16_29 : (s_H_take_b16 Z s p).1 29 = Z.1 29 + 1 := by rw [s_H_take_b16, s_H_take_b26, sV_eq, sV_ne (by decide), sV_ne (by decide)]
theorem b26_29 : (s_H_take_b26 Z).1 29 = Z.1 29 + 1 := by rw [s_H_take_b26, sV_eq]
theorem b16_30 : (s_H_take_b16 Z s p).1 30 = s ∧ (s_H_take_b16 Z s p).1 31 = p := by
  rw [s_H_take_b16, s_H_take_b26]
  exact ⟨by rw [sV_ne (by decide), sV_ne (by decide), sV_eq], by rw [sV_ne (by decide), sV_eq]⟩
theorem b26_30 : (s_H_take_b26 Z).1 30 = Z.1 30 ∧ (s_H_take_b26 Z).1 31 = Z.1 31 := by
  rw [s_H_take_b26]
  exact ⟨by rw [sV_ne (by decide)], by rw [sV_ne (by decide)]⟩
theorem take_29 : (s_H_take Z s p).1 29 = Z.1 29 + 1 := by
  rw [s_H_take]
  split
  · exact b16_29
  · split
    · exact b26_29
    · exact b16_29
theorem take_30 : ((s_H_take Z s p).1 30 = s ∧ (s_H_take Z s p).1 31 = p) ∨ (¬ Z.1 29 = 0 ∧ (s_H_take Z s p).1 30 = Z.1 30 ∧ (s_H_take Z s p).1 31 = Z.1 31) := by
  rw [s_H_take]
  by_cases c : Z.1 29 = 0
  · rw [if_pos c]; exact Or.inl b16_30
  · rw [if_neg c]
    by_cases d : s_H_isBetter Z s p = 0
    · rw [if_pos d]; exact Or.inr ⟨c, b26_30⟩
    · rw [if_neg d]; exact Or.inl b16_30
theorem RS_take (h : RS k u w t Z) : RS k u w t (s_H_take Z s p) := ⟨(take_1 25 (by decide)).trans h.1, (take_1 26 (by decide)).trans h.2.1, (take_1 27 (by decide)).trans h.2.2.1, (take_1 28 (by decide)).trans h.2.2.2⟩
theorem GS_take (h : GS k u w t Z) (hs : S3 s) (hp : S3 p) (hn : nr u w t s p) (hc : ¬ s_T_canBe s p k = 0) : GS k u w t (s_H_take Z s p) := by
  refine Or.inr ?_
  rcases take_30 (Z := Z) (s := s) (p := p) with ⟨a, b⟩ | ⟨f, a, b⟩
  · rw [a, b]; exact ⟨hs, hp, hn, hc⟩
  · rw [a, b]; exact h.resolve_left f
theorem stp_no (hr : RS k u w t Z) (hu : UW u w) (ht : 0 ≤ t.toInt ∧ t.toInt ≤ 200) (hs : S3 s) (hp : S3 p) (h : ¬ (nr u w t s p ∧ ¬ s_T_canBe s p k = 0)) : stp Z s p = Z := by
  have hn := near_i hr hu ht hs.s6 hp.s6
  rw [stp, hr.1]
  by_cases c : s_H_isNear Z s p = 0
  · rw [if_pos c]
  · rw [if_neg c, if_pos (Classical.not_not.mp (fun q => h ⟨Classical.not_not.mp (fun z => c (hn.mpr z)), q⟩))]
theorem stp_yes (hr : RS k u w t Z) (hu : UW u w) (ht : 0 ≤ t.toInt ∧ t.toInt ≤ 200) (hs : S3 s) (hp : S3 p) (h : nr u w t s p ∧ ¬ s_T_canBe s p k = 0) : stp Z s p = s_H_take Z s p := by
  have hn := near_i hr hu ht hs.s6 hp.s6
  rw [stp, hr.1, if_neg (fun q => hn.mp q h.1), if_neg h.2]
theorem nr_mono (hu : UW u w) (hs : S3 s) (h : t.toInt ≤ t'.toInt) (hn : nr u w t s p) : nr u w t' s p := by
  unfold nr at hn ⊢
  unfold UW at hu
  unfold S3 at hs
  have q1 := Int.mul_le_mul_of_nonneg_left h (show 0 ≤ u.toInt by omega)
  have q2 := Int.mul_le_mul_of_nonneg_right q1 (show 0 ≤ s.toInt by omega)
  exact Int.le_trans hn q2
/-- two searches, the second at least as wide -/
def F1 (k u w t t' : Int32) (c : Int) (Z Y : St) : Prop := RS k u w t Z ∧ RS k u w t' Y ∧ GS k u w t Z ∧ GS k u w t' Y ∧ 0 ≤ (Z.1 29).toInt ∧ (Z.1 29).toInt ≤ (Y.1 29).toInt ∧ (Y.1 29).toInt ≤ c ∧ c ≤ 441
theorem F1_st (hu : UW u w) (ht : 0 ≤ t.toInt ∧ t.toInt ≤ 200) (ht' : 0 ≤ t'.toInt ∧ t'.toInt ≤ 200) (hl : t.toInt ≤ t'.toInt) (hc : c + 1 ≤ 441) (hs : S3 s) (hp : S3 p) (h : F1 k u w t t' c Z Y) : F1 k u w t t' (c + 1) (stp Z s p) (stp Y s p) := by
  obtain ⟨r1, r2, g1, g2, z0, z1, z2, z3⟩ := h
  by_cases a : nr u w t s p ∧ ¬ s_T_canBe s p k = 0
  · have a' : nr u w t' s p ∧ ¬ s_T_canBe s p k = 0 := ⟨nr_mono hu hs hl a.1, a.2⟩
    rw [stp_yes r1 hu ht hs hp a, stp_yes r2 hu ht' hs hp a']
    have e1 : ((s_H_take Z s p).1 29).toInt = (Z.1 29).toInt + 1 := by rw [take_29, i32_suc (by omega)]
    have e2 : ((s_H_take Y s p).1 29).toInt = (Y.1 29).toInt + 1 := by rw [take_29, i32_suc (by omega)]
    exact ⟨RS_take r1, RS_take r2, GS_take g1 hs hp a.1 a.2, GS_take g2 hs hp a'.1 a'.2, by omega, by omega, by omega, hc⟩
  · rw [stp_no r1 hu ht hs hp a]
    by_cases a' : nr u w t' s p ∧ ¬ s_T_canBe s p k = 0
    · rw [stp_yes r2 hu ht' hs hp a']
      have e2 : ((s_H_take Y s p).1 29).toInt = (Y.1 29).toInt + 1 := by rw [take_29, i32_suc (by omega)]
      exact ⟨r1, RS_take r2, g1, GS_take g2 hs hp a'.1 a'.2, z0, by omega, by omega, hc⟩
    · rw [stp_no r2 hu ht' hs hp a']
      exact ⟨r1, r2, g1, g2, z0, z1, by omega, hc⟩
/-- two searches for one thing -/
def F2 (k u w t : Int32) (c : Int) (Z Y : St) : Prop := RS k u w t Z ∧ RS k u w t Y ∧ Z.1 29 = Y.1 29 ∧ (Z.1 29 = 0 ∨ (Z.1 30 = Y.1 30 ∧ Z.1 31 = Y.1 31))
theorem miss_cg (h : RS k u w t Z) (h' : RS k u w t Y) : s_H_miss Z s p = s_H_miss Y s p := by
  rw [s_H_miss, s_H_miss, h.2.1, h.2.2.1, h'.2.1, h'.2.2.1]
theorem bet_cg (h : RS k u w t Z) (h' : RS k u w t Y) (e0 : Z.1 30 = Y.1 30) (e1 : Z.1 31 = Y.1 31) : s_H_isBetter Z s p = s_H_isBetter Y s p := by
  rw [s_H_isBetter, s_H_isBetter, e0, e1, h.1, h'.1, miss_cg h h', miss_cg h h']
theorem F2_st (hu : UW u w) (ht : 0 ≤ t.toInt ∧ t.toInt ≤ 200) (hs : S3 s) (hp : S3 p) (h : F2 k u w t c Z Y) : F2 k u w t (c + 1) (stp Z s p) (stp Y s p) := by
  obtain ⟨r1, r2, e1, e2⟩ := h
  by_cases a : nr u w t s p ∧ ¬ s_T_canBe s p k = 0
  · rw [stp_yes r1 hu ht hs hp a, stp_yes r2 hu ht hs hp a]
    refine ⟨RS_take r1, RS_take r2, by rw [take_29, take_29, e1], Or.inr ?_⟩
    rw [s_H_take, s_H_take, ← e1]
    by_cases z : Z.1 29 = 0
    · rw [if_pos z, if_pos z]
      exact ⟨b16_30.1.trans b16_30.1.symm, b16_30.2.trans b16_30.2.symm⟩
    · rw [if_neg z, if_neg z]
      obtain ⟨f1, f2⟩ := e2.resolve_left z
      rw [bet_cg r1 r2 f1 f2]
      by_cases d : s_H_isBetter Y s p = 0
      · rw [if_pos d, if_pos d]
        exact ⟨b26_30.1.trans (f1.trans b26_30.1.symm), b26_30.2.trans (f2.trans b26_30.2.symm)⟩
      · rw [if_neg d, if_neg d]
        exact ⟨b16_30.1.trans b16_30.1.symm, b16_30.2.trans b16_30.2.symm⟩
  · rw [stp_no r1 hu ht hs hp a, stp_no r2 hu ht hs hp a]
    exact ⟨r1, r2, e1, e2⟩
/-- a search touches nothing but its own -/
def F3 (S : St) (c : Int) (Z Y : St) : Prop := (∀ j : Nat, j < 25 → Z.1 j = S.1 j) ∧ Z.2 = S.2
theorem F3_st (h : F3 S c Z Y) : F3 S (c + 1) (stp Z s p) (stp Y s p) := by
  rw [stp]
  split
  · exact h
  · split
    · exact h
    · exact ⟨fun j hj => (take_1 j (by omega)).trans (h.1 j hj), take_2.trans h.2⟩
theorem beg_1 {uw : Int32} (j : Nat) (hj : j < 25) : (beg S k uw t).1 j = S.1 j := by
  rw [beg, sV_ne (by omega), sV_ne (by omega), sV_ne (by omega), sV_ne (by omega), sV_ne (by omega)]
theorem beg_r {uw : Int32} : RS k (uw / 100) (uw - uw / 100 * 100) t (beg S k uw t) ∧ (beg S k uw t).1 29 = 0 := by
  rw [beg]
  refine ⟨⟨?_, ?_, ?_, ?_⟩, sV_eq⟩
  · rw [sV_ne (by decide), sV_ne (by decide), sV_ne (by decide), sV_ne (by decide), sV_eq]
  · rw [sV_ne (by decide), sV_ne (by decide), sV_ne (by decide), sV_eq]
  · rw [sV_ne (by decide), sV_ne (by decide), sV_eq]
  · rw [sV_ne (by decide), sV_eq]
/-- what the law asks: u by w, t, k -/
def SQ3 (uw t k : Int32) : Prop := (2 ≤ (uw / 100).toInt ∧ (uw / 100).toInt ≤ 17) ∧ (1 ≤ (uw - uw / 100 * 100).toInt ∧ (uw - uw / 100 * 100).toInt ≤ 4) ∧ (0 ≤ t.toInt ∧ t.toInt ≤ 128) ∧ 1 ≤ k.toInt ∧ k.toInt ≤ 4
variable {uw v : Int32}
theorem SQ3.hu (h : SQ3 uw t k) : UW (uw / 100) (uw - uw / 100 * 100) := by unfold SQ3 at h; unfold UW; omega
theorem SQ3.t200 (h : SQ3 uw t k) : 0 ≤ t.toInt ∧ t.toInt ≤ 200 := by unfold SQ3 at h; omega
theorem SQ3.hk (h : SQ3 uw t k) : k18 k := by unfold SQ3 at h; unfold k18; omega
theorem sea_1 (h : SQ3 uw t k) (hv : 0 ≤ v.toInt ∧ v.toInt ≤ 3) : s_P_searched Z 1030 k uw t v = (s_H_told (s_H_run Z 1030 k uw t) v, s_H_run Z 1030 k uw t) := by
  have e3 : (3 : Int32).toInt = 3 := by decide
  have e1 : (1030 : Int32) / 100 = 10 := by decide
  have e2 : (1030 : Int32) - 10 * 100 = 30 := by decide
  have ha : ¬ s_H_isAsked 1030 k uw t = 0 := fun q => asked_i.mp q (by
    rw [e1, e2]
    exact ⟨by decide, by decide, by decide, h.hk, h.hu, h.t200⟩)
  rw [s_P_searched, if_neg ha, if_neg (by rw [lt32, z32]; omega), if_pos (by rw [le32, e3]; omega)]
theorem sea_fr (h : SQ3 uw t k) (hv : 0 ≤ v.toInt ∧ v.toInt ≤ 3) : (∀ j : Nat, j < 25 → (s_P_searched Z 1030 k uw t v).2.1 j = Z.1 j) ∧ (s_P_searched Z 1030 k uw t v).2.2 = Z.2 := by
  rw [sea_1 h hv]
  exact run_lock (Φ := F3 Z) (Y := Z) (k' := k) (uw' := uw) (t' := t) (fun c A B s p _ _ h => F3_st h) ⟨fun j hj => beg_1 j hj, rfl⟩
theorem sea_F1 (h : SQ3 uw t k) (h' : SQ3 uw t' k) (hl : t.toInt ≤ t'.toInt) : F1 k (uw / 100) (uw - uw / 100 * 100) t t' 441 (s_H_run Z 1030 k uw t) (s_H_run Y 1030 k uw t') := by
  have key := run_lock (Φ := fun c A B => c ≤ 441 → F1 k (uw / 100) (uw - uw / 100 * 100) t t' c A B) (Z := Z) (Y := Y) (k := k) (k' := k) (uw := uw) (uw' := uw) (t := t) (t' := t') (fun c A B s p hs hp hh hc => F1_st h.hu h.t200 h'.t200 hl hc hs hp (hh (by omega))) (fun _ => by
    obtain ⟨a1, a2⟩ := beg_r (S := Z) (k := k) (uw := uw) (t := t)
    obtain ⟨b1, b2⟩ := beg_r (S := Y) (k := k) (uw := uw) (t := t')
    exact ⟨a1, b1, Or.inl a2, Or.inl b2, by rw [a2]; decide, by rw [a2, b2]; decide, by rw [b2]; decide, by decide⟩)
  exact key (by decide)
theorem sea_F2 (h : SQ3 uw t k) : F2 k (uw / 100) (uw - uw / 100 * 100) t 441 (s_H_run Z 1030 k uw t) (s_H_run Y 1030 k uw t) := by
  refine run_lock (Φ := F2 k (uw / 100) (uw - uw / 100 * 100) t) (fun c A B s p hs hp hh => F2_st h.hu h.t200 hs hp hh) ?_
  obtain ⟨a1, a2⟩ := beg_r (S := Z) (k := k) (uw := uw) (t := t)
  obtain ⟨b1, b2⟩ := beg_r (S := Y) (k := k) (uw := uw) (t := t)
  exact ⟨a1, b1, a2.trans b2.symm, Or.inl a2⟩
theorem told_0 : s_H_told Z 0 = Z.1 29 := by rw [s_H_told, if_pos rfl]
/-- how many, and more of them the wider -/
theorem sea_le (h : SQ3 uw t k) (h' : SQ3 uw t' k) (hl : t.toInt ≤ t'.toInt) : 0 ≤ (s_P_searched Z 1030 k uw t 0).1.toInt ∧ (s_P_searched Z 1030 k uw t 0).1.toInt ≤ (s_P_searched Y 1030 k uw t' 0).1.toInt ∧ (s_P_searched Y 1030 k uw t' 0).1.toInt ≤ 441 := by
  obtain ⟨-, -, -, -, z0, z1, z2, -⟩ := sea_F1 (Z := Z) (Y := Y) h h' hl
  rw [sea_1 h (by decide), sea_1 h' (by decide)]
  rw [← told_0] at z0 z1 z2
  rw [← told_0 (Z := s_H_run Y 1030 k uw t')] at z1
  exact ⟨z0, z1, z2⟩
theorem sea_f (h : SQ3 uw t k) (hv : 0 ≤ v.toInt ∧ v.toInt ≤ 3) : (s_P_searched Z 1030 k uw t v).1 = s_H_told (s_H_run Z 1030 k uw t) v := congrArg Prod.fst (sea_1 h hv)
theorem told_no (c : Z.1 29 = 0) : s_H_told Z 1 = -2 := by rw [s_H_told, if_neg (by decide), if_pos c]
theorem told_1 (c : ¬ Z.1 29 = 0) : s_H_told Z 1 = Z.1 30 := by rw [s_H_told, if_neg (by decide), if_neg c, if_pos rfl]
theorem told_2 (c : ¬ Z.1 29 = 0) : s_H_told Z 2 = Z.1 31 := by rw [s_H_told, if_neg (by decide), if_neg c, if_neg (by decide), if_pos rfl]
theorem told_3 (c : ¬ Z.1 29 = 0) : s_H_told Z 3 = s_T_teethTogether (Z.1 30) (Z.1 31) (Z.1 25) := by rw [s_H_told, if_neg (by decide), if_neg c, if_neg (by decide), if_neg (by decide)]
/-- none found: NOT -/
theorem sea_0 (h : SQ3 uw t k) (c : (s_P_searched Z 1030 k uw t 0).1 = 0) : (s_P_searched Y 1030 k uw t 1).1 = -2 := by
  obtain ⟨-, -, e, -⟩ := sea_F2 (Z := Z) (Y := Y) h
  rw [sea_f h (by decide), told_0] at c
  rw [sea_f h (by decide)]
  exact told_no (e.symm.trans c)
/-- the first one found, whoever asks -/
theorem sea_s (h : SQ3 uw t k) (c : ¬ (s_P_searched Z 1030 k uw t 0).1 = 0) : ∃ s p : Int32, S3 s ∧ S3 p ∧ nr (uw / 100) (uw - uw / 100 * 100) t s p ∧ ¬ s_T_canBe s p k = 0 ∧ ∀ Y : St, (s_P_searched Y 1030 k uw t 1).1 = s ∧ (s_P_searched Y 1030 k uw t 2).1 = p ∧ (s_P_searched Y 1030 k uw t 3).1 = s_T_teethTogether s p k := by
  have cz := c
  rw [sea_f h (by decide), told_0] at cz
  obtain ⟨-, -, g, -⟩ := sea_F1 (Z := Z) (Y := Z) h h (Int.le_refl _)
  obtain ⟨g1, g2, g3, g4⟩ := g.resolve_left cz
  refine ⟨_, _, g1, g2, g3, g4, fun Y => ?_⟩
  obtain ⟨r1, r2, e, f⟩ := sea_F2 (Z := Z) (Y := Y) h
  obtain ⟨f1, f2⟩ := f.resolve_left cz
  rw [sea_f h (by decide), sea_f h (by decide), sea_f h (by decide), f1, f2]
  generalize s_H_run Y 1030 k uw t = B at *
  generalize s_H_run Z 1030 k uw t = A at *
  have cy : ¬ B.1 29 = 0 := fun q => cz (e.trans q)
  rw [told_1 cy, told_2 cy, told_3 cy, r2.1]
  exact ⟨rfl, rfl, rfl⟩
theorem sea_in (h : SQ3 uw t k) (c : ¬ (s_P_searched Z 1030 k uw t 0).1 = 0) (Y X : St) : S3 (s_P_searched Y 1030 k uw t 1).1 ∧ S3 (s_P_searched X 1030 k uw t 2).1 := by
  obtain ⟨s, p, h1, h2, -, -, hh⟩ := sea_s h c
  rw [(hh Y).1, (hh X).2.1]; exact ⟨h1, h2⟩
end sea

