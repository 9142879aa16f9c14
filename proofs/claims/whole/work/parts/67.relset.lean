/-! sets: together, most, planets -/
section st
variable {S M : St} {a b k x : Int32}
theorem out_i : s_P_isOutward a = 0 ↔ ¬ (5 ≤ a.toInt ∧ a.toInt ≤ 99) := by
  have e1 : (5 : Int32).toInt = 5 := by decide
  have e2 : (99 : Int32).toInt = 99 := by decide
  rw [s_P_isOutward]
  simp only [lt32, e1, e2]
  repeat' split
  all_goals first | exact iff_of_true rfl (by omega) | exact iff_of_false (by decide) (by omega)
abbrev OW (a b : Int32) : Prop := (5 ≤ a.toInt ∧ a.toInt ≤ 99) ∧ 5 ≤ b.toInt ∧ b.toInt ≤ 99
theorem set_i : s_M_areSet a b = 0 ↔ ¬ OW a b := by
  have e1 : (5 : Int64).toInt = 5 := by decide
  have e2 : (99 : Int64).toInt = 99 := by decide
  rw [s_M_areSet]
  simp only [in_i, i64_of, e1, e2]
  unfold OW
  repeat' split
  all_goals first | exact iff_of_true rfl (by omega) | exact iff_of_false (by decide) (by omega)
theorem k18_8 (h : k18 k) : k = 1 ∨ k = 2 ∨ k = 3 ∨ k = 4 ∨ k = 5 ∨ k = 6 ∨ k = 7 ∨ k = 8 := by
  have e1 : (1 : Int32).toInt = 1 := by decide
  have e2 : (2 : Int32).toInt = 2 := by decide
  have e3 : (3 : Int32).toInt = 3 := by decide
  have e4 : (4 : Int32).toInt = 4 := by decide
  have e5 : (5 : Int32).toInt = 5 := by decide
  have e6 : (6 : Int32).toInt = 6 := by decide
  have e7 : (7 : Int32).toInt = 7 := by decide
  have e8 : (8 : Int32).toInt = 8 := by decide
  obtain ⟨h1, h2⟩ := h
  simp only [eq32, e1, e2, e3, e4, e5, e6, e7, e8]
  omega
theorem sin_eq (h : k18 k) : s_T_sine k = snF k.toNatClampNeg := by
  rcases k18_8 h with e | e | e | e | e | e | e | e <;> rw [e] <;> decide
theorem mul2 {t : Int32} (h1 : -1000000 ≤ t.toInt) (h2 : t.toInt ≤ 1000000) : ((2 : Int32) * t).toInt = 2 * t.toInt := by
  have c : (2 : Int32).toInt = 2 := by decide
  rw [i32_mul (by rw [c]; omega) (by rw [c]; omega), c]
theorem sum_eq (h : OW a b) : a + s_T_ring a b = (2 : Int32) * (a + b) := by
  obtain ⟨h1, h2⟩ := h
  have e1 := mul2 (t := b) (by omega) (by omega)
  have e2 : (a + b).toInt = a.toInt + b.toInt := i32_add (by omega) (by omega)
  have e3 := mul2 (t := a + b) (by omega) (by omega)
  have e4 : (a + (2 : Int32) * b).toInt = a.toInt + 2 * b.toInt := by rw [i32_add (by omega) (by omega), e1]
  exact eq32.mpr (by rw [s_T_ring, i32_add (by omega) (by omega), e4, e3, e2]; omega)
/-- what the reference's puts says, in the class's words -/
theorem puts_c (h : OW a b) (hk : k18 k) : s_M_puts M a b k = (if s_T_divides a b k = 0 then (if s_T_touch a b k = 0 then (-1 : Int32) else (-3 : Int32)) else (if s_T_touch a b k = 0 then (1 : Int32) else (-2 : Int32))) := by
  have k0 : ¬ k = 0 := k18_ne hk
  rw [s_M_puts, s_T_divides, if_neg k0, sum_eq h, s_T_touch, sin_eq hk]
  by_cases d : (2 : Int32) * (a + b) - (2 : Int32) * (a + b) / k * k = 0
  · simp only [if_pos d, if_neg (show ¬ (1 : Int32) = 0 by decide)]
    by_cases k1 : k = 1
    · simp only [if_pos k1, if_true]
    · simp only [if_neg k1]
      by_cases t : (1000 : Int32) * (b + 2) < (a + b) * snF k.toNatClampNeg
      · have t1 : ¬ (a + b) * snF k.toNatClampNeg ≤ (1000 : Int32) * (b + 2) := by rw [le32]; rw [lt32] at t; omega
        simp only [if_pos t, if_neg t1, if_true]
      · have t1 : (a + b) * snF k.toNatClampNeg ≤ (1000 : Int32) * (b + 2) := by rw [le32]; rw [lt32] at t; omega
        simp only [if_neg t, if_pos t1, if_neg (show ¬ (1 : Int32) = 0 by decide)]
  · simp only [if_neg d, if_true]
    by_cases k1 : k = 1
    · simp only [if_pos k1, if_true]
    · simp only [if_neg k1]
      by_cases t : (1000 : Int32) * (b + 2) < (a + b) * snF k.toNatClampNeg
      · have t1 : ¬ (a + b) * snF k.toNatClampNeg ≤ (1000 : Int32) * (b + 2) := by rw [le32]; rw [lt32] at t; omega
        simp only [if_pos t, if_neg t1, if_true]
      · have t1 : (a + b) * snF k.toNatClampNeg ≤ (1000 : Int32) * (b + 2) := by rw [le32]; rw [lt32] at t; omega
        simp only [if_neg t, if_pos t1, if_neg (show ¬ (1 : Int32) = 0 by decide)]
theorem can_c (h : OW a b) (hk : k18 k) : s_T_canBe a b k = 0 ↔ ¬ s_M_puts M a b k = 1 := by
  rw [puts_c h hk, s_T_canBe]
  by_cases d : s_T_divides a b k = 0
  · rw [if_pos d, if_pos d]
    by_cases t : s_T_touch a b k = 0
    · rw [if_pos t]; exact iff_of_true rfl (by decide)
    · rw [if_neg t]; exact iff_of_true rfl (by decide)
  · rw [if_neg d, if_neg d]
    by_cases t : s_T_touch a b k = 0
    · rw [if_pos t, if_pos t]; exact iff_of_false (by decide) (by decide)
    · rw [if_neg t, if_neg t]; exact iff_of_true rfl (by decide)
theorem q_together (h : Rel S M) : s_P_together S a b k = s_M_together M a b k := by
  have e1 : (1 : Int64).toInt = 1 := by decide
  have e8 : (8 : Int64).toInt = 8 := by decide
  have e1' : (1 : Int32).toInt = 1 := by decide
  have e8' : (8 : Int32).toInt = 8 := by decide
  have ei : s_M_in k.toInt64 (1 : Int64) (8 : Int64) = 0 ↔ ¬ k18 k := by rw [in_i, i64_of, e1, e8]; exact Iff.rfl
  rw [s_P_together, s_M_together]
  by_cases c : OW a b
  · rw [if_neg (fun q => out_i.mp q c.1), if_neg (fun q => out_i.mp q c.2), if_neg (fun q => set_i.mp q c)]
    by_cases d : k18 k
    · rw [if_neg (fun q => ei.mp q d), puts_c c d, if_neg (show ¬ k < 1 by rw [lt32, e1']; have := d.1; omega), if_pos (show k ≤ 8 by rw [le32, e8']; exact d.2)]
    · rw [if_pos (ei.mpr d)]
      by_cases d1 : k < 1
      · rw [if_pos d1]
      · rw [if_neg d1, if_neg (fun q => d ⟨by rw [lt32, e1'] at d1; omega, by rw [le32, e8'] at q; exact q⟩)]
  · rw [if_pos (set_i.mpr c)]
    by_cases d : s_P_isOutward a = 0
    · rw [if_pos d]
    · rw [if_neg d, if_pos (out_i.mpr (fun q => c ⟨Classical.not_not.mp (fun q' => d (out_i.mpr q')), q⟩))]
theorem mst_b (h : OW a b) : ∀ (n m : Nat) (k : Int32), k18 k → k.toInt < (n : Int) → k.toInt ≤ (m : Int) → s_T_mostPlanets_b3 n a b k = s_M_most_b13 M m a b k := by
  intro n
  have e1 : (1 : Int32).toInt = 1 := by decide
  have em : (-1 : Int32).toInt = -1 := by decide
  induction n with
  | zero => intro m k hk h1 _; have := hk.1; omega
  | succ n ih =>
    intro m k hk h1 h2
    have hk1 := hk.1
    have hk2 := hk.2
    obtain ⟨m, rfl⟩ : ∃ m', m = m' + 1 := ⟨m - 1, by omega⟩
    rw [s_T_mostPlanets_b3, s_M_most_b13]
    by_cases c : k ≤ 1
    · have ek : k = 1 := eq32.mpr (by rw [le32, e1] at c; omega)
      rw [if_pos c, ek, puts_1, if_pos rfl]
    · rw [if_neg c]
      rw [le32, e1] at c
      by_cases d : s_M_puts M a b k = 1
      · rw [if_neg (fun q => (can_c h hk).mp q d), if_pos d]
      · rw [if_pos ((can_c h hk).mpr d), if_neg d]
        have es : (k + (-1)).toInt = k.toInt - 1 := by rw [i32_add (by rw [em]; omega) (by rw [em]; omega), em]; omega
        exact ih m _ ⟨by omega, by omega⟩ (by omega) (by omega)
theorem q_most (h : Rel S M) : s_P_most S a b = s_M_most M a b := by
  rw [s_P_most, s_M_most]
  by_cases c : OW a b
  · rw [if_neg (fun q => out_i.mp q c.1), if_neg (fun q => out_i.mp q c.2), if_neg (fun q => set_i.mp q c), s_T_mostPlanets]
    exact mst_b c 10 9 8 ⟨by decide, by decide⟩ (by decide) (by decide)
  · rw [if_pos (set_i.mpr c)]
    by_cases d : s_P_isOutward a = 0
    · rw [if_pos d]
    · rw [if_neg d, if_pos (out_i.mpr (fun q => c ⟨Classical.not_not.mp (fun q' => d (out_i.mpr q')), q⟩))]
theorem wt_0 : s_T_weight a b 0 = a := by rw [s_T_weight, if_pos rfl]
theorem wt_1 : s_T_weight a b 1 = a + (a + (2 : Int32) * b) := by rw [s_T_weight, if_neg (by decide), if_pos rfl, s_T_ring]
theorem wt_2 : s_T_weight a b 2 = a + (2 : Int32) * b := by rw [s_T_weight, if_neg (by decide), if_neg (by decide), if_pos rfl, s_T_ring]
theorem wt_v (h : OW a b) : (a + (2 : Int32) * b).toInt = a.toInt + 2 * b.toInt ∧ (a + (a + (2 : Int32) * b)).toInt = a.toInt + (a.toInt + 2 * b.toInt) := by
  obtain ⟨h1, h2⟩ := h
  have e1 := mul2 (t := b) (by omega) (by omega)
  have e4 : (a + (2 : Int32) * b).toInt = a.toInt + 2 * b.toInt := by rw [i32_add (by omega) (by omega), e1]
  exact ⟨e4, by rw [i32_add (by omega) (by omega), e4]⟩
theorem neg1 {t : Int32} (h1 : -1000000 ≤ t.toInt) (h2 : t.toInt ≤ 1000000) : (-1 : Int32) * t = -t := by
  have em : (-1 : Int32).toInt = -1 := by decide
  exact eq32.mpr (by rw [i32_mul (by rw [em]; omega) (by rw [em]; omega), em, i32_neg (by omega)]; omega)
theorem one1 {t : Int32} (h1 : -1000000 ≤ t.toInt) (h2 : t.toInt ≤ 1000000) : (1 : Int32) * t = t := by
  have em : (1 : Int32).toInt = 1 := by decide
  exact eq32.mpr (by rw [i32_mul (by rw [em]; omega) (by rw [em]; omega), em]; omega)
theorem rp_01 (h : OW a b) : s_T_ratioPart a b 0 1 x = s_P_partOf ((-(a + (2 : Int32) * b))).toInt64 (a).toInt64 x := by
  have hv := wt_v h
  obtain ⟨h1, h2⟩ := h
  rw [s_T_ratioPart, if_pos rfl, s_T_ratioPart_b10, show (3 : Int32) - 0 - 1 = 2 by decide, wt_0, wt_2, if_neg (show ¬ a ≤ 0 by rw [le32, z32]; omega), neg1 (by omega) (by omega)]
theorem rp_02 (h : OW a b) : s_T_ratioPart a b 0 2 x = s_P_partOf ((a + (a + (2 : Int32) * b))).toInt64 (a).toInt64 x := by
  have hv := wt_v h
  obtain ⟨h1, h2⟩ := h
  rw [s_T_ratioPart, if_neg (by decide), s_T_ratioPart_b10, show (3 : Int32) - 0 - 2 = 1 by decide, wt_0, wt_1, if_neg (show ¬ a ≤ 0 by rw [le32, z32]; omega), one1 (by omega) (by omega)]
theorem rp_10 (h : OW a b) : s_T_ratioPart a b 1 0 x = s_P_partOf ((a + (2 : Int32) * b)).toInt64 ((a + (a + (2 : Int32) * b))).toInt64 x := by
  have hv := wt_v h
  obtain ⟨h1, h2⟩ := h
  rw [s_T_ratioPart, if_neg (by decide), s_T_ratioPart_b10, show (3 : Int32) - 1 - 0 = 2 by decide, wt_1, wt_2, if_neg (show ¬ (a + (a + (2 : Int32) * b)) ≤ 0 by rw [le32, z32]; omega), one1 (by omega) (by omega)]
theorem rp_12 (h : OW a b) : s_T_ratioPart a b 1 2 x = s_P_partOf (a).toInt64 ((a + (a + (2 : Int32) * b))).toInt64 x := by
  have hv := wt_v h
  obtain ⟨h1, h2⟩ := h
  rw [s_T_ratioPart, if_neg (by decide), s_T_ratioPart_b10, show (3 : Int32) - 1 - 2 = 0 by decide, wt_1, wt_0, if_neg (show ¬ (a + (a + (2 : Int32) * b)) ≤ 0 by rw [le32, z32]; omega), one1 (by omega) (by omega)]
theorem rp_20 (h : OW a b) : s_T_ratioPart a b 2 0 x = s_P_partOf ((a + (a + (2 : Int32) * b))).toInt64 ((a + (2 : Int32) * b)).toInt64 x := by
  have hv := wt_v h
  obtain ⟨h1, h2⟩ := h
  rw [s_T_ratioPart, if_neg (by decide), s_T_ratioPart_b10, show (3 : Int32) - 2 - 0 = 1 by decide, wt_2, wt_1, if_neg (show ¬ (a + (2 : Int32) * b) ≤ 0 by rw [le32, z32]; omega), one1 (by omega) (by omega)]
theorem rp_21 (h : OW a b) : s_T_ratioPart a b 2 1 x = s_P_partOf ((-a)).toInt64 ((a + (2 : Int32) * b)).toInt64 x := by
  have hv := wt_v h
  obtain ⟨h1, h2⟩ := h
  rw [s_T_ratioPart, if_pos rfl, s_T_ratioPart_b10, show (3 : Int32) - 2 - 1 = 0 by decide, wt_2, wt_0, if_neg (show ¬ (a + (2 : Int32) * b) ≤ 0 by rw [le32, z32]; omega), neg1 (by omega) (by omega)]
theorem i3_of {t : Int32} (h : 0 ≤ t.toInt ∧ t.toInt ≤ 2) : t = 0 ∨ t = 1 ∨ t = 2 := by
  have e1 : (1 : Int32).toInt = 1 := by decide
  have e2 : (2 : Int32).toInt = 2 := by decide
  simp only [eq32, z32, e1, e2]; omega
theorem in02 (t : Int32) : s_M_in t.toInt64 (0 : Int64) (2 : Int64) = 0 ↔ ¬ (0 ≤ t.toInt ∧ t.toInt ≤ 2) := by
  have e2 : (2 : Int64).toInt = 2 := by decide
  rw [in_i, i64_of, z64, e2]
/-- the class's three tests in one -/
theorem pl_c {d e : Int32} : s_P_planets S a b d e x = if (OW a b ∧ (0 ≤ d.toInt ∧ d.toInt ≤ 2) ∧ (0 ≤ e.toInt ∧ e.toInt ≤ 2) ∧ ¬ d = e) ∧ ¬ s_P_isPart x = 0 then s_T_ratioPart a b d e x else (-9223372036854775808 : Int64) := by
  have e2 : (2 : Int32).toInt = 2 := by decide
  have e52 : ∀ u v : Int32, (u = 0 ∨ u = 1) → (v = 0 ∨ v = 1) → s_P_planets_b52 S a b d e x u v = if (u = 1 ∧ v = 1) ∧ ¬ s_P_isPart x = 0 then s_T_ratioPart a b d e x else (-9223372036854775808 : Int64) := by
    intro u v hu hv
    rw [s_P_planets_b52]
    rcases hu with rfl | rfl
    · rw [if_pos rfl, if_neg (fun q => absurd q.1.1 (by decide))]
    · rw [if_neg (by decide)]
      rcases hv with rfl | rfl
      · rw [if_pos rfl, if_neg (fun q => absurd q.1.2 (by decide))]
      · rw [if_neg (by decide)]
        by_cases c : s_P_isPart x = 0
        · rw [if_pos c, if_neg (fun q => q.2 c)]
        · rw [if_neg c, if_pos ⟨⟨rfl, rfl⟩, c⟩]
  have e19 : ∀ u : Int32, (u = 0 ∨ u = 1) → s_P_planets_b19 S a b d e x u = if (u = 1 ∧ (0 ≤ d.toInt ∧ d.toInt ≤ 2) ∧ (0 ≤ e.toInt ∧ e.toInt ≤ 2) ∧ ¬ d = e) ∧ ¬ s_P_isPart x = 0 then s_T_ratioPart a b d e x else (-9223372036854775808 : Int64) := by
    intro u hu
    rw [s_P_planets_b19, s_P_planets_b51, e52 u 0 hu (Or.inl rfl), e52 u 1 hu (Or.inr rfl), if_neg (fun q : (u = 1 ∧ (0 : Int32) = 1) ∧ ¬ s_P_isPart x = 0 => absurd q.1.2 (by decide))]
    by_cases c1 : d < 0
    · rw [if_pos c1, if_neg (fun q => by rw [lt32, z32] at c1; have := q.1.2.1.1; omega)]
    · rw [if_neg c1]
      by_cases c2 : (2 : Int32) < d
      · rw [if_pos c2, if_neg (fun q => by rw [lt32, e2] at c2; have := q.1.2.1.2; omega)]
      · rw [if_neg c2]
        by_cases c3 : e < 0
        · rw [if_pos c3, if_neg (fun q => by rw [lt32, z32] at c3; have := q.1.2.2.1.1; omega)]
        · rw [if_neg c3]
          by_cases c4 : (2 : Int32) < e
          · rw [if_pos c4, if_neg (fun q => by rw [lt32, e2] at c4; have := q.1.2.2.1.2; omega)]
          · rw [if_neg c4]
            by_cases c5 : d = e
            · rw [if_pos c5, if_neg (fun q => q.1.2.2.2 c5)]
            · rw [if_neg c5]
              rw [lt32, z32] at c1 c3
              rw [lt32, e2] at c2 c4
              by_cases c6 : u = 1 ∧ ¬ s_P_isPart x = 0
              · rw [if_pos ⟨⟨c6.1, rfl⟩, c6.2⟩, if_pos ⟨⟨c6.1, ⟨by omega, by omega⟩, ⟨by omega, by omega⟩, c5⟩, c6.2⟩]
              · rw [if_neg (fun q => c6 ⟨q.1.1, q.2⟩), if_neg (fun q => c6 ⟨q.1.1, q.2⟩)]
  rw [s_P_planets, s_P_planets_b18, e19 0 (Or.inl rfl), e19 1 (Or.inr rfl), if_neg (fun q : ((0 : Int32) = 1 ∧ (0 ≤ d.toInt ∧ d.toInt ≤ 2) ∧ (0 ≤ e.toInt ∧ e.toInt ≤ 2) ∧ ¬ d = e) ∧ ¬ s_P_isPart x = 0 => absurd q.1.1 (by decide))]
  by_cases c : OW a b
  · rw [if_neg (fun q => out_i.mp q c.1), if_neg (fun q => out_i.mp q c.2)]
    by_cases c6 : ((0 ≤ d.toInt ∧ d.toInt ≤ 2) ∧ (0 ≤ e.toInt ∧ e.toInt ≤ 2) ∧ ¬ d = e) ∧ ¬ s_P_isPart x = 0
    · rw [if_pos ⟨⟨rfl, c6.1⟩, c6.2⟩, if_pos ⟨⟨c, c6.1⟩, c6.2⟩]
    · rw [if_neg (fun q => c6 ⟨q.1.2, q.2⟩), if_neg (fun q => c6 ⟨q.1.2, q.2⟩)]
  · by_cases d1 : s_P_isOutward a = 0
    · rw [if_pos d1, if_neg (fun q => c q.1.1)]
    · rw [if_neg d1, if_pos (out_i.mpr (fun q => c ⟨Classical.not_not.mp (fun q' => d1 (out_i.mpr q')), q⟩)), if_neg (fun q => c q.1.1)]
theorem q_planets {d e : Int32} (h : Rel S M) : s_P_planets S a b d e x = (s_M_planets M a b d e x).1 ∧ Rel S (s_M_planets M a b d e x).2 := by
  rw [pl_c]
  by_cases c : (OW a b ∧ (0 ≤ d.toInt ∧ d.toInt ≤ 2) ∧ (0 ≤ e.toInt ∧ e.toInt ≤ 2) ∧ ¬ d = e) ∧ ¬ s_P_isPart x = 0
  · rw [if_pos c]
    obtain ⟨⟨c1, c2, c3, c4⟩, c5⟩ := c
    have go : ∀ (Z : Int64 × St) (X Y : Int64), 0 < Y.toInt → -9223372036854775807 ≤ X.toInt → Z = (s_M_part (s_M_lays M X Y) x, s_M_lays M X Y) → s_P_partOf X Y x = Z.1 ∧ Rel S Z.2 := by
      intro Z X Y y1 x1 hz
      subst hz
      exact ⟨part_eq y1 x1, Rel_lays h⟩
    have hv := wt_v c1
    have hh := c1
    obtain ⟨o1, o2⟩ := hh
    have n1 : ¬ s_M_areSet a b = 0 := fun q => set_i.mp q c1
    have n2 := fun q => (in02 d).mp q c2
    have n3 := fun q => (in02 e).mp q c3
    have n4 := fun q => c5 (isPt.mpr q)
    rcases i3_of c2 with rfl | rfl | rfl <;> rcases i3_of c3 with rfl | rfl | rfl
    · exact absurd rfl c4
    · rw [rp_01 c1]
      refine go _ _ _ (by rw [i64_of]; omega) (i2l_lo _) ?_
      rw [s_M_planets, if_neg n1, if_neg n2, if_neg n3, if_neg c4, if_neg n4]
      simp (decide := true) only [if_true, if_false, s_M_planets_b186, ↓reduceIte]
    · rw [rp_02 c1]
      refine go _ _ _ (by rw [i64_of]; omega) (i2l_lo _) ?_
      rw [s_M_planets, if_neg n1, if_neg n2, if_neg n3, if_neg c4, if_neg n4]
      simp (decide := true) only [if_true, if_false, s_M_planets_b186, ↓reduceIte]
    · rw [rp_10 c1]
      refine go _ _ _ (by rw [i64_of]; omega) (i2l_lo _) ?_
      rw [s_M_planets, if_neg n1, if_neg n2, if_neg n3, if_neg c4, if_neg n4]
      simp (decide := true) only [if_true, if_false, s_M_planets_b186, ↓reduceIte]
    · exact absurd rfl c4
    · rw [rp_12 c1]
      refine go _ _ _ (by rw [i64_of]; omega) (i2l_lo _) ?_
      rw [s_M_planets, if_neg n1, if_neg n2, if_neg n3, if_neg c4, if_neg n4]
      simp (decide := true) only [if_true, if_false, s_M_planets_b186, ↓reduceIte]
    · rw [rp_20 c1]
      refine go _ _ _ (by rw [i64_of]; omega) (i2l_lo _) ?_
      rw [s_M_planets, if_neg n1, if_neg n2, if_neg n3, if_neg c4, if_neg n4]
      simp (decide := true) only [if_true, if_false, s_M_planets_b186, ↓reduceIte]
    · rw [rp_21 c1]
      refine go _ _ _ (by rw [i64_of]; omega) (i2l_lo _) ?_
      rw [s_M_planets, if_neg n1, if_neg n2, if_neg n3, if_neg c4, if_neg n4]
      simp (decide := true) only [if_true, if_false, s_M_planets_b186, ↓reduceIte]
    · exact absurd rfl c4
  · rw [if_neg c]
    have hz : s_M_planets M a b d e x = ((-9223372036854775808 : Int64), M) := by
      rw [s_M_planets]
      by_cases c1 : OW a b
      · rw [if_neg (fun q => set_i.mp q c1)]
        by_cases c2 : 0 ≤ d.toInt ∧ d.toInt ≤ 2
        · rw [if_neg (fun q => (in02 d).mp q c2)]
          by_cases c3 : 0 ≤ e.toInt ∧ e.toInt ≤ 2
          · rw [if_neg (fun q => (in02 e).mp q c3)]
            by_cases c4 : d = e
            · rw [if_pos c4]
            · rw [if_neg c4, if_pos (isPt.mp (Classical.not_not.mp (fun q => c ⟨⟨c1, c2, c3, c4⟩, q⟩)))]
          · rw [if_pos ((in02 e).mpr c3)]
        · rw [if_pos ((in02 d).mpr c2)]
      · rw [if_pos (set_i.mpr c1)]
    rw [hz]
    exact ⟨rfl, h⟩
end st
