/-! sets: together, most, planets (begins with plain facts out of whole's parts: wip/p32/pick.py, sets.lean.txt) -/
section st
variable {S : St} {a b k x : Int32}
theorem out_i : s_P_isOutward a = 0 ↔ ¬ (5 ≤ a.toInt ∧ a.toInt ≤ 99) := by
  have e1 : (5 : Int32).toInt = 5 := by decide
  have e2 : (99 : Int32).toInt = 99 := by decide
  rw [s_P_isOutward]
  simp only [lt32, e1, e2]
  repeat' split
  all_goals first | exact iff_of_true rfl (by omega) | exact iff_of_false (by decide) (by omega)
abbrev OW (a b : Int32) : Prop := (5 ≤ a.toInt ∧ a.toInt ≤ 99) ∧ 5 ≤ b.toInt ∧ b.toInt ≤ 99
theorem k18_8 (h : k18 k) : k = 1 ∨ k = 2 ∨ k = 3 ∨ k = 4 ∨ k = 5 ∨ k = 6 ∨ k = 7 ∨ k = 8 := by
  have e1 : (1 : Int32).toInt = 1 := by decide
  have e2 : (2 : Int32).toInt = 2 := by decide
  have e3 : (3 : Int32).toInt = 3 := by decide
  have e4 : (4 : Int32).toInt = 4 := by decide
  have e5 : (5 : Int32).toInt = 5 := by decide
  have e6 : (6 : Int32).toInt = 6 := by decide
  have e7 : (7 : Int32).toInt = 7 := by decide
  have e8 : (8 : Int32).toInt = 8 := by decide
  obtain ⟨h1, h2⟩ := h
  simp only [eq32, e1, e2, e3, e4, e5, e6, e7, e8]
  omega
theorem mul2 {t : Int32} (h1 : -1000000 ≤ t.toInt) (h2 : t.toInt ≤ 1000000) : ((2 : Int32) * t).toInt = 2 * t.toInt := by
  have c : (2 : Int32).toInt = 2 := by decide
  rw [i32_mul (by rw [c]; omega) (by rw [c]; omega), c]
theorem sum_eq (h : OW a b) : a + s_T_ring a b = (2 : Int32) * (a + b) := by
  obtain ⟨h1, h2⟩ := h
  have e1 := mul2 (t := b) (by omega) (by omega)
  have e2 : (a + b).toInt = a.toInt + b.toInt := i32_add (by omega) (by omega)
  have e3 := mul2 (t := a + b) (by omega) (by omega)
  have e4 : (a + (2 : Int32) * b).toInt = a.toInt + 2 * b.toInt := by rw [i32_add (by omega) (by omega), e1]
  exact eq32.mpr (by rw [s_T_ring, i32_add (by omega) (by omega), e4, e3, e2]; omega)
theorem wt_0 : s_T_weight a b 0 = a := by rw [s_T_weight, if_pos rfl]
theorem wt_1 : s_T_weight a b 1 = a + (a + (2 : Int32) * b) := by rw [s_T_weight, if_neg (by decide), if_pos rfl, s_T_ring]
theorem wt_2 : s_T_weight a b 2 = a + (2 : Int32) * b := by rw [s_T_weight, if_neg (by decide), if_neg (by decide), if_pos rfl, s_T_ring]
theorem wt_v (h : OW a b) : (a + (2 : Int32) * b).toInt = a.toInt + 2 * b.toInt ∧ (a + (a + (2 : Int32) * b)).toInt = a.toInt + (a.toInt + 2 * b.toInt) := by
  obtain ⟨h1, h2⟩ := h
  have e1 := mul2 (t := b) (by omega) (by omega)
  have e4 : (a + (2 : Int32) * b).toInt = a.toInt + 2 * b.toInt := by rw [i32_add (by omega) (by omega), e1]
  exact ⟨e4, by rw [i32_add (by omega) (by omega), e4]⟩
theorem neg1 {t : Int32} (h1 : -1000000 ≤ t.toInt) (h2 : t.toInt ≤ 1000000) : (-1 : Int32) * t = -t := by
  have em : (-1 : Int32).toInt = -1 := by decide
  exact eq32.mpr (by rw [i32_mul (by rw [em]; omega) (by rw [em]; omega), em, i32_neg (by omega)]; omega)
theorem one1 {t : Int32} (h1 : -1000000 ≤ t.toInt) (h2 : t.toInt ≤ 1000000) : (1 : Int32) * t = t := by
  have em : (1 : Int32).toInt = 1 := by decide
  exact eq32.mpr (by rw [i32_mul (by rw [em]; omega) (by rw [em]; omega), em]; omega)
theorem rp_01 (h : OW a b) : s_T_ratioPart a b 0 1 x = s_P_partOf ((-(a + (2 : Int32) * b))).toInt64 (a).toInt64 x := by
  have hv := wt_v h
  obtain ⟨h1, h2⟩ := h
  rw [s_T_ratioPart, if_pos rfl, s_T_ratioPart_b10, show (3 : Int32) - 0 - 1 = 2 by decide, wt_0, wt_2, if_neg (show ¬ a ≤ 0 by rw [le32, z32]; omega), neg1 (by omega) (by omega)]
theorem rp_02 (h : OW a b) : s_T_ratioPart a b 0 2 x = s_P_partOf ((a + (a + (2 : Int32) * b))).toInt64 (a).toInt64 x := by
  have hv := wt_v h
  obtain ⟨h1, h2⟩ := h
  rw [s_T_ratioPart, if_neg (by decide), s_T_ratioPart_b10, show (3 : Int32) - 0 - 2 = 1 by decide, wt_0, wt_1, if_neg (show ¬ a ≤ 0 by rw [le32, z32]; omega), one1 (by omega) (by omega)]
theorem rp_10 (h : OW a b) : s_T_ratioPart a b 1 0 x = s_P_partOf ((a + (2 : Int32) * b)).toInt64 ((a + (a + (2 : Int32) * b))).toInt64 x := by
  have hv := wt_v h
  obtain ⟨h1, h2⟩ := h
  rw [s_T_ratioPart, if_neg (by decide), s_T_ratioPart_b10, show (3 : Int32) - 1 - 0 = 2 by decide, wt_1, wt_2, if_neg (show ¬ (a + (a + (2 : Int32) * b)) ≤ 0 by rw [le32, z32]; omega), one1 (by omega) (by omega)]
theorem rp_12 (h : OW a b) : s_T_ratioPart a b 1 2 x = s_P_partOf (a).toInt64 ((a + (a + (2 : Int32) * b))).toInt64 x := by
  have hv := wt_v h
  obtain ⟨h1, h2⟩ := h
  rw [s_T_ratioPart, if_neg (by decide), s_T_ratioPart_b10, show (3 : Int32) - 1 - 2 = 0 by decide, wt_1, wt_0, if_neg (show ¬ (a + (a + (2 : Int32) * b)) ≤ 0 by rw [le32, z32]; omega), one1 (by omega) (by omega)]
theorem rp_20 (h : OW a b) : s_T_ratioPart a b 2 0 x = s_P_partOf ((a + (a + (2 : Int32) * b))).toInt64 ((a + (2 : Int32) * b)).toInt64 x := by
  have hv := wt_v h
  obtain ⟨h1, h2⟩ := h
  rw [s_T_ratioPart, if_neg (by decide), s_T_ratioPart_b10, show (3 : Int32) - 2 - 0 = 1 by decide, wt_2, wt_1, if_neg (show ¬ (a + (2 : Int32) * b) ≤ 0 by rw [le32, z32]; omega), one1 (by omega) (by omega)]
theorem rp_21 (h : OW a b) : s_T_ratioPart a b 2 1 x = s_P_partOf ((-a)).toInt64 ((a + (2 : Int32) * b)).toInt64 x := by
  have hv := wt_v h
  obtain ⟨h1, h2⟩ := h
  rw [s_T_ratioPart, if_pos rfl, s_T_ratioPart_b10, show (3 : Int32) - 2 - 1 = 0 by decide, wt_2, wt_0, if_neg (show ¬ (a + (2 : Int32) * b) ≤ 0 by rw [le32, z32]; omega), neg1 (by omega) (by omega)]
theorem i3_of {t : Int32} (h : 0 ≤ t.toInt ∧ t.toInt ≤ 2) : t = 0 ∨ t = 1 ∨ t = 2 := by
  have e1 : (1 : Int32).toInt = 1 := by decide
  have e2 : (2 : Int32).toInt = 2 := by decide
  simp only [eq32, z32, e1, e2]; omega
theorem pl_c {d e : Int32} : s_P_planets S a b d e x = if (OW a b ∧ (0 ≤ d.toInt ∧ d.toInt ≤ 2) ∧ (0 ≤ e.toInt ∧ e.toInt ≤ 2) ∧ ¬ d = e) ∧ ¬ s_P_isPart x = 0 then s_T_ratioPart a b d e x else (-9223372036854775808 : Int64) := by
  have e2 : (2 : Int32).toInt = 2 := by decide
  have e52 : ∀ u v : Int32, (u = 0 ∨ u = 1) → (v = 0 ∨ v = 1) → s_P_planets_b52 S a b d e x u v = if (u = 1 ∧ v = 1) ∧ ¬ s_P_isPart x = 0 then s_T_ratioPart a b d e x else (-9223372036854775808 : Int64) := by
    intro u v hu hv
    rw [s_P_planets_b52]
    rcases hu with rfl | rfl
    · rw [if_pos rfl, if_neg (fun q => absurd q.1.1 (by decide))]
    · rw [if_neg (by decide)]
      rcases hv with rfl | rfl
      · rw [if_pos rfl, if_neg (fun q => absurd q.1.2 (by decide))]
      · rw [if_neg (by decide)]
        by_cases c : s_P_isPart x = 0
        · rw [if_pos c, if_neg (fun q => q.2 c)]
        · rw [if_neg c, if_pos ⟨⟨rfl, rfl⟩, c⟩]
  have e19 : ∀ u : Int32, (u = 0 ∨ u = 1) → s_P_planets_b19 S a b d e x u = if (u = 1 ∧ (0 ≤ d.toInt ∧ d.toInt ≤ 2) ∧ (0 ≤ e.toInt ∧ e.toInt ≤ 2) ∧ ¬ d = e) ∧ ¬ s_P_isPart x = 0 then s_T_ratioPart a b d e x else (-9223372036854775808 : Int64) := by
    intro u hu
    rw [s_P_planets_b19, s_P_planets_b51, e52 u 0 hu (Or.inl rfl), e52 u 1 hu (Or.inr rfl), if_neg (fun q : (u = 1 ∧ (0 : Int32) = 1) ∧ ¬ s_P_isPart x = 0 => absurd q.1.2 (by decide))]
    by_cases c1 : d < 0
    · rw [if_pos c1, if_neg (fun q => by rw [lt32, z32] at c1; have := q.1.2.1.1; omega)]
    · rw [if_neg c1]
      by_cases c2 : (2 : Int32) < d
      · rw [if_pos c2, if_neg (fun q => by rw [lt32, e2] at c2; have := q.1.2.1.2; omega)]
      · rw [if_neg c2]
        by_cases c3 : e < 0
        · rw [if_pos c3, if_neg (fun q => by rw [lt32, z32] at c3; have := q.1.2.2.1.1; omega)]
        · rw [if_neg c3]
          by_cases c4 : (2 : Int32) < e
          · rw [if_pos c4, if_neg (fun q => by rw [lt32, e2] at c4; have := q.1.2.2.1.2; omega)]
          · rw [if_neg c4]
            by_cases c5 : d = e
            · rw [if_pos c5, if_neg (fun q => q.1.2.2.2 c5)]
            · rw [if_neg c5]
              rw [lt32, z32] at c1 c3
              rw [lt32, e2] at c2 c4
              by_cases c6 : u = 1 ∧ ¬ s_P_isPart x = 0
              · rw [if_pos ⟨⟨c6.1, rfl⟩, c6.2⟩, if_pos ⟨⟨c6.1, ⟨by omega, by omega⟩, ⟨by omega, by omega⟩, c5⟩, c6.2⟩]
              · rw [if_neg (fun q => c6 ⟨q.1.1, q.2⟩), if_neg (fun q => c6 ⟨q.1.1, q.2⟩)]
  rw [s_P_planets, s_P_planets_b18, e19 0 (Or.inl rfl), e19 1 (Or.inr rfl), if_neg (fun q : ((0 : Int32) = 1 ∧ (0 ≤ d.toInt ∧ d.toInt ≤ 2) ∧ (0 ≤ e.toInt ∧ e.toInt ≤ 2) ∧ ¬ d = e) ∧ ¬ s_P_isPart x = 0 => absurd q.1.1 (by decide))]
  by_cases c : OW a b
  · rw [if_neg (fun q => out_i.mp q c.1), if_neg (fun q => out_i.mp q c.2)]
    by_cases c6 : ((0 ≤ d.toInt ∧ d.toInt ≤ 2) ∧ (0 ≤ e.toInt ∧ e.toInt ≤ 2) ∧ ¬ d = e) ∧ ¬ s_P_isPart x = 0
    · rw [if_pos ⟨⟨rfl, c6.1⟩, c6.2⟩, if_pos ⟨⟨c, c6.1⟩, c6.2⟩]
    · rw [if_neg (fun q => c6 ⟨q.1.2, q.2⟩), if_neg (fun q => c6 ⟨q.1.2, q.2⟩)]
  · by_cases d1 : s_P_isOutward a = 0
    · rw [if_pos d1, if_neg (fun q => c q.1.1)]
    · rw [if_neg d1, if_pos (out_i.mpr (fun q => c ⟨Classical.not_not.mp (fun q' => d1 (out_i.mpr q')), q⟩)), if_neg (fun q => c q.1.1)]
theorem tog_v (h : OW a b) (hk : k18 k) : s_P_together S a b k = (if s_T_divides a b k = 0 then (if s_T_touch a b k = 0 then (-1 : Int32) else (-3 : Int32)) else (if s_T_touch a b k = 0 then (1 : Int32) else (-2 : Int32))) := by
  have e1 : (1 : Int32).toInt = 1 := by decide
  have e8 : (8 : Int32).toInt = 8 := by decide
  have k1 := hk.1
  have k2 := hk.2
  rw [s_P_together, if_neg (fun q => out_i.mp q h.1), if_neg (fun q => out_i.mp q h.2), if_neg (by rw [lt32, e1]; omega), if_pos (by rw [le32, e8]; omega)]
theorem can_v : s_T_canBe a b k = 0 ↔ ¬ (¬ s_T_divides a b k = 0 ∧ s_T_touch a b k = 0) := by
  rw [s_T_canBe]
  by_cases d : s_T_divides a b k = 0
  · rw [if_pos d]; exact iff_of_true rfl (fun q => q.1 d)
  · rw [if_neg d]
    by_cases t : s_T_touch a b k = 0
    · rw [if_pos t]; exact iff_of_false (by decide) (fun q => q ⟨d, t⟩)
    · rw [if_neg t]; exact iff_of_true rfl (fun q => t q.2)
/-- the four answers of together, told by what divides and what touches -/
theorem tog_4 (h : OW a b) (hk : k18 k) : (s_P_together S a b k = 1 ∧ ¬ s_T_canBe a b k = 0 ∧ ¬ s_T_divides a b k = 0) ∨ (s_P_together S a b k = -1 ∧ s_T_canBe a b k = 0 ∧ s_T_divides a b k = 0) ∨ (s_P_together S a b k = -2 ∧ s_T_canBe a b k = 0 ∧ ¬ s_T_divides a b k = 0) ∨ (s_P_together S a b k = -3 ∧ s_T_canBe a b k = 0 ∧ s_T_divides a b k = 0) := by
  rw [tog_v h hk]
  by_cases d : s_T_divides a b k = 0
  · rw [if_pos d]
    by_cases t : s_T_touch a b k = 0
    · rw [if_pos t]; exact Or.inr (Or.inl ⟨rfl, can_v.mpr (fun q => q.1 d), d⟩)
    · rw [if_neg t]; exact Or.inr (Or.inr (Or.inr ⟨rfl, can_v.mpr (fun q => q.1 d), d⟩))
  · rw [if_neg d]
    by_cases t : s_T_touch a b k = 0
    · rw [if_pos t]; exact Or.inl ⟨rfl, fun q => can_v.mp q ⟨d, t⟩, d⟩
    · rw [if_neg t]; exact Or.inr (Or.inr (Or.inl ⟨rfl, can_v.mpr (fun q => t q.2), d⟩))
theorem div_v (h : OW a b) (hk : k18 k) : s_T_divides a b k = 0 ↔ ¬ ((2 : Int32) * (a + b)) - ((2 : Int32) * (a + b)) / k * k = 0 := by
  rw [s_T_divides, if_neg (k18_ne hk), sum_eq h]
  split
  · rename_i q; exact iff_of_false (by decide) (fun z => z q)
  · rename_i q; exact iff_of_true rfl q
theorem can_1 (h : OW a b) : ¬ s_T_canBe a b 1 = 0 := by
  refine fun q => can_v.mp q ⟨fun z => ?_, ?_⟩
  · refine (div_v h (by unfold k18; decide)).mp z ?_
    have e1 : (1 : Int32).toInt = 1 := by decide
    rw [eq32, i32_rem (by rw [e1]; decide), e1, z32, Int.tmod_one]
  · rw [s_T_touch, if_pos rfl]
theorem mst_b : ∀ (n : Nat) (k : Int32), 1 ≤ k.toInt → k.toInt ≤ 8 → k.toInt ≤ (n : Int) → 1 ≤ (s_T_mostPlanets_b3 n a b k).toInt ∧ (s_T_mostPlanets_b3 n a b k).toInt ≤ k.toInt ∧ (s_T_mostPlanets_b3 n a b k = 1 ∨ ¬ s_T_canBe a b (s_T_mostPlanets_b3 n a b k) = 0) ∧ ∀ j : Int32, (s_T_mostPlanets_b3 n a b k).toInt < j.toInt → j.toInt ≤ k.toInt → s_T_canBe a b j = 0 := by
  intro n
  have e1 : (1 : Int32).toInt = 1 := by decide
  have em : (-1 : Int32).toInt = -1 := by decide
  induction n with
  | zero => intro k h1 h8 h; omega
  | succ n ih =>
    intro k h1 h8 h
    rw [s_T_mostPlanets_b3]
    by_cases c : k ≤ 1
    · rw [if_pos c]
      rw [le32, e1] at c
      exact ⟨by decide, by rw [e1]; exact h1, Or.inl rfl, fun j j1 j2 => by rw [e1] at j1; omega⟩
    · rw [if_neg c]
      rw [le32, e1] at c
      by_cases d : s_T_canBe a b k = 0
      · rw [if_pos d]
        have es : (k + (-1)).toInt = k.toInt - 1 := by rw [i32_add (by rw [em]; omega) (by rw [em]; omega), em]; omega
        obtain ⟨i1, i2, i3, i4⟩ := ih (k + (-1)) (by omega) (by omega) (by omega)
        refine ⟨i1, by omega, i3, fun j j1 j2 => ?_⟩
        by_cases e : j.toInt = k.toInt
        · rw [eq32.mpr e]; exact d
        · exact i4 j j1 (by omega)
      · rw [if_neg d]
        exact ⟨h1, Int.le_refl _, Or.inr d, fun j j1 j2 => by omega⟩
theorem mst (h : OW a b) : ¬ s_T_canBe a b (s_P_most S a b) = 0 ∧ ∀ j : Int32, (s_P_most S a b).toInt < j.toInt → j.toInt ≤ 8 → s_T_canBe a b j = 0 := by
  have e8 : (8 : Int32).toInt = 8 := by decide
  have hm := mst_b (a := a) (b := b) 10 8 (by decide) (by decide) (by decide)
  rw [s_P_most, if_neg (fun q => out_i.mp q h.1), if_neg (fun q => out_i.mp q h.2), s_T_mostPlanets]
  refine ⟨?_, fun j j1 j2 => hm.2.2.2 j j1 (by rw [e8]; exact j2)⟩
  rcases hm.2.2.1 with e | e
  · rw [e]; exact can_1 h
  · exact e
/-- planets of a set, one held, as a fraction; and the other way about -/
theorem pla_eq (h : OW a b) {d e : Int32} (hd : 0 ≤ d.toInt ∧ d.toInt ≤ 2) (he : 0 ≤ e.toInt ∧ e.toInt ≤ 2) (hne : ¬ d = e) (hx : ¬ s_P_isPart x = 0) : s_P_planets S a b d e x = s_T_ratioPart a b d e x := by rw [pl_c, if_pos ⟨⟨h, hd, he, hne⟩, hx⟩]
theorem pq_two {N1 D1 N2 D2 : Int64} {Z D : Nat} {neg : Prop} (dn : Decidable neg) (hZ : 0 < Z) (hD : 0 < D) (h1 : N1.toInt = if neg then -(Z : Int) else (Z : Int)) (h2 : D1.toInt = (D : Int)) (h3 : N2.toInt = if neg then -(D : Int) else (D : Int)) (h4 : D2.toInt = (Z : Int)) (bz : Z < 1000) (bd : D < 1000) :
    ∃ p q : Nat, 0 < p ∧ 0 < q ∧ p < 1000 ∧ q < 1000 ∧ (s_P_partOf N1 D1 1).toInt = (q : Int) ∧ (s_P_partOf N2 D2 1).toInt = (p : Int) ∧ (s_P_partOf N1 D1 0).toInt = (if neg then -(p : Int) else (p : Int)) ∧ (s_P_partOf N2 D2 0).toInt = if neg then -(q : Int) else (q : Int) := by
  have s1 : N1.toInt = (Z : Int) ∨ N1.toInt = -(Z : Int) := by by_cases c : neg <;> simp only [c, if_true, if_false] at h1 <;> omega
  have s2 : N2.toInt = (D : Int) ∨ N2.toInt = -(D : Int) := by by_cases c : neg <;> simp only [c, if_true, if_false] at h3 <;> omega
  obtain ⟨p1, p2, p3, p4, p5⟩ := part_pq hZ hD h2 s1 (by omega)
  obtain ⟨r1, r2, r3, r4, r5⟩ := part_pq hD hZ h4 s2 (by omega)
  rw [Nat.gcd_comm D Z] at r1 r2 r3 r4 r5
  have k1 := Nat.div_le_self Z (Nat.gcd Z D)
  have k2 := Nat.div_le_self D (Nat.gcd Z D)
  refine ⟨Z / Nat.gcd Z D, D / Nat.gcd Z D, p4, p5, by omega, by omega, p1, r1, ?_, ?_⟩
  · by_cases c : neg
    · rw [if_pos c] at h1 ⊢; exact p3 h1
    · rw [if_neg c] at h1 ⊢; exact p2 h1
  · by_cases c : neg
    · rw [if_pos c] at h3 ⊢; exact r3 h3
    · rw [if_neg c] at h3 ⊢; exact r2 h3
theorem pla_g (h : OW a b) {d e : Int32} (hd : 0 ≤ d.toInt ∧ d.toInt ≤ 2) (he : 0 ≤ e.toInt ∧ e.toInt ≤ 2) (hne : ¬ d = e) : ∃ p q : Nat, 0 < p ∧ 0 < q ∧ p < 1000 ∧ q < 1000 ∧ (s_P_planets S a b d e 1).toInt = (q : Int) ∧ (s_P_planets S a b (3 - d - e) e 1).toInt = (p : Int) ∧ (s_P_planets S a b d e 0).toInt = (if e = 1 then -(p : Int) else (p : Int)) ∧ (s_P_planets S a b (3 - d - e) e 0).toInt = if e = 1 then -(q : Int) else (q : Int) := by
  have hv := wt_v h
  have hh := h
  obtain ⟨o1, o2⟩ := hh
  have n0 : (0 : Int32).toInt = 0 := by decide
  have hw1 : (a.toInt + 2 * b.toInt).toNat < 1000 := by omega
  have hw2 : (a.toInt + (a.toInt + 2 * b.toInt)).toNat < 1000 := by omega
  have en1 : (-(a + (2 : Int32) * b)).toInt = -(a.toInt + 2 * b.toInt) := by rw [i32_neg (by omega), hv.1]
  have en2 : (-a).toInt = -a.toInt := i32_neg (by omega)
  rcases i3_of hd with rfl | rfl | rfl <;> rcases i3_of he with rfl | rfl | rfl
  · exact absurd rfl hne
  · rw [show (3 : Int32) - 0 - 1 = 2 by decide, pla_eq h (by decide) (by decide) (by decide) isPt0, pla_eq h (by decide) (by decide) (by decide) isPt1, pla_eq h (by decide) (by decide) (by decide) isPt0, pla_eq h (by decide) (by decide) (by decide) isPt1, rp_01 h, rp_01 h, rp_21 h, rp_21 h]
    exact pq_two (Z := (a.toInt + 2 * b.toInt).toNat) (D := a.toInt.toNat) _ (by omega) (by omega) (by rw [if_pos rfl, i64_of, en1]; omega) (by rw [i64_of]; omega) (by rw [if_pos rfl, i64_of, en2]; omega) (by rw [i64_of, hv.1]; omega) (by omega) (by omega)
  · rw [show (3 : Int32) - 0 - 2 = 1 by decide, pla_eq h (by decide) (by decide) (by decide) isPt0, pla_eq h (by decide) (by decide) (by decide) isPt1, pla_eq h (by decide) (by decide) (by decide) isPt0, pla_eq h (by decide) (by decide) (by decide) isPt1, rp_02 h, rp_02 h, rp_12 h, rp_12 h]
    exact pq_two (Z := (a.toInt + (a.toInt + 2 * b.toInt)).toNat) (D := a.toInt.toNat) _ (by omega) (by omega) (by rw [if_neg (by decide), i64_of, hv.2]; omega) (by rw [i64_of]; omega) (by rw [if_neg (by decide), i64_of]; omega) (by rw [i64_of, hv.2]; omega) (by omega) (by omega)
  · rw [show (3 : Int32) - 1 - 0 = 2 by decide, pla_eq h (by decide) (by decide) (by decide) isPt0, pla_eq h (by decide) (by decide) (by decide) isPt1, pla_eq h (by decide) (by decide) (by decide) isPt0, pla_eq h (by decide) (by decide) (by decide) isPt1, rp_10 h, rp_10 h, rp_20 h, rp_20 h]
    exact pq_two (Z := (a.toInt + 2 * b.toInt).toNat) (D := (a.toInt + (a.toInt + 2 * b.toInt)).toNat) _ (by omega) (by omega) (by rw [if_neg (by decide), i64_of, hv.1]; omega) (by rw [i64_of, hv.2]; omega) (by rw [if_neg (by decide), i64_of, hv.2]; omega) (by rw [i64_of, hv.1]; omega) (by omega) (by omega)
  · exact absurd rfl hne
  · rw [show (3 : Int32) - 1 - 2 = 0 by decide, pla_eq h (by decide) (by decide) (by decide) isPt0, pla_eq h (by decide) (by decide) (by decide) isPt1, pla_eq h (by decide) (by decide) (by decide) isPt0, pla_eq h (by decide) (by decide) (by decide) isPt1, rp_12 h, rp_12 h, rp_02 h, rp_02 h]
    exact pq_two (Z := a.toInt.toNat) (D := (a.toInt + (a.toInt + 2 * b.toInt)).toNat) _ (by omega) (by omega) (by rw [if_neg (by decide), i64_of]; omega) (by rw [i64_of, hv.2]; omega) (by rw [if_neg (by decide), i64_of, hv.2]; omega) (by rw [i64_of]; omega) (by omega) (by omega)
  · rw [show (3 : Int32) - 2 - 0 = 1 by decide, pla_eq h (by decide) (by decide) (by decide) isPt0, pla_eq h (by decide) (by decide) (by decide) isPt1, pla_eq h (by decide) (by decide) (by decide) isPt0, pla_eq h (by decide) (by decide) (by decide) isPt1, rp_20 h, rp_20 h, rp_10 h, rp_10 h]
    exact pq_two (Z := (a.toInt + (a.toInt + 2 * b.toInt)).toNat) (D := (a.toInt + 2 * b.toInt).toNat) _ (by omega) (by omega) (by rw [if_neg (by decide), i64_of, hv.2]; omega) (by rw [i64_of, hv.1]; omega) (by rw [if_neg (by decide), i64_of, hv.1]; omega) (by rw [i64_of, hv.2]; omega) (by omega) (by omega)
  · rw [show (3 : Int32) - 2 - 1 = 0 by decide, pla_eq h (by decide) (by decide) (by decide) isPt0, pla_eq h (by decide) (by decide) (by decide) isPt1, pla_eq h (by decide) (by decide) (by decide) isPt0, pla_eq h (by decide) (by decide) (by decide) isPt1, rp_21 h, rp_21 h, rp_01 h, rp_01 h]
    exact pq_two (Z := a.toInt.toNat) (D := (a.toInt + 2 * b.toInt).toNat) _ (by omega) (by omega) (by rw [if_pos rfl, i64_of, en2]; omega) (by rw [i64_of, hv.1]; omega) (by rw [if_pos rfl, i64_of, en1]; omega) (by rw [i64_of]; omega) (by omega) (by omega)
  · exact absurd rfl hne
theorem pla_same {d : Int32} : s_P_planets S a b d d x = -9223372036854775808 := by rw [pl_c, if_neg (fun q => q.1.2.2.2 rfl)]
/-- sun to carrier, the ring held: the exact parts -/
theorem pla_02 (h : OW a b) : (s_P_planets S a b 0 2 0).toInt = ((2 * (a.toInt + b.toInt)).toNat / Nat.gcd (2 * (a.toInt + b.toInt)).toNat a.toInt.toNat : Nat) ∧ (s_P_planets S a b 0 2 1).toInt = (a.toInt.toNat / Nat.gcd (2 * (a.toInt + b.toInt)).toNat a.toInt.toNat : Nat) := by
  have hv := wt_v h
  have hh := h
  obtain ⟨o1, o2⟩ := hh
  rw [pla_eq h (by decide) (by decide) (by decide) isPt0, pla_eq h (by decide) (by decide) (by decide) isPt1, rp_02 h, rp_02 h]
  have e1 : (a + (a + (2 : Int32) * b)).toInt64.toInt = ((2 * (a.toInt + b.toInt)).toNat : Int) := by rw [i64_of, hv.2]; omega
  have e2 : a.toInt64.toInt = (a.toInt.toNat : Int) := by rw [i64_of]; omega
  obtain ⟨p1, p2, p3, p4, p5⟩ := part_pq (Z := (2 * (a.toInt + b.toInt)).toNat) (D := a.toInt.toNat) (by omega) (by omega) e2 (Or.inl e1) (by omega)
  exact ⟨p2 e1, p1⟩
end st

