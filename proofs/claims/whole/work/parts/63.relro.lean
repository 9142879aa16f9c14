/-! the calls that only read the bench -/
theorem add_0 (x : Int32) : x + (0 : Int32) = x := Int32.add_zero x
section ro
variable {S M : St} {w a b t v x : Int32}
theorem cut_eq (hB : BN S M) (hw : wl (M.2.1 0) w) : s_B_isUndercut S w = s_M_isUndercut M w := by
  obtain ⟨t, s, h1, h2, h3, h4, -⟩ := view hB hw
  rw [s_B_isUndercut, s_M_isUndercut, ring_eq hB hw, h1, h2, h3, h4]
  by_cases c : s_M_isRing M w = 0
  · rw [if_pos c, if_pos c]
    by_cases k : s_M_isCut M t s = 0
    · rw [if_pos k, if_neg (fun q => (keep_eq hB t s).mp q k)]
    · rw [if_neg k, if_pos ((keep_eq hB t s).mpr k)]
  · rw [if_neg c, if_neg c]
theorem pnt_eq (hB : BN S M) (hw : wl (M.2.1 0) w) : s_B_isPointed S w = s_M_isPointed M w := by
  obtain ⟨t, s, h1, h2, h3, h4, -⟩ := view hB hw
  rw [s_B_isPointed, s_M_isPointed, ring_eq hB hw, h1, h2, h3, h4]
theorem least_b (hB : BN S M) (hw : wl (M.2.1 0) w) : ∀ (n : Nat) (x : Int32), s_B_leastShift_b15 S n w x = s_M_leastShift_b15 M n w x := by
  obtain ⟨t, s, h1, h2, h3, h4, -⟩ := view hB hw
  intro n
  induction n with
  | zero => intro x; rfl
  | succ n ih =>
    intro x
    rw [s_B_leastShift_b15, s_M_leastShift_b15, s_M_leastShift_b40, h1, h3]
    by_cases c : (100 : Int32) < x
    · rw [if_pos c, if_pos c, if_neg (fun q => by rw [le32] at q; rw [lt32] at c; omega)]
    · rw [if_neg c, if_neg c]
      by_cases k : s_M_isCut M t x = 0
      · rw [if_neg (fun q => (keep_eq hB t x).mp q k), if_pos k, if_pos (by rw [lt32] at c; rw [le32]; omega)]
      · rw [if_pos ((keep_eq hB t x).mpr k), if_neg k]; exact ih _
theorem least_eq (hB : BN S M) (hw : wl (M.2.1 0) w) : s_B_leastShift S w = s_M_leastShift M w := by
  rw [s_B_leastShift, s_M_leastShift, ring_eq hB hw, least_b hB hw]
theorem pw_b (hB : BN S M) (w : Int32) : ∀ (n : Nat) (x y : Int32), 0 ≤ y.toInt → s_B_pairsWith_b4 S n w x y = s_M_pairsWith_b4 M n w x y := by
  have e2 := hB.2.1.2.2.1
  have bb := hB.1.2.2.1
  intro n
  induction n with
  | zero => intro x y _; rfl
  | succ n ih =>
    intro x y h0
    rw [s_B_pairsWith_b4, s_M_pairsWith_b4, s_N_size, e2, add_0]
    by_cases c : M.2.1 0 34 ≤ y
    · rw [if_pos c, if_pos c]
    · have c1 := c
      rw [le32] at c1
      obtain ⟨p1, p2, -⟩ := pr_at hB h0 c
      have h1 : 0 ≤ (y + 1).toInt := by rw [i32_suc (by omega)]; omega
      rw [if_neg c, if_neg c, p1, p2, ih _ _ h1, ih _ _ h1]
theorem pw_eq (hB : BN S M) (w : Int32) : s_B_pairsWith S w = s_M_pairsWith M w := by
  rw [s_B_pairsWith, s_M_pairsWith, hB.2.1.2.2.1]
  exact pw_b hB w _ _ _ (by decide)
theorem q_of (h : Rel S M) : s_P_of S w x = s_M_of M w x := by
  have hB := h.1
  rw [s_P_of, s_M_of, s_B_hasWheel, has_eq hB]
  by_cases c : s_M_isWheel M w = 0
  · rw [if_pos c, if_pos c]
  · have hw := isW hB.1 c
    obtain ⟨t, s, h1, h2, h3, h4, -⟩ := view hB hw
    rw [if_neg c, if_neg c, s_B_told, h1, h2, h3, h4, cut_eq hB hw, pnt_eq hB hw, least_eq hB hw, pw_eq hB]
theorem few_b (hB : BN S M) (s : Int32) : ∀ (n m : Nat) (x : Int32), 0 ≤ x.toInt → x.toInt ≤ 100 → 101 ≤ x.toInt + n → 101 ≤ x.toInt + m → s_B_fewestTeeth_b2 S n s x = s_M_fewest_b18 M m s x := by
  intro n
  induction n with
  | zero => intro m x _ _ _ _; omega
  | succ n ih =>
    intro m x h0 h1 h2 h3
    obtain ⟨m, rfl⟩ : ∃ m', m = m' + 1 := ⟨m - 1, by omega⟩
    have e99 : (99 : Int32).toInt = 99 := by decide
    have e100 : (100 : Int32).toInt = 100 := by decide
    rw [s_B_fewestTeeth_b2, s_M_fewest_b18, s_M_fewest_b39]
    by_cases c : x.toInt = 100
    · rw [if_pos (by rw [lt32, e99]; omega), if_pos (by rw [le32, e100]; omega), if_pos (by rw [eq32, e100]; exact c)]
    · rw [if_neg (show ¬ (99 : Int32) < x by rw [lt32, e99]; omega), if_neg (show ¬ (100 : Int32) ≤ x by rw [le32, e100]; omega)]
      by_cases k : s_M_isCut M x s = 0
      · rw [if_neg (fun q => (keep_eq hB x s).mp q k), if_pos k, if_neg (by rw [eq32, e100]; exact c)]
      · rw [if_pos ((keep_eq hB x s).mpr k), if_neg k]
        have es : (x + 1).toInt = x.toInt + 1 := i32_suc (by omega)
        exact ih m (x + 1) (by omega) (by omega) (by omega) (by omega)
theorem q_fewest (h : Rel S M) : s_P_fewest S w = s_M_fewest M w := by
  rw [s_P_fewest, s_M_fewest]
  by_cases c : TS w
  · rw [if_neg (fun q => sh_i.mp q c), if_neg (fun q => (TS_in w).mp q c)]
    exact few_b h.1 w 96 101 5 (by decide) (by decide) (by decide) (by decide)
  · rw [if_pos (sh_i.mpr c), if_pos ((TS_in w).mpr c)]
theorem fst_0 (w : Int32) : ∀ (n : Nat) (y : Int32), UP n w y → s_M_isFirst_b4 M n w 0 y = 0 := by
  intro n
  induction n with
  | zero => intro y h; exact absurd h UP_z
  | succ n ih =>
    intro y h
    rw [s_M_isFirst_b4]
    by_cases c : w ≤ y
    · rw [if_pos c]
    · rw [if_neg c, if_pos rfl]; exact ih _ (UP_up h c)
theorem fst_1 (hB : BN S M) (hw : wl (M.2.1 0) w) : ∀ (n : Nat) (y : Int32), UP n w y → s_B_isFirstOfItsTeeth_b2 S n w y = s_M_isFirst_b4 M n w 1 y := by
  obtain ⟨t, s, h1, h2, h3, h4, -⟩ := view hB hw
  intro n
  induction n with
  | zero => intro y h; exact absurd h UP_z
  | succ n ih =>
    intro y h
    rw [s_B_isFirstOfItsTeeth_b2, s_M_isFirst_b4]
    by_cases c : w ≤ y
    · rw [if_pos c, if_pos c]
    · have c1 := c
      rw [le32] at c1
      have hy : wl (M.2.1 0) y := ⟨h.2.2, by have := hw.2; omega⟩
      obtain ⟨ty, sy, k1, k2, k3, k4, -⟩ := view hB hy
      rw [if_neg c, if_neg c, if_neg (show ¬ (1 : Int32) = 0 by decide), h1, h3, k1, k3]
      by_cases e : ty = t
      · rw [if_pos e, if_pos e]; exact (fst_0 w n _ (UP_up h c)).symm
      · rw [if_neg e, if_neg e]; exact ih _ (UP_up h c)
theorem fst_eq (hB : BN S M) (hw : wl (M.2.1 0) w) : s_B_isFirstOfItsTeeth S w = s_M_isFirst M w := by
  rw [s_B_isFirstOfItsTeeth, s_M_isFirst]
  exact fst_1 hB hw _ _ (UP_in (by decide))
theorem whl_b (hB : BN S M) (w : Int32) : ∀ (n : Nat) (x y : Int32), 0 ≤ y.toInt → s_B_wheelsThatAre_b4 S n w x y = s_M_wheels_b18 M n w x y := by
  have e0 := hB.2.1.1
  have bb := hB.1.1
  intro n
  induction n with
  | zero => intro x y _; rfl
  | succ n ih =>
    intro x y h0
    rw [s_B_wheelsThatAre_b4, s_M_wheels_b18, s_N_size, e0]
    by_cases c : M.2.1 0 0 ≤ y
    · rw [if_pos c, if_pos c]
    · have c1 := c
      rw [le32] at c1
      have h1 : 0 ≤ (y + 1).toInt := by rw [i32_suc (by omega)]; omega
      have hy : wl (M.2.1 0) y := ⟨h0, by omega⟩
      rw [if_neg c, if_neg c, s_B_is, cut_eq hB hy, pnt_eq hB hy, ring_eq hB hy, fst_eq hB hy]
      simp only [s_M_wheels_b71, add_0, ← ih _ _ h1]
      by_cases d0 : w = 0
      · simp only [if_pos d0]
      · by_cases d1 : w = 1
        · simp only [if_neg d0, if_pos d1]
        · by_cases d2 : w = 2
          · simp only [if_neg d0, if_neg d1, if_pos d2]
          · simp only [if_neg d0, if_neg d1, if_neg d2]
theorem q_wheels (h : Rel S M) : s_P_wheels S w = s_M_wheels M w := by
  have e3 : (3 : Int64).toInt = 3 := by decide
  have e4 : (3 : Int32).toInt = 3 := by decide
  have ei : s_M_in w.toInt64 (0 : Int64) (3 : Int64) = 0 ↔ ¬ (0 ≤ w.toInt ∧ w.toInt ≤ 3) := by rw [in_i, i64_of, z64, e3]
  rw [s_P_wheels, s_M_wheels, s_B_wheelsThatAre, h.1.2.1.1, whl_b h.1 w _ _ _ (by decide)]
  by_cases c : 0 ≤ w.toInt ∧ w.toInt ≤ 3
  · rw [if_neg (by rw [lt32, z32]; omega), if_pos (by rw [le32, e4]; omega), if_neg (fun q => ei.mp q c)]
  · rw [if_pos (ei.mpr c)]
    by_cases d : w < 0
    · rw [if_pos d]
    · rw [if_neg d, if_neg (by rw [lt32, z32] at d; rw [le32, e4]; omega)]
theorem cnt_b (hB : BN S M) (hT : S.1 12 = M.1 4) (w : Int32) : ∀ (n : Nat) (x y : Int32), UP n (M.2.1 0 0) y → s_M_count_b4 M n w x y = (if w = 0 then M.2.1 0 0 else (if w = 1 then M.2.1 0 34 else (if w = 2 then M.1 4 else (if w = 3 then M.2.1 0 33 else (if w = 4 then s_B_outwardTeeth_b4 S n x y else (-1 : Int32)))))) := by
  have e0 := hB.2.1.1
  have bb := hB.1.1
  intro n
  induction n with
  | zero => intro x y h; exact absurd h UP_z
  | succ n ih =>
    intro x y h
    rw [s_M_count_b4, s_B_outwardTeeth_b4, s_N_size, e0]
    by_cases c : M.2.1 0 0 ≤ y
    · rw [if_pos c, if_pos c]
    · have c1 := c
      rw [le32] at c1
      have hy : wl (M.2.1 0) y := ⟨h.2.2, by omega⟩
      obtain ⟨ty, sy, k1, k2, k3, k4, k5, -⟩ := view hB hy
      unfold TV at k5
      rw [if_neg c, if_neg c, k1, k3, ih _ _ (UP_up h c), ih _ _ (UP_up h c)]
      by_cases d : s_M_isRing M y = 0
      · have d1 := ring_i.mp d
        rw [k3] at d1
        rw [if_pos d, if_pos (show (0 : Int32) < ty by rw [lt32, z32]; omega)]
      · have d1 : ¬ 0 ≤ ty.toInt := fun q => d (ring_i.mpr (by rw [k3]; exact q))
        rw [if_neg d, if_neg (show ¬ (0 : Int32) < ty by rw [lt32, z32]; omega)]
theorem q_count (h : Rel S M) : s_P_count S w = s_M_count M w := by
  obtain ⟨e0, e1, e2, e3, e4⟩ := h.1.2.1
  rw [s_M_count, cnt_b h.1 h.2.2.1.1 w _ _ _ (UP_in (by decide)), s_P_count, s_B_size, s_N_size, s_B_pairsInTrain, s_N_size, s_X_length, s_N_size, s_B_pressureNow, s_B_outwardTeeth, e0, e2, e4, h.2.2.1.1]
theorem flt_b (hB : BN S M) : ∀ (n : Nat) (y : Int32), 0 ≤ y.toInt → s_B_firstClash_b2 S n y = s_M_faulty_b2 M n y := by
  have e2 := hB.2.1.2.2.1
  have bb := hB.1.2.2.1
  intro n
  induction n with
  | zero => intro y _; rfl
  | succ n ih =>
    intro y h0
    rw [s_B_firstClash_b2, s_M_faulty_b2, s_N_size, e2]
    by_cases c : M.2.1 0 34 ≤ y
    · rw [if_pos c, if_pos c]
    · have c1 := c
      rw [le32] at c1
      have h1 : 0 ≤ (y + 1).toInt := by rw [i32_suc (by omega)]; omega
      obtain ⟨p1, p2, p3⟩ := pr_at hB h0 c
      rw [if_neg c, if_neg c, p1, p2, clash_eq hB p3, ih _ h1]
theorem flt_eq (hB : BN S M) : s_B_firstClash S = s_M_faulty M := by
  rw [s_B_firstClash, s_M_faulty, hB.2.1.2.2.1]
  exact flt_b hB _ _ (by decide)
theorem q_faulty (h : Rel S M) : s_P_faulty S = s_M_faulty M := flt_eq h.1
end ro
