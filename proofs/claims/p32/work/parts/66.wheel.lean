/-! wheels: what is undercut; the law's isWheel -/
section wheels
variable {S : St} {w a b t v x s z : Int32}
theorem sq_b (S : St) : 627 ≤ (s_B_square S).toInt ∧ (s_B_square S).toInt ≤ 1786 := by
  rw [s_B_square]
  split
  · decide
  · split <;> decide
theorem keep_i (hz : 0 ≤ z.toInt ∧ z.toInt ≤ 200) (hs : -200 ≤ s.toInt ∧ s.toInt ≤ 200) : s_B_keepsLimit S z s = 0 ↔ z.toInt * (s_B_square S).toInt < 200 * (100 - s.toInt) := by
  have hq := sq_b S
  have c100 : (100 : Int32).toInt = 100 := by decide
  have c200 : (200 : Int32).toInt = 200 := by decide
  rw [s_B_keepsLimit]
  generalize s_B_square S = q at hq ⊢
  have b1 : 0 ≤ z.toInt * q.toInt := Int.mul_nonneg hz.1 (by omega)
  have b2 : z.toInt * q.toInt ≤ 200 * 1786 := by
    have := Int.mul_le_mul_of_nonneg_right hz.2 (show 0 ≤ q.toInt by omega)
    omega
  have e1 : (z * q).toInt = z.toInt * q.toInt := i32_mul (by omega) (by omega)
  have e2 : ((100 : Int32) - s).toInt = 100 - s.toInt := by rw [i32_sub (by rw [c100]; omega) (by rw [c100]; omega), c100]
  have e3 : ((200 : Int32) * ((100 : Int32) - s)).toInt = 200 * (100 - s.toInt) := by rw [i32_mul (by rw [c200, e2]; omega) (by rw [c200, e2]; omega), c200, e2]
  simp only [lt32, e1, e3]
  split
  · rename_i h; exact iff_of_true rfl h
  · rename_i h; exact iff_of_false (by decide) h
theorem inc_1 {y : Int32} (h1 : -1000 ≤ y.toInt) (h2 : y.toInt ≤ 1000) : (y + 1).toInt = y.toInt + 1 := i32_suc (by omega)
/-- the least shift from x on -/
theorem least_b (ht : 5 ≤ (s_N_at S 0 w).toInt ∧ (s_N_at S 0 w).toInt ≤ 99) : ∀ (n : Nat) (x : Int32), -50 ≤ x.toInt → x.toInt ≤ 100 → 101 ≤ x.toInt + (n : Int) → x.toInt ≤ (s_B_leastShift_b15 S n w x).toInt ∧ (s_B_leastShift_b15 S n w x).toInt ≤ 100 ∧ ∀ s : Int, x.toInt ≤ s → ((s_N_at S 0 w).toInt * (s_B_square S).toInt < 200 * (100 - s) ↔ s < (s_B_leastShift_b15 S n w x).toInt) := by
  have c100 : (100 : Int32).toInt = 100 := by decide
  have hq := sq_b S
  have hm : 0 ≤ (s_N_at S 0 w).toInt * (s_B_square S).toInt := Int.mul_nonneg (by omega) (by omega)
  intro n
  induction n with
  | zero => intro x h0 h1 h2; omega
  | succ n ih =>
    intro x h0 h1 h2
    have hk := keep_i (S := S) (z := s_N_at S 0 w) (s := x) ⟨by omega, by omega⟩ ⟨by omega, by omega⟩
    rw [s_B_leastShift_b15, if_neg (by rw [lt32, c100]; omega)]
    generalize (s_N_at S 0 w).toInt * (s_B_square S).toInt = K at hm hk ih ⊢
    by_cases c : s_B_keepsLimit S (s_N_at S 0 w) x = 0
    · rw [if_pos c]
      have hK := hk.mp c
      have es := inc_1 (y := x) (by omega) (by omega)
      have hx : x.toInt ≠ 100 := fun e => by rw [e] at hK; omega
      obtain ⟨i1, i2, i3⟩ := ih (x + 1) (by omega) (by omega) (by omega)
      generalize (s_B_leastShift_b15 S n w (x + 1)).toInt = r at i1 i2 i3 ⊢
      refine ⟨by omega, i2, fun s hs => ?_⟩
      by_cases e : s = x.toInt
      · subst e; exact iff_of_true hK (by omega)
      · exact i3 s (by omega)
    · rw [if_neg c]
      have hK : ¬ K < 200 * (100 - x.toInt) := fun q => c (hk.mpr q)
      exact ⟨Int.le_refl _, h1, fun s hs => iff_of_false (by omega) (by omega)⟩
/-- the fewest teeth from x on -/
theorem fewest_b (hs : TS s) : ∀ (n : Nat) (x : Int32), 5 ≤ x.toInt → x.toInt ≤ 100 → 101 ≤ x.toInt + (n : Int) → s_B_fewestTeeth_b2 S n s x = -2 ∨ (x.toInt ≤ (s_B_fewestTeeth_b2 S n s x).toInt ∧ ∀ z : Int, x.toInt ≤ z → (z * (s_B_square S).toInt < 200 * (100 - s.toInt) ↔ z < (s_B_fewestTeeth_b2 S n s x).toInt)) := by
  have c99 : (99 : Int32).toInt = 99 := by decide
  have hq := sq_b S
  unfold TS at hs
  intro n
  induction n with
  | zero => intro x h0 h1 h2; omega
  | succ n ih =>
    intro x h0 h1 h2
    rw [s_B_fewestTeeth_b2]
    by_cases c9 : (99 : Int32) < x
    · rw [if_pos c9]; exact Or.inl rfl
    · rw [if_neg c9]
      rw [lt32, c99] at c9
      have hk := keep_i (S := S) (z := x) (s := s) ⟨by omega, by omega⟩ ⟨by omega, by omega⟩
      by_cases c : s_B_keepsLimit S x s = 0
      · rw [if_pos c]
        have hK := hk.mp c
        have es := inc_1 (y := x) (by omega) (by omega)
        rcases ih (x + 1) (by omega) (by omega) (by omega) with i | ⟨i1, i3⟩
        · exact Or.inl i
        · refine Or.inr ⟨by omega, fun z hz => ?_⟩
          by_cases e : z = x.toInt
          · subst e; exact iff_of_true hK (by omega)
          · exact i3 z (by omega)
      · rw [if_neg c]
        have hK : ¬ x.toInt * (s_B_square S).toInt < 200 * (100 - s.toInt) := fun q => c (hk.mpr q)
        refine Or.inr ⟨Int.le_refl _, fun z hz => iff_of_false (fun q => ?_) (by omega)⟩
        have := Int.mul_le_mul_of_nonneg_right hz (show 0 ≤ (s_B_square S).toInt by omega)
        omega
theorem of_2 (hB : BN S) (hw : wl S w) : s_P_of S w 2 = if s_B_isUndercut S w = 0 then 0 else 1 := by
  rw [s_P_of, s_B_hasWheel, if_neg (has_n hB hw), s_B_told, if_neg (by decide), if_neg (by decide), if_pos rfl]
theorem of_3 (hB : BN S) (hw : wl S w) : s_P_of S w 3 = if s_B_isPointed S w = 0 then 0 else 1 := by
  rw [s_P_of, s_B_hasWheel, if_neg (has_n hB hw), s_B_told, if_neg (by decide), if_neg (by decide), if_neg (by decide), if_pos rfl]
theorem of_4 (hB : BN S) (hw : wl S w) : s_P_of S w 4 = s_B_leastShift S w := by
  rw [s_P_of, s_B_hasWheel, if_neg (has_n hB hw), s_B_told, if_neg (by decide), if_neg (by decide), if_neg (by decide), if_neg (by decide), if_pos rfl]
theorem of_5 (hB : BN S) (hw : wl S w) : s_P_of S w 5 = s_B_pairsWith S w := by
  rw [s_P_of, s_B_hasWheel, if_neg (has_n hB hw), s_B_told, if_neg (by decide), if_neg (by decide), if_neg (by decide), if_neg (by decide), if_neg (by decide), if_pos rfl]
theorem isWheel_1 (hB : BN S) (hw : wl S w) : s_L_isWheel S w = 1 := by
  obtain ⟨h5, h6⟩ := tv hB hw
  have hr := ring_i (S := S) (w := w)
  rw [s_L_isWheel, of_0 hB hw, of_1 hB hw, of_2 hB hw, of_3 hB hw, of_4 hB hw]
  unfold TV at h5
  have h6' := h6
  unfold TS at h6
  by_cases c : 0 ≤ (s_N_at S 0 w).toInt
  · have hr0 := hr.mpr c
    have e5 : (5 : Int32).toInt = 5 := by decide
    have m50 : (-50 : Int32).toInt = -50 := by decide
    have c100 : (100 : Int32).toInt = 100 := by decide
    have hk := keep_i (S := S) (z := s_N_at S 0 w) (s := s_N_at S 1 w) ⟨by omega, by omega⟩ ⟨by omega, by omega⟩
    have l := least_b (S := S) (w := w) ⟨by omega, by omega⟩ 152 (-50) (by decide) (by decide) (by rw [m50]; decide)
    obtain ⟨l1, l2, l3⟩ := l
    rw [m50] at l1 l3
    have el : s_B_leastShift S w = s_B_leastShift_b15 S 152 w (-50) := by rw [s_B_leastShift, if_pos hr0]
    rw [← el] at l1 l2 l3
    have lU := l3 (s_N_at S 1 w).toInt h6.1
    have f := fewest_b (S := S) (s := s_N_at S 1 w) h6' 96 5 (by decide) (by decide) (by rw [e5]; decide)
    rw [e5] at f
    have ef : s_P_fewest S (s_N_at S 1 w) = s_B_fewestTeeth_b2 S 96 (s_N_at S 1 w) 5 := by rw [s_P_fewest, if_neg (fun q => sh_i.mp q h6'), s_B_fewestTeeth]
    rw [← ef] at f
    have eu : s_B_isUndercut S w = if s_B_keepsLimit S (s_N_at S 0 w) (s_N_at S 1 w) = 0 then 1 else 0 := by rw [s_B_isUndercut, if_pos hr0]
    generalize s_B_leastShift S w = L at *
    rw [if_pos (by rw [le32, z32]; exact c), if_neg (by rw [lt32, e5]; omega), if_neg (by rw [lt32, m50]; omega), if_neg (by rw [lt32, c100]; omega), eu]
    have h10 : ¬ (1 : Int32) = 0 := by decide
    have h01 : ¬ (0 : Int32) = 1 := by decide
    by_cases U : s_B_keepsLimit S (s_N_at S 0 w) (s_N_at S 1 w) = 0
    · have hU := hk.mp U
      have eu2 : (if (if s_B_keepsLimit S (s_N_at S 0 w) (s_N_at S 1 w) = 0 then (1 : Int32) else 0) = 0 then (0 : Int32) else 1) = 1 := by rw [if_pos U, if_neg h10]
      have o2 : s_P_of S w 2 = 1 := by rw [of_2 hB hw, eu]; exact eu2
      rw [eu2, if_pos rfl, s_L_isWheel_b95, if_neg (by rw [le32]; have := lU.mp hU; omega), s_L_isWheel_b106, if_pos rfl]
      by_cases q : s_P_fewest S (s_N_at S 1 w) = -2
      · rw [if_pos q]
      · rw [if_neg q, o2, if_pos rfl, s_L_isWheel_b135]
        have f3 := (f.resolve_left q).2 (s_N_at S 0 w).toInt (by omega)
        rw [if_neg (by rw [le32]; have := f3.mp hU; omega), s_L_isWheel_b150, if_pos rfl]
    · have hU := fun q => U (hk.mpr q)
      have eu2 : (if (if s_B_keepsLimit S (s_N_at S 0 w) (s_N_at S 1 w) = 0 then (1 : Int32) else 0) = 0 then (0 : Int32) else 1) = 0 := by rw [if_neg U, if_pos rfl]
      have o2 : s_P_of S w 2 = 0 := by rw [of_2 hB hw, eu]; exact eu2
      rw [eu2, if_neg h01, s_L_isWheel_b95, if_pos (by rw [le32]; exact Int.not_lt.mp (fun q => hU (lU.mpr q))), s_L_isWheel_b106, if_pos rfl]
      by_cases q : s_P_fewest S (s_N_at S 1 w) = -2
      · rw [if_pos q]
      · rw [if_neg q, o2, if_neg h01, s_L_isWheel_b135]
        have f3 := (f.resolve_left q).2 (s_N_at S 0 w).toInt (by omega)
        rw [if_pos (by rw [le32]; exact Int.not_lt.mp (fun q => hU (f3.mpr q))), s_L_isWheel_b150, if_pos rfl]
  · have hr0 : ¬ s_B_isRing S w = 0 := fun q => c (hr.mp q)
    have m20 : (-20 : Int32).toInt = -20 := by decide
    have e2 : s_B_isUndercut S w = 0 := by rw [s_B_isUndercut, if_neg hr0]
    have e3 : s_B_isPointed S w = 0 := by rw [s_B_isPointed, if_neg hr0]
    have e4 : s_B_leastShift S w = -1001 := by rw [s_B_leastShift, if_neg hr0]
    rw [if_neg (by rw [le32, z32]; exact c), if_neg (by rw [lt32, m20]; omega), e2, e3, e4, if_pos rfl, if_pos rfl, if_pos rfl, if_pos rfl]
/-! how many wheels are so -/
theorem wh_b (k : Int32) : ∀ (n : Nat) (x y : Int32), UP n (S.1 0) y → (S.1 0).toInt ≤ 16 → 0 ≤ x.toInt → x.toInt ≤ y.toInt → y.toInt ≤ (S.1 0).toInt → x.toInt ≤ (s_B_wheelsThatAre_b4 S n k x y).toInt ∧ (s_B_wheelsThatAre_b4 S n k x y).toInt ≤ x.toInt + ((S.1 0).toInt - y.toInt) := by
  intro n
  induction n with
  | zero => intro x y h; exact absurd h UP_z
  | succ n ih =>
    intro x y h h16 hx0 hx hy
    rw [s_B_wheelsThatAre_b4, s_N_size]
    by_cases c : S.1 0 ≤ y
    · rw [if_pos c]; rw [le32] at c; omega
    · rw [if_neg c]
      have h' := UP_up h c
      have h0 := h.2.2
      rw [le32] at c
      have es : (y + 1).toInt = y.toInt + 1 := i32_suc (by omega)
      by_cases d : s_B_is S y k = 0
      · rw [if_pos d]
        have := ih x (y + 1) h' h16 hx0 (by omega) (by omega)
        omega
      · rw [if_neg d]
        have ex : (x + 1).toInt = x.toInt + 1 := i32_suc (by omega)
        have := ih (x + 1) (y + 1) h' h16 (by omega) (by omega) (by omega)
        omega
theorem wh_02 : ∀ (n : Nat) (x z y : Int32), UP n (S.1 0) y → (S.1 0).toInt ≤ 16 → 0 ≤ x.toInt → 0 ≤ z.toInt → x.toInt + z.toInt ≤ y.toInt → y.toInt ≤ (S.1 0).toInt → (s_B_wheelsThatAre_b4 S n 0 x y).toInt + (s_B_wheelsThatAre_b4 S n 2 z y).toInt ≤ (S.1 0).toInt := by
  intro n
  induction n with
  | zero => intro x z y h; exact absurd h UP_z
  | succ n ih =>
    intro x z y h h16 hx0 hz0 hx hy
    rw [s_B_wheelsThatAre_b4, s_B_wheelsThatAre_b4, s_N_size]
    by_cases c : S.1 0 ≤ y
    · rw [if_pos c, if_pos c]; omega
    · rw [if_neg c, if_neg c]
      have h' := UP_up h c
      have h0 := h.2.2
      rw [le32] at c
      have es : (y + 1).toInt = y.toInt + 1 := i32_suc (by omega)
      have ex : (x + 1).toInt = x.toInt + 1 := i32_suc (by omega)
      have ez : (z + 1).toInt = z.toInt + 1 := i32_suc (by omega)
      have e0 : s_B_is S y 0 = s_B_isUndercut S y := by rw [s_B_is, if_pos rfl]
      have e2 : s_B_is S y 2 = s_B_isRing S y := by rw [s_B_is, if_neg (by decide), if_neg (by decide), if_pos rfl]
      by_cases d : s_B_isRing S y = 0
      · rw [e2, if_pos d]
        by_cases g : s_B_is S y 0 = 0
        · rw [if_pos g]; exact ih x z (y + 1) h' h16 hx0 hz0 (by omega) (by omega)
        · rw [if_neg g]; exact ih (x + 1) z (y + 1) h' h16 (by omega) hz0 (by omega) (by omega)
      · rw [e2, if_neg d, e0, s_B_isUndercut, if_neg d, if_pos rfl]
        exact ih x (z + 1) (y + 1) h' h16 hx0 (by omega) (by omega) (by omega)
theorem wheels_b (hB : BN S) {k : Int32} (hk : 0 ≤ k.toInt ∧ k.toInt ≤ 3) : 0 ≤ (s_P_wheels S k).toInt ∧ (s_P_wheels S k).toInt ≤ (S.1 0).toInt := by
  have bb := hB.1
  have e3 : (3 : Int32).toInt = 3 := by decide
  rw [s_P_wheels, if_neg (by rw [lt32, z32]; omega), if_pos (by rw [le32, e3]; omega), s_B_wheelsThatAre]
  have := wh_b (S := S) k _ 0 0 (UP_in (B := S.1 0) (x := 0) (by decide)) bb.2 (by decide) (by decide) (by rw [z32]; omega)
  rw [z32] at this
  omega
theorem wheels_02 (hB : BN S) : (s_P_wheels S 0 + s_P_wheels S 2).toInt ≤ (S.1 0).toInt := by
  have bb := hB.1
  have h0 := wheels_b (k := 0) hB (by decide)
  have h2 := wheels_b (k := 2) hB (by decide)
  rw [i32_add (by omega) (by omega)]
  rw [s_P_wheels, if_neg (by decide), if_pos (by decide), s_P_wheels, if_neg (by decide), if_pos (by decide), s_B_wheelsThatAre, s_B_wheelsThatAre]
  exact wh_02 _ 0 0 0 (UP_in (B := S.1 0) (x := 0) (by decide)) bb.2 (by decide) (by decide) (by decide) (by rw [z32]; omega)
end wheels
