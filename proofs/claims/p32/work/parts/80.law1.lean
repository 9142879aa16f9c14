/-! the law answers true -/
section l1
variable {S Z Y : St} {x a b k t x2 x3 x4 x5 x6 x7 x8 : Int32} {i L : Nat} {xs : Nat → Int32}
theorem cnt_0 : s_P_count S 0 = S.1 0 := by rw [s_P_count, if_pos rfl]; rfl
theorem cnt_1 : s_P_count S 1 = S.1 2 := by rw [s_P_count, if_neg (by decide), if_pos rfl]; rfl
theorem cnt_2 : s_P_count S 2 = S.1 12 := by rw [s_P_count, if_neg (by decide), if_neg (by decide), if_pos rfl]; rfl
theorem and11 : (1 : Int32) &&& 1 = 1 := by decide
section acts
variable {kk : St → Int32 → Int32 → Int32 × St}
theorem pass191 (hI : Inv Z) : s_L_law_b191 xs L kk Z x2 x3 1 1 = kk Z x2 (x3 + 1) := by
  have h0 := hI.1.1
  have h2 := hI.1.2.2.1
  have e16 : (16 : Int32).toInt = 16 := by decide
  have e9 : (9 : Int32).toInt = 9 := by decide
  rw [s_L_law_b191, and11, if_neg (by decide), if_pos (cnt_2.trans hI.2.2), if_neg (by rw [cnt_0, lt32, e16]; omega), if_pos (by rw [cnt_1, le32, e9]; omega)]
theorem pass186 (hI : Inv Z) : s_L_law_b186 xs L kk Z x2 x3 1 = kk Z x2 (x3 + 1) := by rw [s_L_law_b186, pass191 hI]
theorem pass161 (hI : Inv Z) (h : 0 < x7 ∨ (Z.1 0 = x5 ∧ Z.1 2 = x6)) : s_L_law_b161 xs L kk Z x2 x3 x5 x6 x7 1 = kk Z x2 (x3 + 1) := by
  rw [s_L_law_b161]
  by_cases c : 0 < x7
  · rw [if_pos c, pass186 hI]
  · obtain ⟨h1, h2⟩ := h.resolve_left c
    rw [if_neg c, if_pos (cnt_0.trans h1), if_pos (cnt_1.trans h2), pass186 hI]
theorem pass142 (hI : Inv Z) (h : x8 = 10 ∨ x8 = 11 → 0 < x7 ∨ (Z.1 0 = x5 ∧ Z.1 2 = x6)) : s_L_law_b142 xs L kk Z x2 x3 x5 x6 x7 x8 1 1 = kk Z x2 (x3 + 1) := by
  rw [s_L_law_b142, and11]
  by_cases c : x8 = 10
  · rw [if_pos c, pass161 hI (h (Or.inl c))]
  · rw [if_neg c]
    by_cases d : x8 = 11
    · rw [if_pos d, pass161 hI (h (Or.inr d))]
    · rw [if_neg d, pass186 hI]
theorem pass99 (hA : AOk S x8 (x7, Z)) : s_L_law_b99 xs L kk Z x2 x3 (s_P_count S 0) (s_P_count S 1) x7 x8 1 = kk Z x2 (x3 + 1) := by
  obtain ⟨hI, -, h6, h10⟩ := hA
  have hI : Inv Z := hI
  have h6 : 6 ≤ x8 → x8 ≤ 8 → Z.1 2 = if x7 < 0 then S.1 2 else x7 := h6
  have h10 : x8 = 10 ∨ x8 = 11 → 0 < x7 ∨ (Z.1 0 = S.1 0 ∧ Z.1 2 = S.1 2) := h10
  have p137 : s_L_law_b137 xs L kk Z x2 x3 (s_P_count S 0) (s_P_count S 1) x7 x8 1 = kk Z x2 (x3 + 1) := by
    rw [s_L_law_b137, cnt_0, cnt_1, pass142 hI h10]
  rw [s_L_law_b99]
  by_cases c : x8 < 6
  · rw [if_pos c, p137]
  · rw [if_neg c]
    by_cases d : 8 < x8
    · rw [if_pos d, p137]
    · rw [if_neg d]
      have e := h6 (Int32.not_lt.mp c) (Int32.not_lt.mp d)
      by_cases f : 0 ≤ x7
      · rw [if_neg (by rw [lt32]; rw [le32] at f; omega)] at e
        rw [if_pos f, s_L_law_b134, if_pos (cnt_1.trans e), p137]
      · rw [if_pos (Int32.not_le.mp f)] at e
        rw [if_neg f, s_L_law_b134, if_pos (by rw [cnt_1, cnt_1]; exact e), p137]
theorem pass94 (hA : AOk S x8 (x7, Z)) : s_L_law_b94 xs L kk Z x2 x3 (s_P_count S 0) (s_P_count S 1) x7 x8 = kk Z x2 (x3 + 1) := by rw [s_L_law_b94, pass99 hA]
end acts
theorem law_25 (fin : ∀ Z : St, Inv Z → (s_L_law_b253 xs L ((s_P_image Z).1.toInt.toNat + 1) (s_P_image Z).2 (s_P_image Z).1 (s_P_count (s_P_image Z).2 (1 : Int32)) (0 : Int32) (0 : Int32)).1 = 1) : ∀ (n : Nat) (Z : St) (x3 : Int32), UP n x2 x3 → Inv Z → (s_L_law_b25 xs L n Z x2 x3).1 = 1 := by
  intro n
  induction n with
  | zero => intro Z x3 h; exact absurd h UP_z
  | succ n ih =>
    intro Z x3 h hI
    rw [s_L_law_b25]
    by_cases c : x2 ≤ x3
    · rw [if_pos c]; exact fin Z hI
    · rw [if_neg c]
      have hA := act_1 (x := s_L_cell xs L x3) hI
      generalize s_L_cell xs L x3 = x at hA ⊢
      generalize s_L_act Z x = r at hA ⊢
      generalize (x &&& (15 : Int32)) = k at hA ⊢
      obtain ⟨x7, Y⟩ := r
      dsimp only
      have hI' : Inv Y := hA.1
      have i := ih Y (x3 + 1) (UP_up h c) hI'
      have h2 : k ≤ 2 → Y.1 0 = if x7 < 0 then Z.1 0 else Z.1 0 + 1 := hA.2.1
      by_cases d : 2 < k
      · rw [if_pos d, pass94 hA]; exact i
      · rw [if_neg d]
        have e := h2 (Int32.not_lt.mp d)
        by_cases f : 0 ≤ x7
        · rw [if_neg (by rw [lt32]; rw [le32] at f; omega)] at e
          rw [if_pos f, s_L_law_b91, if_pos (by rw [cnt_0, cnt_0]; exact e), pass94 hA]; exact i
        · rw [if_pos (Int32.not_le.mp f)] at e
          rw [if_neg f, s_L_law_b91, if_pos (by rw [cnt_0, cnt_0]; exact e), pass94 hA]; exact i
/-! each pair stands with two wheels -/
def cP (f g : Nat → Int32) (w : Int32) : Nat → Nat
  | 0 => 0
  | m + 1 => cP f g w m + (if f m = w ∨ g m = w then 1 else 0)
def sP (f g : Nat → Int32) (m : Nat) : Nat → Nat
  | 0 => 0
  | W + 1 => sP f g m W + cP f g (nI W) m
theorem cP_le {f g : Nat → Int32} {w : Int32} : ∀ m : Nat, cP f g w m ≤ m := by
  intro m
  induction m with
  | zero => exact Nat.le_refl _
  | succ m ih => rw [cP]; split <;> omega
theorem sP_m {f g : Nat → Int32} {m : Nat} (hf : 0 ≤ (f m).toInt) (hg : 0 ≤ (g m).toInt) (hn : ¬ f m = g m) : ∀ W : Nat, W ≤ 16 → sP f g (m + 1) W = sP f g m W + (if (f m).toInt < (W : Int) then 1 else 0) + (if (g m).toInt < (W : Int) then 1 else 0) := by
  intro W
  induction W with
  | zero =>
    intro _
    rw [sP, sP, if_neg (by omega), if_neg (by omega)]
  | succ W ih =>
    intro hW
    have eW : (nI W).toInt = (W : Int) := nI_toInt (by omega)
    have ef : f m = nI W ↔ (f m).toInt = (W : Int) := by rw [eq32, eW]
    have eg : g m = nI W ↔ (g m).toInt = (W : Int) := by rw [eq32, eW]
    have en : ¬ (f m).toInt = (g m).toInt := fun q => hn (eq32.mpr q)
    have i := ih (by omega)
    rw [sP, sP, i, cP]
    by_cases c1 : (f m).toInt = (W : Int)
    · rw [if_pos (Or.inl (ef.mpr c1)), if_neg (c := (f m).toInt < (W : Int)) (by omega), if_pos (c := (f m).toInt < ((W + 1 : Nat) : Int)) (by omega)]
      by_cases c2 : (g m).toInt < (W : Int)
      · rw [if_pos c2, if_pos (by omega)]; omega
      · rw [if_neg c2, if_neg (by omega)]; omega
    · by_cases c3 : (g m).toInt = (W : Int)
      · rw [if_pos (Or.inr (eg.mpr c3)), if_neg (c := (g m).toInt < (W : Int)) (by omega), if_pos (c := (g m).toInt < ((W + 1 : Nat) : Int)) (by omega)]
        by_cases c2 : (f m).toInt < (W : Int)
        · rw [if_pos c2, if_pos (by omega)]; omega
        · rw [if_neg c2, if_neg (by omega)]; omega
      · rw [if_neg (c := f m = nI W ∨ g m = nI W) (fun q => q.elim (fun q => c1 (ef.mp q)) (fun q => c3 (eg.mp q)))]
        by_cases c2 : (f m).toInt < (W : Int)
        · rw [if_pos c2, if_pos (c := (f m).toInt < ((W + 1 : Nat) : Int)) (by omega)]
          by_cases c4 : (g m).toInt < (W : Int)
          · rw [if_pos c4, if_pos (by omega)]; omega
          · rw [if_neg c4, if_neg (by omega)]; omega
        · rw [if_neg c2, if_neg (c := (f m).toInt < ((W + 1 : Nat) : Int)) (by omega)]
          by_cases c4 : (g m).toInt < (W : Int)
          · rw [if_pos c4, if_pos (by omega)]; omega
          · rw [if_neg c4, if_neg (by omega)]; omega
theorem sP_0 {f g : Nat → Int32} : ∀ W : Nat, sP f g 0 W = 0 := by
  intro W
  induction W with
  | zero => rfl
  | succ W ih => rw [sP, ih, cP]
theorem sP_all {f g : Nat → Int32} {n : Nat} (hn : n ≤ 16) : ∀ m : Nat, (∀ k : Nat, k < m → (0 ≤ (f k).toInt ∧ (f k).toInt < (n : Int)) ∧ (0 ≤ (g k).toInt ∧ (g k).toInt < (n : Int)) ∧ ¬ f k = g k) → sP f g m n = 2 * m ∧ ∀ W : Nat, W ≤ n → sP f g m W ≤ 2 * m := by
  intro m
  induction m with
  | zero => intro _; exact ⟨sP_0 n, fun W _ => by rw [sP_0 W]; omega⟩
  | succ m ih =>
    intro h
    obtain ⟨i1, i2⟩ := ih (fun k hk => h k (by omega))
    obtain ⟨⟨f0, f1⟩, ⟨g0, g1⟩, hd⟩ := h m (by omega)
    refine ⟨?_, fun W hW => ?_⟩
    · rw [sP_m f0 g0 hd n hn, if_pos f1, if_pos g1]; omega
    · have j := i2 W hW
      rw [sP_m f0 g0 hd W (by omega)]
      split <;> split <;> omega
theorem tn_eq (x : Int32) : x.toNatClampNeg = x.toInt.toNat := rfl
theorem pw_b (h2 : (S.1 2).toInt ≤ 9) (e3 : S.1 3 = S.1 2) (w : Int32) : ∀ (n : Nat) (x y : Int32), UP n (S.1 2) y → y.toInt ≤ (S.1 2).toInt → x.toInt = (cP (S.2.1 2) (S.2.1 3) w y.toInt.toNat : Nat) → (s_B_pairsWith_b4 S n w x y).toInt = (cP (S.2.1 2) (S.2.1 3) w (S.1 2).toInt.toNat : Nat) := by
  intro n
  have cc := c16
  induction n with
  | zero => intro x y h; exact absurd h UP_z
  | succ n ih =>
    intro x y h hy hx
    have y0 := h.2.2
    rw [s_B_pairsWith_b4, s_N_size]
    by_cases c : S.1 2 ≤ y
    · rw [if_pos c, hx]
      rw [le32] at c
      rw [show y.toInt = (S.1 2).toInt by omega]
    · rw [if_neg c]
      have hu := UP_up h c
      rw [le32] at c
      have a2 : s_N_at S 2 y = S.2.1 2 y.toInt.toNat := at_in y0 (by omega) (by omega)
      have a3 : s_N_at S 3 y = S.2.1 3 y.toInt.toNat := at_in y0 (by rw [e3]; omega) (by omega)
      have es : (y + 1).toInt = y.toInt + 1 := i32_suc (by omega)
      have et : (y + 1).toInt.toNat = y.toInt.toNat + 1 := by rw [es]; omega
      have hc := cP_le (f := S.2.1 2) (g := S.2.1 3) (w := w) y.toInt.toNat
      have ex : (x + 1).toInt = x.toInt + 1 := i32_suc (by rw [hx]; omega)
      rw [a2, a3]
      by_cases d : S.2.1 2 y.toInt.toNat = w
      · rw [if_pos d]
        exact ih (x + 1) (y + 1) hu (by omega) (by rw [et, cP, if_pos (Or.inl d), ex, hx]; omega)
      · rw [if_neg d]
        by_cases e : S.2.1 3 y.toInt.toNat = w
        · rw [if_pos e]
          exact ih (x + 1) (y + 1) hu (by omega) (by rw [et, cP, if_pos (Or.inr e), ex, hx]; omega)
        · rw [if_neg e]
          exact ih x (y + 1) hu (by omega) (by rw [et, cP, if_neg (fun q => q.elim d e), hx]; omega)
theorem pw_1 (hB : BN S) (w : Int32) : (s_B_pairsWith S w).toInt = (cP (S.2.1 2) (S.2.1 3) w (S.1 2).toInt.toNat : Nat) := by
  have h2 := hB.2.2.1
  rw [s_B_pairsWith]
  exact pw_b h2.2 hB.2.2.2.1 w _ 0 0 (UP_in (by decide)) (by rw [z32]; exact h2.1) (by rw [z32]; rfl)
/-! row, lay, judge -/
theorem sL_ne {m j q : Nat} {v : Int64} (h : ¬ q = j) : (sL S m j v).2.2 m q = S.2.2 m q := by
  simp [sL, sG, va_up, vp_updL, h]
theorem sL_eq {m j : Nat} {v : Int64} : (sL S m j v).2.2 m j = v := by
  simp [sL, sG, va_up, vp_updL]
theorem rez_b {m : Nat} : ∀ (n : Nat) (Z : St) (x : Int32), UP n 20 x → (s_O_resize_b23 m n Z x).1 = 1 ∧ (s_O_resize_b23 m n Z x).2.1 = Z.1 := by
  intro n
  induction n with
  | zero => intro Z x h; exact absurd h UP_z
  | succ n ih =>
    intro Z x h
    rw [s_O_resize_b23]
    by_cases c : 20 ≤ x
    · rw [if_pos c]; exact ⟨rfl, rfl⟩
    · rw [if_neg c]
      exact ih _ _ (UP_up h c)
theorem tn0 : (0 : Int32).toNatClampNeg = 0 := by decide
theorem row_1 : (s_P_row Z 0 20).2.1 16 = 20 := by
  have e : (s_O_resize Z 0 20).1 = 1 ∧ (s_O_resize Z 0 20).2.1 16 = 20 := by
    obtain ⟨r1, r2⟩ := rez_b (m := 0) 21 (sV Z (16 + 0) 20) 0 (UP_in' (by decide) (by decide))
    rw [s_O_resize, if_neg (by decide), if_pos (by decide)]
    refine ⟨r1, ?_⟩
    rw [r2]; exact sV_eq
  rw [s_P_row, if_pos (by decide), if_pos (by decide), tn0, if_neg (by rw [e.1]; decide)]
  exact e.2
theorem hp_1 (h : Z.1 16 = 20) (h0 : 0 ≤ x.toInt) (h1 : x.toInt < 20) : s_O_hasPlace Z 0 x = 1 := by
  have e20 : (20 : Int32).toInt = 20 := by decide
  rw [s_O_hasPlace, if_neg (by rw [lt32, z32]; omega), if_neg (by rw [h, le32, e20]; omega), if_neg (by rw [le32, e20]; omega)]
theorem lay_b (hB : BN Y) (hY : Y.1 16 = 20) : ∀ (n : Nat) (Z : St) (x4 : Int32), UP n (Y.1 0) x4 → x4.toInt ≤ (Y.1 0).toInt → Z.1 = Y.1 → Z.2.1 = Y.2.1 → (∀ k : Nat, (k : Int) < x4.toInt → Z.2.2 0 k = (Y.2.1 0 k).toInt64) → (s_P_lay_b40 n Z 0 (Y.1 0) x4).1 = Y.1 0 ∧ (s_P_lay_b40 n Z 0 (Y.1 0) x4).2.1 = Y.1 ∧ (s_P_lay_b40 n Z 0 (Y.1 0) x4).2.2.1 = Y.2.1 ∧ ∀ k : Nat, (k : Int) < (Y.1 0).toInt → (s_P_lay_b40 n Z 0 (Y.1 0) x4).2.2.2 0 k = (Y.2.1 0 k).toInt64 := by
  have h0 := hB.1
  have cc := c16
  intro n
  induction n with
  | zero => intro Z x4 h; exact absurd h UP_z
  | succ n ih =>
    intro Z x4 h hx e1 e2 hr
    have x0 := h.2.2
    rw [s_P_lay_b40]
    by_cases c : Y.1 0 ≤ x4
    · rw [if_pos c]
      rw [le32] at c
      exact ⟨rfl, e1, e2, fun k hk => hr k (by omega)⟩
    · rw [if_neg c]
      have hu := UP_up h c
      rw [le32] at c
      have es : (x4 + 1).toInt = x4.toInt + 1 := i32_suc (by omega)
      have ht : s_B_teethOf Z x4 = Y.2.1 0 x4.toNatClampNeg := by
        rw [s_B_teethOf, at_in x0 (by rw [e1]; omega) (by omega), e2]
      rw [s_O_set, if_neg (by rw [hp_1 (by rw [e1]; exact hY) x0 (by omega)]; decide), ht]
      refine ih _ (x4 + 1) hu (by omega) e1 e2 (fun k hk => ?_)
      rw [es] at hk
      show (sL Z 0 x4.toNatClampNeg ((Y.2.1 0 x4.toNatClampNeg).toInt64)).2.2 0 k = (Y.2.1 0 k).toInt64
      by_cases d : k = x4.toNatClampNeg
      · subst d; exact sL_eq
      · have := i32_tn x0
        rw [sL_ne d]
        exact hr k (by omega)
theorem lay_1 (hB : BN Y) (hY : Y.1 16 = 20) : (s_P_lay Y 0).1 = Y.1 0 ∧ (s_P_lay Y 0).2.1 = Y.1 ∧ (s_P_lay Y 0).2.2.1 = Y.2.1 ∧ ∀ k : Nat, (k : Int) < (Y.1 0).toInt → (s_P_lay Y 0).2.2.2 0 k = (Y.2.1 0 k).toInt64 := by
  have h0 := hB.1
  have e20 : (20 : Int32).toInt = 20 := by decide
  have hm : s_O_isMissing Y 0 = 0 := by rw [s_O_isMissing, hY, if_pos (by decide)]
  rw [s_P_lay, if_pos (by decide), tn0, if_pos hm, s_B_size, s_N_size, s_O_size, hY, if_pos (by rw [lt32, e20]; omega)]
  exact lay_b hB hY _ Y 0 (UP_in (by decide)) (by rw [z32]; exact h0.1) rfl rfl (fun k hk => by rw [z32] at hk; omega)
theorem jud_b (hB : BN Y) (hY : Y.1 16 = 20) (hr : ∀ k : Nat, (k : Int) < (Y.1 0).toInt → Y.2.2 0 k = (Y.2.1 0 k).toInt64) : ∀ (n : Nat) (x : Int32), UP n 20 x → x.toInt ≤ (Y.1 0).toInt → s_P_judge_b24 Y n 0 x = Y.1 0 := by
  have h0 := hB.1
  have cc := c16
  have e20 : (20 : Int32).toInt = 20 := by decide
  intro n
  induction n with
  | zero => intro x h; exact absurd h UP_z
  | succ n ih =>
    intro x h hx
    have x0 := h.2.2
    have c : ¬ (20 : Int32) ≤ x := by rw [le32, e20]; omega
    rw [s_P_judge_b24, s_O_size, hY, if_neg c, s_B_hasWheel]
    by_cases d : s_N_has Y 0 x = 0
    · rw [if_pos d, eq32]
      have := (has_i hB).mp d
      unfold wl at this
      omega
    · rw [if_neg d]
      have hw : wl Y x := Classical.not_not.mp (fun q => d ((has_i hB).mpr q))
      have w2 : x.toInt < (Y.1 0).toInt := hw.2
      have es : (x + 1).toInt = x.toInt + 1 := i32_suc (by omega)
      rw [if_pos (by rw [lcmp_eq, s_O_at, if_neg (by rw [hp_1 hY x0 (by omega)]; decide), s_B_teethOf, at_in x0 w2 (by omega)]; exact hr _ (by rw [i32_tn x0]; exact w2))]
      exact ih (x + 1) (UP_up h c) (by omega)
theorem jud_1 (hB : BN Y) (hY : Y.1 16 = 20) (hr : ∀ k : Nat, (k : Int) < (Y.1 0).toInt → Y.2.2 0 k = (Y.2.1 0 k).toInt64) : s_P_judge Y 0 = Y.1 0 := by
  have hm : s_O_isMissing Y 0 = 0 := by rw [s_O_isMissing, hY, if_pos (by decide)]
  rw [s_P_judge, if_pos (by decide), tn0, if_pos hm]
  exact jud_b hB hY hr _ 0 (UP_in' (by decide) (Nat.le_of_eq (by rw [hY]))) (by rw [z32]; exact hB.1.1)
theorem FS.bn (h : FS S Z) (hB : BN S) : BN Z := hB.cg (h.1 0 (by omega)) (h.1 1 (by omega)) (h.1 2 (by omega)) (h.1 3 (by omega)) (h.1 19 (by omega)) (by rw [h.2]) (by rw [h.2]) (by rw [h.2]) (by rw [h.2])
theorem FS.bk (h : FS S Z) (hB : BK S) : BK Z := hB.cg (h.1 4 (by omega)) (h.1 5 (by omega)) (h.1 6 (by omega)) (h.1 7 (by omega)) (h.1 20 (by omega)) (by rw [h.2]) (by rw [h.2]) (by rw [h.2]) (by rw [h.2])
/-- what stands at the law's end: the bench, its image, their sizes -/
def EN (Z : St) (x3 x4 : Int32) : Prop := BN Z ∧ BK Z ∧ Z.1 22 = 1 ∧ Z.1 4 = x3 ∧ Z.1 6 = x4
theorem EN.fr (h : EN S x3 x4) (hB : BN Z) (hF : FR S Z) : EN Z x3 x4 := ⟨hB, hF.kf.bk h.2.1, (hF.1 22 (by omega) (by omega)).trans h.2.2.1, (hF.1 4 (by omega) (by omega)).trans h.2.2.2.1, (hF.1 6 (by omega) (by omega)).trans h.2.2.2.2⟩
theorem EN.fs (h : EN S x3 x4) (hF : FS S Z) : EN Z x3 x4 := ⟨hF.bn h.1, hF.bk h.2.1, (hF.1 22 (by omega)).trans h.2.2.1, (hF.1 4 (by omega)).trans h.2.2.2.1, (hF.1 6 (by omega)).trans h.2.2.2.2⟩
theorem EN.gx (h : EN S x3 x4) (hF : GX S Z) : EN Z x3 x4 := ⟨hF.bn h.1, hF.bk h.2.1, (hF.1 22 (by omega)).trans h.2.2.1, (hF.1 4 (by omega)).trans h.2.2.2.1, (hF.1 6 (by omega)).trans h.2.2.2.2⟩
theorem en_clear (h : EN S x3 x4) : EN (s_P_clear S).2 x3 x4 := by
  rw [P_c]
  exact h.fr (b_clear h.1).1 (b_clear h.1).2
theorem en_press (h : EN S x3 x4) : EN (s_P_pressure S a).2 x3 x4 := by
  rw [P_r]
  exact h.fr (b_press h.1).1 (b_press h.1).2
theorem en_wheel (h : EN S x3 x4) : EN (s_P_wheel S a).2 x3 x4 := by
  rw [P_w]
  exact h.fr (b_wheel h.1).1 (b_wheel h.1).2.1
theorem law_380 (h : EN Z x3 x4) : (s_L_law_b380 xs L Z x3 x4 1).1 = 1 := by
  obtain ⟨a1, a2⟩ := areSets_1 (S := Z) (x1 := s_L_cell xs L 1)
  rw [s_L_law_b380, if_neg (by decide), if_neg (by rw [isTrain_1 h.1]; decide), if_neg (by rw [a1]; decide)]
  have hE := en_wheel (a := 77) (en_press (a := 0) (en_clear (h.fs a2)))
  generalize (s_P_wheel (s_P_pressure (s_P_clear (s_L_areSets Z (s_L_cell xs L (1 : Int32))).2).2 (0 : Int32)).2 (77 : Int32)).2 = Y at hE ⊢
  obtain ⟨u1, u2, u3⟩ := undo_2 hE.2.1 hE.2.2.1
  generalize s_P_undo Y = r at u1 u2 u3 ⊢
  rw [if_pos (u1.trans hE.2.2.2.1), if_pos ((cnt_1.trans u3).trans hE.2.2.2.2), if_pos ((cnt_0.trans u2).trans hE.2.2.2.1)]
theorem pass285 (hB : BN Z) {kk : St → Int32 → Int32 → Int32 → Int32 → Int32 × St} (hw : wl Z x6) : ∀ (n : Nat) (x7 : Int32), UP n (Z.1 0) x7 → s_L_law_b285 xs L kk n Z (Z.1 0) x4 x5 x6 x7 = kk Z (Z.1 0) x4 x5 (x6 + 1) := by
  intro n
  induction n with
  | zero => intro x7 h; exact absurd h UP_z
  | succ n ih =>
    intro x7 h
    rw [s_L_law_b285]
    by_cases c : Z.1 0 ≤ x7
    · rw [if_pos c]
    · have h7 : wl Z x7 := ⟨h.2.2, by rw [le32] at c; omega⟩
      rw [if_neg c, if_neg (by rw [isPair_1 hB hw h7]; decide)]
      exact ih (x7 + 1) (UP_up h c)
theorem law_253 (h : EN Z (Z.1 0) (Z.1 2)) : ∀ (n : Nat) (x5 x6 : Int32), UP n (Z.1 0) x6 → x6.toInt ≤ (Z.1 0).toInt → x5.toInt = (sP (Z.2.1 2) (Z.2.1 3) (Z.1 2).toInt.toNat x6.toInt.toNat : Nat) → (s_L_law_b253 xs L n Z (Z.1 0) (Z.1 2) x5 x6).1 = 1 := by
  have hB := h.1
  have h0 := hB.1
  have h2 := hB.2.2.1
  have e2 : (2 : Int32).toInt = 2 := by decide
  obtain ⟨sa, sw⟩ := sP_all (f := Z.2.1 2) (g := Z.2.1 3) (n := (Z.1 0).toInt.toNat) (by omega) (Z.1 2).toInt.toNat (fun k hk => by
    obtain ⟨p1, p2, p3, -⟩ := hB.2.2.2.2.2.2 k (by omega)
    exact ⟨⟨p1.1, by omega⟩, ⟨p2.1, by omega⟩, p3⟩)
  intro n
  induction n with
  | zero => intro x5 x6 hu; exact absurd hu UP_z
  | succ n ih =>
    intro x5 x6 hu h6 h5
    have x0 := hu.2.2
    rw [s_L_law_b253]
    by_cases c : Z.1 0 ≤ x6
    · rw [if_pos c]
      rw [le32] at c
      rw [show x6.toInt = (Z.1 0).toInt by omega, sa] at h5
      have e5 : x5 = (2 : Int32) * Z.1 2 := by
        rw [eq32, i32_mul (by rw [e2]; omega) (by rw [e2]; omega), e2, h5]; omega
      rw [if_pos e5]
      have hE := h.gx (g_row (S := Z) (a := 0) (b := 20)).1
      have hk0 : (s_P_row Z 0 20).2.1 0 = Z.1 0 := (g_row (S := Z) (a := 0) (b := 20)).1.1 0 (by omega)
      have h16 := row_1 (Z := Z)
      generalize (s_P_row Z 0 20).2 = Y at hE hk0 h16 ⊢
      obtain ⟨l1, l2, l3, l4⟩ := lay_1 hE.1 h16
      have hE' := hE.gx (g_lay (S := Y) (a := 0)).1
      rw [if_pos (l1.trans hk0)]
      have k0 : (s_P_lay Y 0).2.1 0 = Z.1 0 := by rw [l2]; exact hk0
      have k16 : (s_P_lay Y 0).2.1 16 = 20 := by rw [l2]; exact h16
      have hr : ∀ k : Nat, (k : Int) < ((s_P_lay Y 0).2.1 0).toInt → (s_P_lay Y 0).2.2.2 0 k = ((s_P_lay Y 0).2.2.1 0 k).toInt64 := fun k hk => by
        rw [l3]; exact l4 k (by rw [hk0]; rw [k0] at hk; exact hk)
      generalize (s_P_lay Y 0).2 = V at hE' k0 k16 hr ⊢
      rw [if_pos ((jud_1 hE'.1 k16 hr).trans k0)]
      have w1 := wheels_02 hE'.1
      have w2 := (wheels_b (k := 3) hE'.1 (by decide)).2
      rw [k0] at w1 w2
      rw [if_neg (by rw [lt32]; omega), if_neg (by rw [lt32]; omega)]
      exact law_380 hE'
    · rw [if_neg c]
      have hu' := UP_up hu c
      rw [le32] at c
      have hw : wl Z x6 := ⟨x0, by omega⟩
      have es : (x6 + 1).toInt = x6.toInt + 1 := i32_suc (by omega)
      have et : (x6 + 1).toInt.toNat = x6.toInt.toNat + 1 := by rw [es]; omega
      rw [if_neg (by rw [isWheel_1 hB hw]; decide), pass285 hB hw _ 0 (UP_in (by decide))]
      refine ih (x5 + s_P_of Z x6 5) (x6 + 1) hu' (by omega) ?_
      have j := sw (x6.toInt.toNat + 1) (by omega)
      rw [sP] at j
      have ew : nI x6.toInt.toNat = x6 := by
        rw [eq32, nI_toInt (by omega)]; omega
      rw [ew] at j
      have e := pw_1 hB x6
      rw [of_5 hB hw, i32_add (by rw [h5, e]; omega) (by rw [h5, e]; omega), et, sP, ew, h5, e]
      omega
theorem law_true (hI : Inv S) : (s_L_law xs L S).1 = 1 := by
  have fin : ∀ Z : St, Inv Z → (s_L_law_b253 xs L ((s_P_image Z).1.toInt.toNat + 1) (s_P_image Z).2 (s_P_image Z).1 (s_P_count (s_P_image Z).2 (1 : Int32)) (0 : Int32) (0 : Int32)).1 = 1 := by
    intro Z hZ
    obtain ⟨w1, w2, w3, w4, w5, w6, w7⟩ := image_1 hZ.1
    rw [w5, cnt_1]
    generalize (s_P_image Z).2 = Y at w1 w2 w3 w6 w7 ⊢
    refine law_253 ⟨w1, w2, w3, w6, w7⟩ _ 0 0 (UP_in (by decide)) (by rw [z32]; exact w1.1.1) ?_
    rw [z32]; rfl
  have go : ∀ t : Int32, (s_L_law_b22 xs L S t).1 = 1 := fun t => by
    rw [s_L_law_b22]
    exact law_25 fin _ S 0 (UP_in (by decide)) hI
  rw [s_L_law]
  split
  · exact go _
  · exact go _
end l1
