/-! copies of a bench, in the class and in the reference -/
def CM (t u : Nat) (M F : St) : Prop := F.1 = M.1 ∧ (∀ r : Nat, r ≠ t → F.2.1 r = M.2.1 r) ∧ F.2.2 = M.2.2 ∧ ∀ k : Nat, k < 53 → F.2.1 t k = M.2.1 u k
def CI (t u : Nat) (M Z : St) (x : Int32) : Prop := Z.1 = M.1 ∧ (∀ r : Nat, r ≠ t → Z.2.1 r = M.2.1 r) ∧ Z.2.2 = M.2.2 ∧ ∀ k : Nat, (k : Int) < x.toInt → k < 53 → Z.2.1 t k = M.2.1 u k
theorem CI_up {t u : Nat} {M Z : St} {x : Int32} (ht : t ≠ u) (h : CI t u M Z x) (h0 : 0 ≤ x.toInt) (h1 : x.toInt < 53) : CI t u M (sA Z t x.toNatClampNeg (Z.2.1 u x.toNatClampNeg)) (x + 1) := by
  obtain ⟨a, b, c, d⟩ := h
  have hk := i32_tn h0
  have es : (x + 1).toInt = x.toInt + 1 := i32_suc (by omega)
  refine ⟨a, ?_, c, ?_⟩
  · intro r hr
    rw [← b r hr]
    show va_up Z.2.1 t _ r = Z.2.1 r
    rw [va_up, if_neg hr]
  · intro k k1 k2
    by_cases e : k = x.toNatClampNeg
    · subst e
      rw [sA_rs, b u (fun q => ht q.symm)]
    · rw [sA_rd e]
      exact d k (by omega) k2
theorem cp_g_kept {M : St} : CM 1 0 M (s_M_copies_g_kept M) := by
  have go : ∀ (n : Nat) (Z : St) (x : Int32), 0 ≤ x.toInt → x.toInt ≤ 53 → 54 ≤ x.toInt + n → CI 1 0 M Z x → CM 1 0 M (s_M_copies_g_kept_b2 n Z x) := by
    intro n
    have e53 : (53 : Int32).toInt = 53 := by decide
    induction n with
    | zero => intro Z x h0 h1 h2 _; omega
    | succ n ih =>
      intro Z x h0 h1 h2 h
      rw [s_M_copies_g_kept_b2]
      by_cases c : (53 : Int32) ≤ x
      · rw [if_pos c]
        rw [le32, e53] at c
        exact ⟨h.1, h.2.1, h.2.2.1, fun k hk => h.2.2.2 k (by omega) hk⟩
      · rw [if_neg c]
        rw [le32, e53] at c
        have es : (x + 1).toInt = x.toInt + 1 := i32_suc (by omega)
        exact ih _ _ (by omega) (by omega) (by omega) (CI_up (by decide) h h0 (by omega))
  rw [s_M_copies_g_kept]
  exact go 54 M 0 (by decide) (by decide) (by decide) ⟨rfl, fun _ _ => rfl, rfl, fun k k1 k2 => by rw [z32] at k1; omega⟩
theorem cp_kept_g {M : St} : CM 0 1 M (s_M_copies_kept_g M) := by
  have go : ∀ (n : Nat) (Z : St) (x : Int32), 0 ≤ x.toInt → x.toInt ≤ 53 → 54 ≤ x.toInt + n → CI 0 1 M Z x → CM 0 1 M (s_M_copies_kept_g_b2 n Z x) := by
    intro n
    have e53 : (53 : Int32).toInt = 53 := by decide
    induction n with
    | zero => intro Z x h0 h1 h2 _; omega
    | succ n ih =>
      intro Z x h0 h1 h2 h
      rw [s_M_copies_kept_g_b2]
      by_cases c : (53 : Int32) ≤ x
      · rw [if_pos c]
        rw [le32, e53] at c
        exact ⟨h.1, h.2.1, h.2.2.1, fun k hk => h.2.2.2 k (by omega) hk⟩
      · rw [if_neg c]
        rw [le32, e53] at c
        have es : (x + 1).toInt = x.toInt + 1 := i32_suc (by omega)
        exact ih _ _ (by omega) (by omega) (by omega) (CI_up (by decide) h h0 (by omega))
  rw [s_M_copies_kept_g]
  exact go 54 M 0 (by decide) (by decide) (by decide) ⟨rfl, fun _ _ => rfl, rfl, fun k k1 k2 => by rw [z32] at k1; omega⟩
theorem cp_g_ahead {M : St} : CM 2 0 M (s_M_copies_g_ahead M) := by
  have go : ∀ (n : Nat) (Z : St) (x : Int32), 0 ≤ x.toInt → x.toInt ≤ 53 → 54 ≤ x.toInt + n → CI 2 0 M Z x → CM 2 0 M (s_M_copies_g_ahead_b2 n Z x) := by
    intro n
    have e53 : (53 : Int32).toInt = 53 := by decide
    induction n with
    | zero => intro Z x h0 h1 h2 _; omega
    | succ n ih =>
      intro Z x h0 h1 h2 h
      rw [s_M_copies_g_ahead_b2]
      by_cases c : (53 : Int32) ≤ x
      · rw [if_pos c]
        rw [le32, e53] at c
        exact ⟨h.1, h.2.1, h.2.2.1, fun k hk => h.2.2.2 k (by omega) hk⟩
      · rw [if_neg c]
        rw [le32, e53] at c
        have es : (x + 1).toInt = x.toInt + 1 := i32_suc (by omega)
        exact ih _ _ (by omega) (by omega) (by omega) (CI_up (by decide) h h0 (by omega))
  rw [s_M_copies_g_ahead]
  exact go 54 M 0 (by decide) (by decide) (by decide) ⟨rfl, fun _ _ => rfl, rfl, fun k k1 k2 => by rw [z32] at k1; omega⟩
theorem cp_ahead_g {M : St} : CM 0 2 M (s_M_copies_ahead_g M) := by
  have go : ∀ (n : Nat) (Z : St) (x : Int32), 0 ≤ x.toInt → x.toInt ≤ 53 → 54 ≤ x.toInt + n → CI 0 2 M Z x → CM 0 2 M (s_M_copies_ahead_g_b2 n Z x) := by
    intro n
    have e53 : (53 : Int32).toInt = 53 := by decide
    induction n with
    | zero => intro Z x h0 h1 h2 _; omega
    | succ n ih =>
      intro Z x h0 h1 h2 h
      rw [s_M_copies_ahead_g_b2]
      by_cases c : (53 : Int32) ≤ x
      · rw [if_pos c]
        rw [le32, e53] at c
        exact ⟨h.1, h.2.1, h.2.2.1, fun k hk => h.2.2.2 k (by omega) hk⟩
      · rw [if_neg c]
        rw [le32, e53] at c
        have es : (x + 1).toInt = x.toInt + 1 := i32_suc (by omega)
        exact ih _ _ (by omega) (by omega) (by omega) (CI_up (by decide) h h0 (by omega))
  rw [s_M_copies_ahead_g]
  exact go 54 M 0 (by decide) (by decide) (by decide) ⟨rfl, fun _ _ => rfl, rfl, fun k k1 k2 => by rw [z32] at k1; omega⟩
/-- one row of the class copied -/
def CP (i j : Nat) (S F : St) : Prop := F.1 i = S.1 j ∧ (∀ k : Nat, (k : Int) < (S.1 j).toInt → F.2.1 i k = S.2.1 j k) ∧ (∀ l : Nat, l ≠ i → F.1 l = S.1 l) ∧ (∀ r : Nat, r ≠ i → F.2.1 r = S.2.1 r) ∧ F.2.2 = S.2.2
theorem bec_b {i j : Nat} {S : St} (hij : i ≠ j) (hb : (S.1 j).toInt ≤ (cap i : Int)) (hc : (S.1 j).toInt ≤ (cap j : Int)) : ∀ (n : Nat) (Z : St) (x : Int32), UP n (S.1 j) x → x.toInt ≤ (S.1 j).toInt → Z.1 i = x → (∀ k : Nat, (k : Int) < x.toInt → Z.2.1 i k = S.2.1 j k) → (∀ l : Nat, l ≠ i → Z.1 l = S.1 l) → (∀ r : Nat, r ≠ i → Z.2.1 r = S.2.1 r) → Z.2.2 = S.2.2 → CP i j S (s_N_become_b6 i j n Z x) := by
  intro n
  induction n with
  | zero => intro Z x h; exact absurd h UP_z
  | succ n ih =>
    intro Z x h hx e1 e2 e3 e4 e5
    rw [s_N_become_b6, s_N_size, e3 j hij.symm]
    by_cases c : S.1 j ≤ x
    · rw [if_pos c]
      have c1 := c
      rw [le32] at c1
      refine ⟨?_, fun k hk => e2 k (by omega), e3, e4, e5⟩
      rw [e1]
      exact eq32.mpr (by omega)
    · rw [if_neg c]
      have c1 := c
      rw [le32] at c1
      have h0 := h.2.2
      have hcap := cap_lt i
      have hk := i32_tn h0
      have es : (x + 1).toInt = x.toInt + 1 := i32_suc (by omega)
      have ea : s_N_at Z j x = S.2.1 j x.toNatClampNeg := by rw [at_in h0 (by rw [e3 j hij.symm]; omega) (by omega), e4 j hij.symm]
      rw [ea, N_add_go (S := Z) (i := i) (by rw [e1]; exact h0) (by rw [e1]; omega), e1]
      refine ih _ _ (UP_up h c) (by omega) (by show upd Z.1 i (x + 1) i = x + 1; rw [upd_eq]) ?_ ?_ ?_ e5
      · intro k hk1
        by_cases e : k = x.toNatClampNeg
        · subst e
          show (sA Z i x.toNatClampNeg (S.2.1 j x.toNatClampNeg)).2.1 i x.toNatClampNeg = _
          rw [sA_rs]
        · show (sA Z i x.toNatClampNeg (S.2.1 j x.toNatClampNeg)).2.1 i k = _
          rw [sA_rd e]
          exact e2 k (by omega)
      · intro l hl
        show upd Z.1 i (x + 1) l = S.1 l
        rw [upd_ne hl]; exact e3 l hl
      · intro r hr
        show va_up Z.2.1 i _ r = S.2.1 r
        rw [va_up, if_neg hr]; exact e4 r hr
theorem bec {i j : Nat} {S : St} (hij : i ≠ j) (h0 : 0 ≤ (S.1 j).toInt) (hb : (S.1 j).toInt ≤ (cap i : Int)) (hc : (S.1 j).toInt ≤ (cap j : Int)) : CP i j S (s_N_become S i j) := by
  rw [s_N_become]
  refine bec_b hij hb hc _ _ 0 (UP_in (by decide)) (by rw [z32]; exact h0) (by show upd S.1 i 0 i = 0; rw [upd_eq]) (fun k hk => by rw [z32] at hk; omega) (fun l hl => by show upd S.1 i 0 l = S.1 l; rw [upd_ne hl]) (fun _ _ => rfl) rfl
/-- the four rows and the pressure -/
def C4 (t u p q : Nat) (S F : St) : Prop := (F.1 t = S.1 u ∧ F.1 (t + 1) = S.1 (u + 1) ∧ F.1 (t + 2) = S.1 (u + 2) ∧ F.1 (t + 3) = S.1 (u + 3) ∧ F.1 p = S.1 q) ∧
  ((∀ k : Nat, (k : Int) < (S.1 u).toInt → F.2.1 t k = S.2.1 u k) ∧ (∀ k : Nat, (k : Int) < (S.1 (u + 1)).toInt → F.2.1 (t + 1) k = S.2.1 (u + 1) k) ∧ (∀ k : Nat, (k : Int) < (S.1 (u + 2)).toInt → F.2.1 (t + 2) k = S.2.1 (u + 2) k) ∧ ∀ k : Nat, (k : Int) < (S.1 (u + 3)).toInt → F.2.1 (t + 3) k = S.2.1 (u + 3) k) ∧
  (∀ l : Nat, (l < t ∨ t + 3 < l) → l ≠ p → F.1 l = S.1 l) ∧ (∀ r : Nat, (r < t ∨ t + 3 < r) → F.2.1 r = S.2.1 r) ∧ F.2.2 = S.2.2
theorem become4 {t u p q : Nat} {S : St} (htu : t + 3 < u ∨ u + 3 < t) (hp : t + 3 < p ∧ u + 3 < p) (hq : t + 3 < q)
    (z0 : 0 ≤ (S.1 u).toInt ∧ (S.1 u).toInt ≤ (cap t : Int) ∧ (S.1 u).toInt ≤ (cap u : Int)) (z1 : 0 ≤ (S.1 (u + 1)).toInt ∧ (S.1 (u + 1)).toInt ≤ (cap (t + 1) : Int) ∧ (S.1 (u + 1)).toInt ≤ (cap (u + 1) : Int)) (z2 : 0 ≤ (S.1 (u + 2)).toInt ∧ (S.1 (u + 2)).toInt ≤ (cap (t + 2) : Int) ∧ (S.1 (u + 2)).toInt ≤ (cap (u + 2) : Int)) (z3 : 0 ≤ (S.1 (u + 3)).toInt ∧ (S.1 (u + 3)).toInt ≤ (cap (t + 3) : Int) ∧ (S.1 (u + 3)).toInt ≤ (cap (u + 3) : Int)) :
    C4 t u p q S (sV (s_N_become (s_N_become (s_N_become (s_N_become S t u) (t + 1) (u + 1)) (t + 2) (u + 2)) (t + 3) (u + 3)) p ((s_N_become (s_N_become (s_N_become (s_N_become S t u) (t + 1) (u + 1)) (t + 2) (u + 2)) (t + 3) (u + 3)).1 q)) := by
  have h0 := bec (S := S) (i := t) (j := u) (by omega) z0.1 z0.2.1 z0.2.2
  generalize s_N_become S t u = F0 at h0 ⊢
  obtain ⟨a1, a2, a3, a4, a5⟩ := h0
  have y1 : F0.1 (u + 1) = S.1 (u + 1) := a3 _ (by omega)
  have h1 := bec (S := F0) (i := t + 1) (j := u + 1) (by omega) (by rw [y1]; exact z1.1) (by rw [y1]; exact z1.2.1) (by rw [y1]; exact z1.2.2)
  generalize s_N_become F0 (t + 1) (u + 1) = F1 at h1 ⊢
  obtain ⟨b1, b2, b3, b4, b5⟩ := h1
  have y2 : F1.1 (u + 2) = S.1 (u + 2) := (b3 _ (by omega)).trans (a3 _ (by omega))
  have h2 := bec (S := F1) (i := t + 2) (j := u + 2) (by omega) (by rw [y2]; exact z2.1) (by rw [y2]; exact z2.2.1) (by rw [y2]; exact z2.2.2)
  generalize s_N_become F1 (t + 2) (u + 2) = F2 at h2 ⊢
  obtain ⟨c1, c2, c3, c4, c5⟩ := h2
  have y3 : F2.1 (u + 3) = S.1 (u + 3) := (c3 _ (by omega)).trans ((b3 _ (by omega)).trans (a3 _ (by omega)))
  have h3 := bec (S := F2) (i := t + 3) (j := u + 3) (by omega) (by rw [y3]; exact z3.1) (by rw [y3]; exact z3.2.1) (by rw [y3]; exact z3.2.2)
  generalize s_N_become F2 (t + 3) (u + 3) = F3 at h3 ⊢
  obtain ⟨d1, d2, d3, d4, d5⟩ := h3
  refine ⟨⟨?_, ?_, ?_, ?_, ?_⟩, ⟨?_, ?_, ?_, ?_⟩, ?_, ?_, ?_⟩
  · show upd F3.1 p _ t = _
    rw [upd_ne (by omega), d3 _ (by omega), c3 _ (by omega), b3 _ (by omega), a1]
  · show upd F3.1 p _ (t + 1) = _
    rw [upd_ne (by omega), d3 _ (by omega), c3 _ (by omega), b1, y1]
  · show upd F3.1 p _ (t + 2) = _
    rw [upd_ne (by omega), d3 _ (by omega), c1, y2]
  · show upd F3.1 p _ (t + 3) = _
    rw [upd_ne (by omega), d1, y3]
  · show upd F3.1 p _ p = _
    rw [upd_eq, d3 _ (by omega), c3 _ (by omega), b3 _ (by omega), a3 _ (by omega)]
  · intro k hk
    show F3.2.1 t k = _
    rw [d4 _ (by omega), c4 _ (by omega), b4 _ (by omega)]
    exact a2 k hk
  · intro k hk
    show F3.2.1 (t + 1) k = _
    rw [d4 _ (by omega), c4 _ (by omega), b2 k (by rw [y1]; exact hk), a4 _ (by omega)]
  · intro k hk
    show F3.2.1 (t + 2) k = _
    rw [d4 _ (by omega), c2 k (by rw [y2]; exact hk), b4 _ (by omega), a4 _ (by omega)]
  · intro k hk
    show F3.2.1 (t + 3) k = _
    rw [d2 k (by rw [y3]; exact hk), c4 _ (by omega), b4 _ (by omega), a4 _ (by omega)]
  · intro l hl hlp
    show upd F3.1 p _ l = _
    rw [upd_ne hlp, d3 _ (by omega), c3 _ (by omega), b3 _ (by omega), a3 _ (by omega)]
  · intro r hr
    show F3.2.1 r = _
    rw [d4 _ (by omega), c4 _ (by omega), b4 _ (by omega), a4 _ (by omega)]
  · show F3.2.2 = _
    rw [d5, c5, b5, a5]
theorem C4.br {t u p q : Nat} {S F : St} {g g' : Nat → Int32} (h : C4 t u p q S F) (hB : BR (S.1 u) (S.1 (u + 1)) (S.1 (u + 2)) (S.1 (u + 3)) (S.1 q) (S.2.1 u) (S.2.1 (u + 1)) (S.2.1 (u + 2)) (S.2.1 (u + 3)) g) (hg : ∀ k : Nat, k < 53 → g' k = g k) : BR (F.1 t) (F.1 (t + 1)) (F.1 (t + 2)) (F.1 (t + 3)) (F.1 p) (F.2.1 t) (F.2.1 (t + 1)) (F.2.1 (t + 2)) (F.2.1 (t + 3)) g' := by
  obtain ⟨⟨e0, e1, e2, e3, e4⟩, ⟨d0, d1, d2, d3⟩, -⟩ := h
  exact BR_copy hB e0 e1 e2 e3 e4 hg d0 d1 d2 d3
theorem bc_10 {S M : St} (hB : BN S M) : C4 4 0 20 19 S (s_B_become_10 S) := by
  have hG := hB.1
  have b1 := hG.1
  have b2 := hG.2.2.1
  obtain ⟨e0, e1, e2, e3, -⟩ := hB.2.1
  have c0 : (cap 0 : Int) = 16 ∧ (cap 1 : Int) = 16 ∧ (cap 2 : Int) = 9 ∧ (cap 3 : Int) = 9 := by decide
  have c4 : (cap 4 : Int) = 16 ∧ (cap 5 : Int) = 16 ∧ (cap 6 : Int) = 9 ∧ (cap 7 : Int) = 9 := by decide
  have c8 : (cap 8 : Int) = 16 ∧ (cap 9 : Int) = 16 ∧ (cap 10 : Int) = 9 ∧ (cap 11 : Int) = 9 := by decide
  exact become4 (t := 4) (u := 0) (p := 20) (q := 19) (by omega) (by omega) (by omega) (by rw [e0]; omega) (by show 0 ≤ (S.1 1).toInt ∧ (S.1 1).toInt ≤ (cap 5 : Int) ∧ (S.1 1).toInt ≤ (cap 1 : Int); rw [e1]; omega) (by show 0 ≤ (S.1 2).toInt ∧ (S.1 2).toInt ≤ (cap 6 : Int) ∧ (S.1 2).toInt ≤ (cap 2 : Int); rw [e2]; omega) (by show 0 ≤ (S.1 3).toInt ∧ (S.1 3).toInt ≤ (cap 7 : Int) ∧ (S.1 3).toInt ≤ (cap 3 : Int); rw [e3]; omega)
theorem bc_01 {S M : St} (hB : BK S M) : C4 0 4 19 20 S (s_B_become_01 S) := by
  have hG := hB.1
  have b1 := hG.1
  have b2 := hG.2.2.1
  obtain ⟨e0, e1, e2, e3, -⟩ := hB.2.1
  have c0 : (cap 0 : Int) = 16 ∧ (cap 1 : Int) = 16 ∧ (cap 2 : Int) = 9 ∧ (cap 3 : Int) = 9 := by decide
  have c4 : (cap 4 : Int) = 16 ∧ (cap 5 : Int) = 16 ∧ (cap 6 : Int) = 9 ∧ (cap 7 : Int) = 9 := by decide
  have c8 : (cap 8 : Int) = 16 ∧ (cap 9 : Int) = 16 ∧ (cap 10 : Int) = 9 ∧ (cap 11 : Int) = 9 := by decide
  exact become4 (t := 0) (u := 4) (p := 19) (q := 20) (by omega) (by omega) (by omega) (by rw [e0]; omega) (by show 0 ≤ (S.1 5).toInt ∧ (S.1 5).toInt ≤ (cap 1 : Int) ∧ (S.1 5).toInt ≤ (cap 5 : Int); rw [e1]; omega) (by show 0 ≤ (S.1 6).toInt ∧ (S.1 6).toInt ≤ (cap 2 : Int) ∧ (S.1 6).toInt ≤ (cap 6 : Int); rw [e2]; omega) (by show 0 ≤ (S.1 7).toInt ∧ (S.1 7).toInt ≤ (cap 3 : Int) ∧ (S.1 7).toInt ≤ (cap 7 : Int); rw [e3]; omega)
theorem bc_20 {S M : St} (hB : BN S M) : C4 8 0 21 19 S (s_B_become_20 S) := by
  have hG := hB.1
  have b1 := hG.1
  have b2 := hG.2.2.1
  obtain ⟨e0, e1, e2, e3, -⟩ := hB.2.1
  have c0 : (cap 0 : Int) = 16 ∧ (cap 1 : Int) = 16 ∧ (cap 2 : Int) = 9 ∧ (cap 3 : Int) = 9 := by decide
  have c4 : (cap 4 : Int) = 16 ∧ (cap 5 : Int) = 16 ∧ (cap 6 : Int) = 9 ∧ (cap 7 : Int) = 9 := by decide
  have c8 : (cap 8 : Int) = 16 ∧ (cap 9 : Int) = 16 ∧ (cap 10 : Int) = 9 ∧ (cap 11 : Int) = 9 := by decide
  exact become4 (t := 8) (u := 0) (p := 21) (q := 19) (by omega) (by omega) (by omega) (by rw [e0]; omega) (by show 0 ≤ (S.1 1).toInt ∧ (S.1 1).toInt ≤ (cap 9 : Int) ∧ (S.1 1).toInt ≤ (cap 1 : Int); rw [e1]; omega) (by show 0 ≤ (S.1 2).toInt ∧ (S.1 2).toInt ≤ (cap 10 : Int) ∧ (S.1 2).toInt ≤ (cap 2 : Int); rw [e2]; omega) (by show 0 ≤ (S.1 3).toInt ∧ (S.1 3).toInt ≤ (cap 11 : Int) ∧ (S.1 3).toInt ≤ (cap 3 : Int); rw [e3]; omega)
theorem bc_02 {S M : St} (hB : BA S M) : C4 0 8 19 21 S (s_B_become_02 S) := by
  have hG := hB.1
  have b1 := hG.1
  have b2 := hG.2.2.1
  obtain ⟨e0, e1, e2, e3, -⟩ := hB.2.1
  have c0 : (cap 0 : Int) = 16 ∧ (cap 1 : Int) = 16 ∧ (cap 2 : Int) = 9 ∧ (cap 3 : Int) = 9 := by decide
  have c4 : (cap 4 : Int) = 16 ∧ (cap 5 : Int) = 16 ∧ (cap 6 : Int) = 9 ∧ (cap 7 : Int) = 9 := by decide
  have c8 : (cap 8 : Int) = 16 ∧ (cap 9 : Int) = 16 ∧ (cap 10 : Int) = 9 ∧ (cap 11 : Int) = 9 := by decide
  exact become4 (t := 0) (u := 8) (p := 19) (q := 21) (by omega) (by omega) (by omega) (by rw [e0]; omega) (by show 0 ≤ (S.1 9).toInt ∧ (S.1 9).toInt ≤ (cap 1 : Int) ∧ (S.1 9).toInt ≤ (cap 9 : Int); rw [e1]; omega) (by show 0 ≤ (S.1 10).toInt ∧ (S.1 10).toInt ≤ (cap 2 : Int) ∧ (S.1 10).toInt ≤ (cap 10 : Int); rw [e2]; omega) (by show 0 ≤ (S.1 11).toInt ∧ (S.1 11).toInt ≤ (cap 3 : Int) ∧ (S.1 11).toInt ≤ (cap 11 : Int); rw [e3]; omega)
theorem q_image {S M : St} (h : Rel S M) : (s_P_image S).1 = (s_M_image M).1 ∧ Rel (s_P_image S).2 (s_M_image M).2 := by
  obtain ⟨hB, ⟨k1, k2⟩, ⟨t1, t2, t3⟩, hW⟩ := h
  have hc := bc_10 hB
  have hm := cp_g_kept (M := M)
  rw [s_P_image, s_M_image]
  generalize s_B_become_10 S = F at hc ⊢
  generalize s_M_copies_g_kept M = G at hm ⊢
  have hBK := hc.br (g' := G.2.1 1) hB hm.2.2.2
  obtain ⟨-, -, f1, f2, f3⟩ := hc
  obtain ⟨m1, m2, m3, -⟩ := hm
  have x1 : ∀ l : Nat, l < 4 ∨ 7 < l → l ≠ 20 → l ≠ 22 → (sV F 22 1).1 l = S.1 l := fun l a b c => by show upd F.1 22 1 l = _; rw [upd_ne c, f1 l (by omega) b]
  have x2 : ∀ l : Nat, l ≠ 0 → (sV G 0 1).1 l = M.1 l := fun l a => by show upd G.1 0 1 l = _; rw [upd_ne a, m1]
  have x3 : (sV G 0 1).1 0 = 1 := by show upd G.1 0 1 0 = _; rw [upd_eq]
  refine ⟨?_, ?_, ⟨?_, Or.inr ?_⟩, ⟨?_, ?_, ?_⟩, ?_⟩
  · show (sV F 22 1).1 0 = G.2.1 0 0
    rw [x1 0 (by omega) (by omega) (by omega), m2 0 (by omega)]; exact hB.2.1.1
  · exact hB.cg (x1 0 (by omega) (by omega) (by omega)) (x1 1 (by omega) (by omega) (by omega)) (x1 2 (by omega) (by omega) (by omega)) (x1 3 (by omega) (by omega) (by omega)) (x1 19 (by omega) (by omega) (by omega)) (f2 0 (by omega)) (f2 1 (by omega)) (f2 2 (by omega)) (f2 3 (by omega)) (m2 0 (by omega))
  · rw [x3]; show upd F.1 22 1 22 = _; rw [upd_eq]
  · exact hBK
  · rw [x1 12 (by omega) (by omega) (by omega), x2 4 (by omega)]; exact t1
  · rw [x2 4 (by omega)]; exact t2
  · intro k hk
    rw [x2 4 (by omega)] at hk
    show F.2.1 12 k = G.2.1 3 k
    rw [f2 12 (by omega), m2 3 (by omega)]; exact t3 k hk
  · intro r hr
    show (sV F 22 1).1 (16 + r) = G.2.1 7 r ∧ (-1 ≤ (G.2.1 7 r).toInt ∧ (G.2.1 7 r).toInt ≤ 20) ∧ ∀ k : Nat, k < 20 → F.2.2 r k = G.2.2 0 (20 * r + k)
    rw [x1 (16 + r) (by omega) (by omega) (by omega), m2 7 (by omega), f3, m3]
    exact hW r hr
theorem q_undo {S M : St} (h : Rel S M) : (s_P_undo S).1 = (s_M_undo M).1 ∧ Rel (s_P_undo S).2 (s_M_undo M).2 := by
  obtain ⟨hB, ⟨k1, k2⟩, ⟨t1, t2, t3⟩, hW⟩ := h
  rw [s_P_undo, s_M_undo, k1]
  by_cases c : M.1 0 = 0
  · rw [if_pos c, if_pos c]; exact ⟨rfl, hB, ⟨k1, k2⟩, ⟨t1, t2, t3⟩, hW⟩
  · rw [if_neg c, if_neg c]
    have hK := k2.resolve_left c
    have hc := bc_01 hK
    have hm := cp_kept_g (M := M)
    generalize s_B_become_01 S = F at hc ⊢
    generalize s_M_copies_kept_g M = G at hm ⊢
    have hBN := hc.br (g' := G.2.1 0) hK hm.2.2.2
    obtain ⟨-, -, x1, f2, f3⟩ := hc
    obtain ⟨m1, m2, m3, -⟩ := hm
    refine ⟨?_, hBN, ⟨?_, Or.inr ?_⟩, ⟨?_, ?_, ?_⟩, ?_⟩
    · exact hBN.2.1.1
    · rw [x1 22 (by omega) (by omega), m1]; exact k1
    · exact hK.cg (x1 4 (by omega) (by omega)) (x1 5 (by omega) (by omega)) (x1 6 (by omega) (by omega)) (x1 7 (by omega) (by omega)) (x1 20 (by omega) (by omega)) (f2 4 (by omega)) (f2 5 (by omega)) (f2 6 (by omega)) (f2 7 (by omega)) (m2 1 (by omega))
    · rw [x1 12 (by omega) (by omega), m1]; exact t1
    · rw [m1]; exact t2
    · intro k hk
      rw [m1] at hk
      rw [f2 12 (by omega), m2 3 (by omega)]; exact t3 k hk
    · intro r hr
      rw [x1 (16 + r) (by omega) (by omega), m2 7 (by omega), f3, m3]
      exact hW r hr
