/-! an act, side by side -/
section ac
variable {S M Z Y : St} {n x c b a : Int32}
/-- the reference goes no more: its place stays -/
def FZ (a : Int32) (Y : St) : Prop := Y.1 6 = 0 ∧ Y.1 5 = a
theorem FZ_takes (h : FZ a Y) : FZ a (s_M_takes Y c) := by
  rw [s_M_takes, if_pos h.1]
  refine ⟨?_, ?_⟩
  · rw [sV_ne (by omega), sV_eq]
  · rw [sV_eq, add_0]; exact h.2
theorem FZ_number (h : FZ a Y) : FZ a (s_M_number Y b).2 := by
  rw [s_M_number, if_pos h.1, if_pos h.1, s_M_number_b72, if_neg (by decide), if_pos sV_eq, s_M_number_b121, if_pos rfl]
  refine ⟨sV_eq, ?_⟩
  show (sV (sV Y 5 (Y.1 5 + 0)) 6 0).1 5 = a
  rw [sV_ne (by omega), sV_eq, add_0]; exact h.2
theorem FZ_sA {r k : Nat} (h : FZ a Y) : FZ a (sA Y r k x) := h
theorem FZ_140 (h : FZ a Y) {k : Int32} : FZ a (s_M_act_b140 Y b k) := by
  rw [s_M_act_b140]; exact FZ_sA (FZ_number h)
theorem FZ_117 (h : FZ a Y) {k : Int32} : FZ a (s_M_act_b117 Y k c) := by
  rw [s_M_act_b117]
  exact ite_P (P := fun q => FZ a q) (fun _ => FZ_140 (FZ_takes h)) (fun _ => FZ_140 (FZ_takes h))
theorem FZ_105 (h : FZ a Y) {k : Int32} : FZ a (s_M_act_b105 Y k c) := by
  rw [s_M_act_b105]
  exact ite_P (P := fun q => FZ a q) (fun _ => FZ_117 h) (fun _ => ite_P (P := fun q => FZ a q) (fun _ => FZ_117 h) (fun _ => h))
theorem FZ_101 (h : FZ a Y) {k k2 : Int32} : FZ a (s_M_act_b101 Y k c b k2) := by
  rw [s_M_act_b101]
  exact FZ_105 (FZ_sA (FZ_number h))
theorem FZ_41 {k : Int32} : FZ (Y.1 5) (s_M_act_b41 Y k c 0) := by
  have q : FZ (Y.1 5) (sV (sA (sV Y 6 0) 4 k.toNatClampNeg c) 5 (Y.1 5 + 0)) := by
    refine ⟨?_, ?_⟩
    · rw [sV_ne (by omega)]
      show (sV Y 6 0).1 6 = 0
      exact sV_eq
    · rw [sV_eq, add_0]
  rw [s_M_act_b41, if_pos rfl]
  exact ite_P (P := fun q => FZ (Y.1 5) q) (fun _ => FZ_105 q) (fun _ => ite_P (P := fun q => FZ (Y.1 5) q) (fun _ => FZ_101 (FZ_takes q)) (fun _ => FZ_101 (FZ_takes q)))
/-- what stands behind an act: refused by both at one place, or one more told by both -/
def RA (S M : St) (n : Int32) (q : Int32 × St) (Y : St) : Prop := (q.1 = 0 ∧ FX S q.2 ∧ q.2.1 23 = Y.1 5 ∧ Y.1 6 = 0) ∨ (q.1 = 1 ∧ PW S M (n + 1) q.2 Y ∧ ¬ Y.1 6 = 0)
def pu (A : St) (i : Nat) (n x : Int32) : St := sV (sA A i n.toNatClampNeg x) i (n + 1)
theorem pu_1 {A : St} {i j : Nat} (h : j ≠ i) : (pu A i n x).1 j = A.1 j := upd_ne h
theorem pu_e {A : St} {i : Nat} : (pu A i n x).1 i = n + 1 := upd_eq
theorem pu_r {A : St} {i r : Nat} (h : r ≠ i) : (pu A i n x).2.1 r = A.2.1 r := sA_o h
theorem pu_k {A : St} {i k : Nat} (h : k ≠ n.toNatClampNeg) : (pu A i n x).2.1 i k = A.2.1 i k := sA_rd h
theorem pu_m {A : St} {i : Nat} : (pu A i n x).2.1 i n.toNatClampNeg = x := sA_rs
theorem add_pu {A : St} {i : Nat} (h : A.1 i = n) (h0 : 0 ≤ n.toInt) (h1 : n.toInt < (cap i : Int)) : s_N_add A i x = pu A i n x := by
  rw [N_add_go (by rw [h]; exact h0) (by rw [h]; exact h1), h, pu]
theorem add3 {x1 x2 x3 : Int32} (h : PW S M n Z Y) (hn : 0 ≤ n.toInt ∧ n.toInt < 40) (g : ¬ Y.1 6 = 0) (i1 : IsL x1) (e1 : Y.2.1 4 n.toNatClampNeg = x1) (e2 : ¬ x1 = 120 → Y.2.1 5 n.toNatClampNeg = x2) (e3 : (x1 = 115 ∨ x1 = 116) → Y.2.1 6 n.toNatClampNeg = x3) : RA S M n (s_X_parseAct_b114 Z x1 x2 x3) Y := by
  obtain ⟨⟨f1, f2, f3⟩, a, t, p, ⟨l13, l14, l15⟩, l2⟩ := h
  obtain ⟨hn0, hn1⟩ := hn
  have hk := i32_tn hn0
  have c13 : (cap 13 : Int) = 40 := by decide
  have c14 : (cap 14 : Int) = 40 := by decide
  have c15 : (cap 15 : Int) = 40 := by decide
  have es : (n + 1).toInt = n.toInt + 1 := i32_suc (by omega)
  rw [s_X_parseAct_b114, add_pu l13 hn0 (by omega), add_pu (A := pu Z 13 n x1) ((pu_1 (by omega)).trans l14) hn0 (by omega), add_pu (A := pu (pu Z 13 n x1) 14 n x2) ((pu_1 (by omega)).trans ((pu_1 (by omega)).trans l15)) hn0 (by omega)]
  refine Or.inr ⟨rfl, ⟨⟨fun j hj => ?_, fun r hr => ?_, f3⟩, a, t, ?_, ⟨?_, ?_, ?_⟩, fun k hk1 => ?_⟩, g⟩
  · rw [pu_1 (by omega), pu_1 (by omega), pu_1 (by omega)]; exact f1 j hj
  · rw [pu_r (by omega), pu_r (by omega), pu_r (by omega)]; exact f2 r hr
  · rw [pu_1 (by omega), pu_1 (by omega), pu_1 (by omega)]; exact p
  · rw [pu_1 (by omega), pu_1 (by omega), pu_e]
  · rw [pu_1 (by omega), pu_e]
  · rw [pu_e]
  · rw [es] at hk1
    by_cases e : k = n.toNatClampNeg
    · subst e
      rw [e1]
      refine ⟨i1, ?_, fun q => ?_, fun q => ?_⟩
      · rw [pu_r (by omega), pu_r (by omega), pu_m]
      · rw [pu_r (by omega), pu_m, e2 q]
      · rw [pu_m, e3 q]
    · rw [pu_r (show 13 ≠ 15 by omega), pu_r (show 13 ≠ 14 by omega), pu_k e, pu_r (show 14 ≠ 15 by omega), pu_k e, pu_r (show 14 ≠ 13 by omega), pu_k e, pu_r (show 15 ≠ 14 by omega), pu_r (show 15 ≠ 13 by omega)]
      exact l2 k (by omega)
theorem num_row (t : TI Y) : (s_M_number Y b).2.2 = Y.2 := (NB_number t).2.1.1
theorem st140 {x1 x2 : Int32} (hT : TR S M) (h : PW S M n Z Y) (hn : 0 ≤ n.toInt ∧ n.toInt < 40) (g : ¬ Y.1 6 = 0) (i1 : IsL x1) (e1 : Y.2.1 4 n.toNatClampNeg = x1) (e2 : ¬ x1 = 120 → Y.2.1 5 n.toNatClampNeg = x2) : RA S M n (s_X_parseAct_b101 Z x1 x2 b) (s_M_act_b140 Y b n) := by
  have q := num_pw (b := b) hT h g
  have r := num_row (b := b) h.2.2.1
  rw [s_X_parseAct_b101, s_M_act_b140]
  generalize s_X_parseNumber Z b = U at q ⊢
  generalize s_M_number Y b = V at q r ⊢
  obtain ⟨q1 | q1, q2⟩ := q
  · rw [if_pos q1.1]
    exact Or.inl ⟨rfl, q2.1, q2.2.2.2.1, q1.2⟩
  · rw [if_neg (by rw [q1.1]; decide)]
    refine add3 (PW_row q2 hn.1 (Or.inr (Or.inr rfl))) hn q1.2.1 i1 ?_ (fun d => ?_) (fun _ => ?_)
    · rw [sA_o (by omega), r]; exact e1
    · rw [sA_o (by omega), r]; exact e2 d
    · rw [sA_rs]; exact q1.2.2.symm
theorem st117 {x1 x2 : Int32} (hT : TR S M) (h : PW S M n Z Y) (hn : 0 ≤ n.toInt ∧ n.toInt < 40) (g : ¬ Y.1 6 = 0) (i1 : IsL x1) (e1 : Y.2.1 4 n.toNatClampNeg = x1) (e2 : ¬ x1 = 120 → Y.2.1 5 n.toNatClampNeg = x2) : RA S M n (s_X_parseAct_b80 Z x1 x2) (s_M_act_b117 Y n x1) := by
  obtain ⟨q, q2, r⟩ := skip_pw (c := 44) hT h g (by decide)
  rw [s_X_parseAct_b80, s_M_act_b117]
  generalize s_X_skip Z 44 = U at q q2 ⊢
  generalize s_M_takes Y 44 = V at q q2 r ⊢
  rcases q with q1 | q1
  · rw [if_pos q1.1]
    have z : FZ (V.1 5) V := ⟨q1.2, rfl⟩
    by_cases d : x1 = 115
    · rw [if_pos d]
      have z2 := FZ_140 z (b := 1) (k := n)
      exact Or.inl ⟨rfl, q2.1, q2.2.2.2.1.trans z2.2.symm, z2.1⟩
    · rw [if_neg d]
      have z2 := FZ_140 z (b := 0) (k := n)
      exact Or.inl ⟨rfl, q2.1, q2.2.2.2.1.trans z2.2.symm, z2.1⟩
  · rw [if_neg (by rw [q1.1]; decide)]
    by_cases d : x1 = 115
    · rw [if_pos d, if_pos d]
      exact st140 hT q2 hn q1.2 i1 (by rw [r]; exact e1) (by rw [r]; exact e2)
    · rw [if_neg d, if_neg d]
      exact st140 hT q2 hn q1.2 i1 (by rw [r]; exact e1) (by rw [r]; exact e2)
theorem st105 {x1 x2 : Int32} (hT : TR S M) (h : PW S M n Z Y) (hn : 0 ≤ n.toInt ∧ n.toInt < 40) (g : ¬ Y.1 6 = 0) (i1 : IsL x1) (e1 : Y.2.1 4 n.toNatClampNeg = x1) (e2 : ¬ x1 = 120 → Y.2.1 5 n.toNatClampNeg = x2) : RA S M n (s_X_parseAct_b68 Z x1 x2 0) (s_M_act_b105 Y n x1) := by
  rw [s_X_parseAct_b68, s_M_act_b105]
  by_cases c1 : x1 = 115
  · rw [if_pos c1, if_pos c1]; exact st117 hT h hn g i1 e1 e2
  · rw [if_neg c1, if_neg c1]
    by_cases c2 : x1 = 116
    · rw [if_pos c2, if_pos c2]; exact st117 hT h hn g i1 e1 e2
    · rw [if_neg c2, if_neg c2]
      exact add3 h hn g i1 e1 e2 (fun q => absurd q (by rintro (q | q) <;> contradiction))
theorem st101 {x1 : Int32} (hT : TR S M) (h : PW S M n Z Y) (hn : 0 ≤ n.toInt ∧ n.toInt < 40) (g : ¬ Y.1 6 = 0) (i1 : IsL x1) (e1 : Y.2.1 4 n.toNatClampNeg = x1) : RA S M n (s_X_parseAct_b55 Z x1 0 b) (s_M_act_b101 Y n x1 b n) := by
  have q := num_pw (b := b) hT h g
  have r := num_row (b := b) h.2.2.1
  rw [s_X_parseAct_b55, s_M_act_b101]
  generalize s_X_parseNumber Z b = U at q ⊢
  generalize s_M_number Y b = V at q r ⊢
  obtain ⟨q1 | q1, q2⟩ := q
  · rw [if_pos q1.1]
    have z : FZ (V.2.1 5) (sA V.2 5 n.toNatClampNeg V.1) := ⟨q1.2, rfl⟩
    have z2 := FZ_105 z (c := x1) (k := n)
    exact Or.inl ⟨rfl, q2.1, q2.2.2.2.1.trans z2.2.symm, z2.1⟩
  · rw [if_neg (by rw [q1.1]; decide)]
    refine st105 hT (PW_row q2 hn.1 (Or.inr (Or.inl rfl))) hn q1.2.1 i1 ?_ (fun _ => ?_)
    · rw [sA_o (by omega), r]; exact e1
    · rw [sA_rs]; exact q1.2.2.symm
theorem st32 {x1 : Int32} (hT : TR S M) (h : PW S M n Z Y) (hn : 0 ≤ n.toInt ∧ n.toInt < 40) (g : ¬ Y.1 6 = 0) (i1 : IsL x1) (e1 : Y.2.1 4 n.toNatClampNeg = x1) : RA S M n (if (s_X_skip Z 32).1 = 0 then (0, (s_X_skip Z 32).2) else s_X_parseAct_b55 (s_X_skip Z 32).2 x1 0 b) (s_M_act_b101 (s_M_takes Y 32) n x1 b n) := by
  obtain ⟨q, q2, r⟩ := skip_pw (c := 32) hT h g (by decide)
  generalize s_X_skip Z 32 = U at q q2 ⊢
  generalize s_M_takes Y 32 = V at q q2 r ⊢
  rcases q with q1 | q1
  · rw [if_pos q1.1]
    have z : FZ (V.1 5) V := ⟨q1.2, rfl⟩
    have z2 := FZ_101 z (c := x1) (b := b) (k := n) (k2 := n)
    exact Or.inl ⟨rfl, q2.1, q2.2.2.2.1.trans z2.2.symm, z2.1⟩
  · rw [if_neg (by rw [q1.1]; decide)]
    exact st101 hT q2 hn q1.2 i1 (by rw [r]; exact e1)
theorem act_L (h : IsL (s_M_here Y)) : s_M_act Y n = s_M_act_b41 Y n (s_M_here Y) 1 := by
  rw [s_M_act]
  by_cases c1 : s_M_here Y = 119
  · rw [if_pos c1]
  rw [if_neg c1]
  by_cases c2 : s_M_here Y = 115
  · rw [if_pos c2]
  rw [if_neg c2]
  by_cases c3 : s_M_here Y = 112
  · rw [if_pos c3]
  rw [if_neg c3]
  by_cases c4 : s_M_here Y = 116
  · rw [if_pos c4]
  rw [if_neg c4]
  by_cases c5 : s_M_here Y = 120
  · rw [if_pos c5]
  unfold IsL at h
  rcases h with h | h | h | h | h <;> contradiction
theorem act_N (h : ¬ IsL (s_M_here Y)) : s_M_act Y n = s_M_act_b41 Y n (s_M_here Y) 0 := by
  unfold IsL at h
  rw [s_M_act, if_neg (fun q => h (Or.inl q)), if_neg (fun q => h (Or.inr (Or.inl q))), if_neg (fun q => h (Or.inr (Or.inr (Or.inl q)))), if_neg (fun q => h (Or.inr (Or.inr (Or.inr (Or.inl q))))), if_neg (fun q => h (Or.inr (Or.inr (Or.inr (Or.inr q)))))]
theorem isL_i : s_X_isLetter c = 0 ↔ ¬ IsL c := by
  rw [s_X_isLetter]
  unfold IsL
  by_cases c1 : c = 119
  · rw [if_pos c1]; exact iff_of_false (by decide) (fun q => q (Or.inl c1))
  rw [if_neg c1]
  by_cases c2 : c = 115
  · rw [if_pos c2]; exact iff_of_false (by decide) (fun q => q (Or.inr (Or.inl c2)))
  rw [if_neg c2]
  by_cases c3 : c = 112
  · rw [if_pos c3]; exact iff_of_false (by decide) (fun q => q (Or.inr (Or.inr (Or.inl c3))))
  rw [if_neg c3]
  by_cases c4 : c = 116
  · rw [if_pos c4]; exact iff_of_false (by decide) (fun q => q (Or.inr (Or.inr (Or.inr (Or.inl c4)))))
  rw [if_neg c4]
  by_cases c5 : c = 120
  · rw [if_pos c5]; exact iff_of_false (by decide) (fun q => q (Or.inr (Or.inr (Or.inr (Or.inr c5)))))
  rw [if_neg c5]
  refine iff_of_true rfl (fun q => ?_)
  rcases q with q | q | q | q | q <;> contradiction
theorem act_pw (hT : TR S M) (h : PW S M n Z Y) (hn : 0 ≤ n.toInt ∧ n.toInt < 40) : RA S M n (s_X_parseAct Z) (s_M_act Y n) := by
  rw [s_X_parseAct, next_pw hT h]
  by_cases hl : IsL (s_M_here Y)
  · rw [if_neg (fun q => isL_i.mp q hl), act_L hl]
    have hp : (Y.1 5).toInt < (Y.1 4).toInt := by
      refine here_lt rfl (fun q => ?_)
      rw [q] at hl
      revert hl; unfold IsL; decide
    have k1 : PW S M n (sV Z 23 (Z.1 23 + 1)) (sV (sA (sV Y 6 1) 4 n.toNatClampNeg (s_M_here Y)) 5 (Y.1 5 + 1)) := PW_1 (Y := sA (sV Y 6 1) 4 n.toNatClampNeg (s_M_here Y)) (PW_row (PW_6 h) hn.1 (Or.inl rfl)) hp
    have k2 : ¬ (sV (sA (sV Y 6 1) 4 n.toNatClampNeg (s_M_here Y)) 5 (Y.1 5 + 1)).1 6 = 0 := by
      rw [sV_ne (by omega)]
      show ¬ (sV Y 6 1).1 6 = 0
      rw [sV_eq]; decide
    have k3 : (sV (sA (sV Y 6 1) 4 n.toNatClampNeg (s_M_here Y)) 5 (Y.1 5 + 1)).2.1 4 n.toNatClampNeg = s_M_here Y := by
      show (sA (sV Y 6 1) 4 n.toNatClampNeg (s_M_here Y)).2.1 4 n.toNatClampNeg = s_M_here Y
      rw [sA_rs]
    rw [s_M_act_b41, if_neg (show ¬ (1 : Int32) = 0 by decide)]
    generalize sV (sA (sV Y 6 1) 4 n.toNatClampNeg (s_M_here Y)) 5 (Y.1 5 + 1) = V at k1 k2 k3 ⊢
    generalize sV Z 23 (Z.1 23 + 1) = U at k1 ⊢
    by_cases d : s_M_here Y = 120
    · rw [if_pos d, if_pos d]
      exact st105 hT k1 hn k2 hl k3 (fun q => absurd d q)
    · rw [if_neg d, if_neg d]
      by_cases d2 : s_M_here Y = 119
      · rw [if_pos d2, if_pos d2]
        exact st32 hT k1 hn k2 hl k3
      · rw [if_neg d2, if_neg d2]
        exact st32 hT k1 hn k2 hl k3
  · rw [if_pos (isL_i.mpr hl), act_N hl]
    have z := FZ_41 (Y := Y) (c := s_M_here Y) (k := n)
    exact Or.inl ⟨rfl, h.1, h.2.2.2.1.trans z.2.symm, z.1⟩
end ac
