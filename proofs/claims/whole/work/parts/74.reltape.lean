/-! feed; the tape's steps side by side -/
theorem Rel_g {S M S' M' : St} (h : Rel S M) (hT : TR S' M') (s1 : ∀ j : Nat, (j < 8 ∨ (16 ≤ j ∧ j < 21) ∨ j = 22) → S'.1 j = S.1 j) (s2 : ∀ r : Nat, r < 8 → S'.2.1 r = S.2.1 r) (s3 : S'.2.2 = S.2.2) (m1 : M'.1 0 = M.1 0) (m2 : ∀ r : Nat, (r < 2 ∨ r = 7) → M'.2.1 r = M.2.1 r) (m3 : M'.2.2 = M.2.2) : Rel S' M' := by
  obtain ⟨hB, ⟨k1, k2⟩, -, hW⟩ := h
  refine ⟨?_, ⟨?_, ?_⟩, hT, ?_⟩
  · exact hB.cg (s1 0 (by omega)) (s1 1 (by omega)) (s1 2 (by omega)) (s1 3 (by omega)) (s1 19 (by omega)) (s2 0 (by omega)) (s2 1 (by omega)) (s2 2 (by omega)) (s2 3 (by omega)) (m2 0 (by omega))
  · rw [s1 22 (by omega), m1]; exact k1
  · rw [m1]
    refine k2.imp (fun q => q) (fun q => ?_)
    exact q.cg (s1 4 (by omega)) (s1 5 (by omega)) (s1 6 (by omega)) (s1 7 (by omega)) (s1 20 (by omega)) (s2 4 (by omega)) (s2 5 (by omega)) (s2 6 (by omega)) (s2 7 (by omega)) (m2 1 (by omega))
  · intro r hr
    rw [s1 (16 + r) (by omega), m2 7 (by omega), s3, m3]
    exact hW r hr
theorem sA_o {A : St} {i m r : Nat} {x : Int32} (h : r ≠ i) : (sA A i m x).2.1 r = A.2.1 r := by
  show va_up A.2.1 i _ r = A.2.1 r
  rw [va_up, if_neg h]
theorem sA_k {A : St} {i m r k : Nat} {x : Int32} (h : k ≠ m) : (sA A i m x).2.1 r k = A.2.1 r k := by
  by_cases e : r = i
  · subst e; exact sA_rd h
  · rw [sA_o e]
section tp
variable {S M Z Y Z' Y' : St} {n x c b : Int32}
theorem q_feed (h : Rel S M) : (s_P_feed S x).1 = (s_M_feed M x).1 ∧ Rel (s_P_feed S x).2 (s_M_feed M x).2 := by
  obtain ⟨t1, t2, t3⟩ := h.2.2.1
  have c12 : (cap 12 : Int) = 80 := by decide
  have e3 : (32 : Int32).toInt = 32 := by decide
  have e6 : (126 : Int32).toInt = 126 := by decide
  have f3 : (32 : Int64).toInt = 32 := by decide
  have f6 : (126 : Int64).toInt = 126 := by decide
  rw [s_P_feed, s_X_append, s_M_feed]
  by_cases cc : 32 ≤ x.toInt ∧ x.toInt ≤ 126
  · rw [if_neg (by rw [lt32, e3]; omega), if_pos (by rw [le32, e6]; omega), if_neg (fun q => in_0 q (by simp only [i64_of, f3, f6]; omega))]
    by_cases d : M.1 4 = 80
    · rw [if_pos d, if_neg (fun q => by rw [full_i, t1, d, c12] at q; revert q; decide)]; exact ⟨rfl, h⟩
    · have hd : (M.1 4).toInt ≠ 80 := fun e => d (eq32.mpr (by rw [e]; decide))
      have hn := i32_tn t2.1
      have es : (M.1 4 + 1).toInt = (M.1 4).toInt + 1 := i32_suc (by omega)
      rw [if_neg d, if_pos (by rw [full_i, t1]; omega), N_add_go (S := S) (i := 12) (by rw [t1]; omega) (by rw [t1]; omega), t1]
      refine ⟨?_, Rel_g h ⟨?_, ?_, ?_⟩ (fun j hj => sV_ne (by omega)) (fun r hr => sA_o (by omega)) rfl (sV_ne (by omega)) (fun r hr => sA_o (by omega)) rfl⟩
      · show (sV (sA S 12 (M.1 4).toNatClampNeg x) 12 (M.1 4 + 1)).1 12 = M.1 4 + 1
        exact sV_eq
      · show (sV _ 12 _).1 12 = (sV _ 4 _).1 4
        rw [sV_eq, sV_eq]
      · show 0 ≤ ((sV _ 4 _).1 4).toInt ∧ ((sV _ 4 _).1 4).toInt ≤ 80
        rw [sV_eq, es]; omega
      · intro k hk
        have hk : (k : Int) < ((sV (sA M 3 (M.1 4).toNatClampNeg x) 4 (M.1 4 + 1)).1 4).toInt := hk
        rw [sV_eq, es] at hk
        show (sA S 12 (M.1 4).toNatClampNeg x).2.1 12 k = (sA M 3 (M.1 4).toNatClampNeg x).2.1 3 k
        by_cases e : k = (M.1 4).toNatClampNeg
        · subst e; rw [sA_rs, sA_rs]
        · rw [sA_rd e, sA_rd e]; exact t3 k (by omega)
  · rw [if_pos (show s_M_in x.toInt64 (32 : Int64) (126 : Int64) = 0 from in_i.mpr (by simp only [i64_of, f3, f6]; exact cc))]
    by_cases d : x < 32
    · rw [if_pos d]; exact ⟨rfl, h⟩
    · rw [if_neg d, if_neg (by rw [lt32, e3] at d; rw [le32, e6]; omega)]; exact ⟨rfl, h⟩
def FX (S Z : St) : Prop := (∀ j : Nat, (j < 13 ∨ (16 ≤ j ∧ j < 23)) → Z.1 j = S.1 j) ∧ (∀ r : Nat, r < 13 → Z.2.1 r = S.2.1 r) ∧ Z.2.2 = S.2.2
def IsL (c : Int32) : Prop := c = 119 ∨ c = 115 ∨ c = 112 ∨ c = 116 ∨ c = 120
/-- the acts told so far -/
def LR (n : Int32) (Z Y : St) : Prop := (Z.1 13 = n ∧ Z.1 14 = n ∧ Z.1 15 = n) ∧ ∀ k : Nat, (k : Int) < n.toInt → IsL (Y.2.1 4 k) ∧ Z.2.1 13 k = Y.2.1 4 k ∧ (¬ Y.2.1 4 k = 120 → Z.2.1 14 k = Y.2.1 5 k) ∧ ((Y.2.1 4 k = 115 ∨ Y.2.1 4 k = 116) → Z.2.1 15 k = Y.2.1 6 k)
/-- the two readers on their way over the tape -/
def PW (S M : St) (n : Int32) (Z Y : St) : Prop := FX S Z ∧ AV M Y ∧ TI Y ∧ Z.1 23 = Y.1 5 ∧ LR n Z Y
theorem pw_tape (hT : TR S M) (h : FX S Z) (h2 : AV M Y) : Z.1 12 = Y.1 4 ∧ ∀ k : Nat, (k : Int) < (Y.1 4).toInt → Z.2.1 12 k = Y.2.1 3 k := by
  refine ⟨?_, fun k hk => ?_⟩
  · rw [h.1 12 (by omega), h2.2.2 4 (by omega) (by omega)]; exact hT.1
  · rw [h2.2.2 4 (by omega) (by omega)] at hk
    rw [h.2.1 12 (by omega), h2.2.1 3 (by omega) (by omega) (by omega)]; exact hT.2.2 k hk
theorem next_pw (hT : TR S M) (h : PW S M n Z Y) : s_X_next Z = s_M_here Y := by
  obtain ⟨f, a, t, p, -⟩ := h
  obtain ⟨q1, q2⟩ := pw_tape hT f a
  obtain ⟨t1, t2, t3⟩ := t
  have c12 : (cap 12 : Int) = 80 := by decide
  have n0 : ¬ Y.1 5 < 0 := by rw [lt32, z32]; omega
  rw [s_X_next, s_M_here, p]
  by_cases cc : Y.1 4 ≤ Y.1 5
  · have e : s_N_has Z 12 (Y.1 5) = 0 := by rw [s_N_has, if_neg n0, q1, if_pos cc]
    rw [if_pos cc, if_pos e]
  · have c2 := cc
    rw [le32] at c2
    have e : s_N_has Z 12 (Y.1 5) = 1 := by rw [s_N_has, if_neg n0, q1, if_neg cc, if_neg (by rw [le32, cap_i]; omega)]
    rw [if_neg cc, if_neg (by rw [e]; decide), at_in t1 (by rw [q1]; omega) (by omega)]
    exact q2 _ (by rw [i32_tn t1]; omega)
theorem PW_mv (h : PW S M n Z Y) (z2 : Z'.2 = Z.2) (z1 : ∀ j : Nat, j < 23 → Z'.1 j = Z.1 j) (m : MV Y Y') (t : TI Y') (p : Z'.1 23 = Y'.1 5) : PW S M n Z' Y' := by
  obtain ⟨⟨f1, f2, f3⟩, a, -, -, l1, l2⟩ := h
  refine ⟨⟨fun j hj => (z1 j (by omega)).trans (f1 j hj), ?_, ?_⟩, a.trans m.av, t, p, ?_, ?_⟩
  · rw [z2]; exact f2
  · rw [z2]; exact f3
  · rw [z1 13 (by omega), z1 14 (by omega), z1 15 (by omega)]; exact l1
  · rw [z2, m.1]; exact l2
theorem PW_row (h : PW S M n Z Y) (h0 : 0 ≤ n.toInt) {r : Nat} (hr : r = 4 ∨ r = 5 ∨ r = 6) : PW S M n Z (sA Y r n.toNatClampNeg x) := by
  obtain ⟨f, a, t, p, l1, l2⟩ := h
  have hk := i32_tn h0
  refine ⟨f, a.trans (AV_sA hr), TI_sA t, p, l1, fun k hk1 => ?_⟩
  have e : k ≠ n.toNatClampNeg := by omega
  rw [sA_k e, sA_k e, sA_k e]
  exact l2 k hk1
theorem skip_go (hT : TR S M) (h : PW S M n Z Y) (e : s_M_here Y = c) : s_X_skip Z c = (1, sV Z 23 (Z.1 23 + 1)) := by
  rw [s_X_skip, next_pw hT h, if_pos e, if_neg (by decide)]
theorem skip_no (hT : TR S M) (h : PW S M n Z Y) (e : ¬ s_M_here Y = c) : s_X_skip Z c = (0, Z) := by
  rw [s_X_skip, next_pw hT h, if_neg e, if_pos rfl]
theorem PW_1 (h : PW S M n Z Y) (hl : (Y.1 5).toInt < (Y.1 4).toInt) : PW S M n (sV Z 23 (Z.1 23 + 1)) (sV Y 5 (Y.1 5 + 1)) := by
  refine PW_mv h rfl (fun j hj => sV_ne (by omega)) MV_5 (TI_n1 h.2.2.1 hl) ?_
  rw [sV_eq, sV_eq, h.2.2.2.1]
theorem PW_0 (h : PW S M n Z Y) : PW S M n Z (sV Y 5 (Y.1 5 + 0)) := by
  refine PW_mv h rfl (fun _ _ => rfl) MV_5 (TI_n0 h.2.2.1) ?_
  rw [sV_eq, add_0]; exact h.2.2.2.1
theorem PW_6 (h : PW S M n Z Y) : PW S M n Z (sV Y 6 c) := by
  refine PW_mv h rfl (fun _ _ => rfl) MV_6 (TI_g h.2.2.1) ?_
  rw [sV_ne (by omega)]; exact h.2.2.2.1
theorem skip_pw (hT : TR S M) (h : PW S M n Z Y) (g : ¬ Y.1 6 = 0) (hc : ¬ c = -1) : (((s_X_skip Z c).1 = 0 ∧ (s_M_takes Y c).1 6 = 0) ∨ ((s_X_skip Z c).1 = 1 ∧ ¬ (s_M_takes Y c).1 6 = 0)) ∧ PW S M n (s_X_skip Z c).2 (s_M_takes Y c) ∧ (s_M_takes Y c).2 = Y.2 := by
  by_cases e : s_M_here Y = c
  · have et : s_M_takes Y c = sV (sV Y 6 1) 5 (Y.1 5 + 1) := by rw [s_M_takes, if_neg g, if_pos e]
    rw [et, skip_go hT h e]
    refine ⟨Or.inr ⟨rfl, ?_⟩, ?_, rfl⟩
    · rw [sV_ne (by omega), sV_eq]; decide
    · exact PW_1 (Y := sV Y 6 1) (PW_6 h) (here_lt e hc)
  · have et : s_M_takes Y c = sV (sV Y 6 0) 5 (Y.1 5 + 0) := by rw [s_M_takes, if_neg g, if_neg e]
    rw [et, skip_no hT h e]
    refine ⟨Or.inl ⟨rfl, ?_⟩, ?_, rfl⟩
    · rw [sV_ne (by omega), sV_eq]
    · exact PW_0 (Y := sV Y 6 0) (PW_6 h)
/-! numbers -/
def NQ (S M : St) (n : Int32) (q r : Int32 × St) : Prop := ((q.1 = 0 ∧ r.2.1 6 = 0) ∨ (q.1 = 1 ∧ ¬ r.2.1 6 = 0 ∧ q.2.1 24 = r.1)) ∧ PW S M n q.2 r.2
theorem fig_i : s_X_isFigure (s_M_here Y) = 0 ↔ s_M_isFigure Y = 0 := by
  have e1 : (48 : Int32).toInt = 48 := by decide
  have e2 : (57 : Int32).toInt = 57 := by decide
  have f1 : (48 : Int64).toInt = 48 := by decide
  have f2 : (57 : Int64).toInt = 57 := by decide
  rw [s_X_isFigure, s_M_isFigure, in_i, i64_of, f1, f2]
  simp only [lt32, e1, e2]
  repeat' split
  all_goals first | exact iff_of_true rfl (by omega) | exact iff_of_false (by decide) (by omega)
theorem here_6 : s_M_here (sV Y 6 c) = s_M_here Y := by
  rw [s_M_here, s_M_here, sV_ne (show 4 ≠ 6 by omega), sV_ne (show 5 ≠ 6 by omega)]
  rfl
theorem PW_24 (h : PW S M n Z Y) : PW S M n (sV Z 24 x) Y := by
  refine PW_mv h rfl (fun j hj => sV_ne (by omega)) MV.rfl h.2.2.1 ?_
  rw [sV_ne (by omega)]; exact h.2.2.2.1
theorem nlast (h : PW S M n Z Y) (g : ¬ Y.1 6 = 0) {x2 x3 v : Int32} (h3 : 0 < x3.toInt) : NQ S M n (s_X_parseNumber_b70 Z x2 x3 v) (s_M_number_b121 Y x2 v) := by
  have k : ¬ x3 ≤ 0 := by rw [le32, z32]; omega
  rw [s_X_parseNumber_b70, s_M_number_b121]
  by_cases e : x2 = 0
  · rw [if_pos e, if_pos e, s_X_parseNumber_b83, if_neg k]
    exact ⟨Or.inr ⟨rfl, g, sV_eq⟩, PW_24 h⟩
  · rw [if_neg e, if_neg e, s_X_parseNumber_b83, if_neg k]
    exact ⟨Or.inr ⟨rfl, g, sV_eq⟩, PW_24 h⟩
theorem nlp (hT : TR S M) {x2 : Int32} : ∀ (f : Nat) (Z Y : St) (x3 v : Int32), PW S M n Z Y → ¬ Y.1 6 = 0 → 0 ≤ x3.toInt → x3.toInt ≤ 3 → 4 ≤ x3.toInt + (f : Int) → (0 < x3.toInt ∨ ¬ s_M_isFigure Y = 0) → NQ S M n (s_X_parseNumber_b24 f Z x2 x3 v) (s_M_number_b72 f Y x2 v x3) := by
  have e3 : (3 : Int32).toInt = 3 := by decide
  intro f
  induction f with
  | zero => intro Z Y x3 v _ _ h0 h1 h2 _; omega
  | succ f ih =>
    intro Z Y x3 v h g h0 h1 h2 hd
    rw [s_X_parseNumber_b24, s_M_number_b72]
    by_cases cc : (3 : Int32) ≤ x3
    · rw [if_pos cc, if_pos cc]
      rw [le32, e3] at cc
      exact nlast h g (by omega)
    · rw [if_neg cc, if_neg cc, if_neg g, next_pw hT h]
      rw [le32, e3] at cc
      have es : (x3 + 1).toInt = x3.toInt + 1 := i32_suc (by omega)
      by_cases d : s_M_isFigure Y = 0
      · rw [if_pos (fig_i.mpr d), if_pos d]
        exact nlast h g (hd.resolve_right (fun q => q d))
      · rw [if_neg (fun q => d (fig_i.mp q)), if_neg d]
        exact ih _ _ _ _ (PW_1 h (fig_lt d)) (by rw [sV_ne (by omega)]; exact g) (by omega) (by omega) (by omega) (Or.inl (by omega))
theorem num0 (hT : TR S M) (h : PW S M n Z Y) {x2 : Int32} : NQ S M n (s_X_parseNumber_b18 Z x2) (if s_M_isFigure Y = 0 then s_M_number_b72 4 (sV Y 6 0) x2 0 0 else s_M_number_b72 4 (sV Y 6 1) x2 0 0) := by
  rw [s_X_parseNumber_b18]
  by_cases d : s_M_isFigure Y = 0
  · rw [if_pos d, s_X_parseNumber_b24, if_neg (by decide), next_pw hT h, if_pos (fig_i.mpr d), s_M_number_b72, if_neg (by decide), if_pos sV_eq, s_X_parseNumber_b70, s_M_number_b121]
    by_cases e : x2 = 0
    · rw [if_pos e, if_pos e, s_X_parseNumber_b83, if_pos (by decide)]
      exact ⟨Or.inl ⟨rfl, sV_eq⟩, PW_24 (PW_6 h)⟩
    · rw [if_neg e, if_neg e, s_X_parseNumber_b83, if_pos (by decide)]
      exact ⟨Or.inl ⟨rfl, sV_eq⟩, PW_24 (PW_6 h)⟩
  · rw [if_neg d]
    refine nlp hT 4 Z (sV Y 6 1) 0 0 (PW_6 h) (by rw [sV_eq]; decide) (by decide) (by decide) (by decide) (Or.inr ?_)
    rw [s_M_isFigure, here_6]; exact d
theorem num_pw (hT : TR S M) (h : PW S M n Z Y) (g : ¬ Y.1 6 = 0) : NQ S M n (s_X_parseNumber Z b) (s_M_number Y b) := by
  by_cases b0 : b = 0
  · rw [s_X_parseNumber, if_pos b0, s_X_parseNumber_b17, s_M_number, if_neg g, if_pos b0, if_neg g]
    exact num0 hT (PW_0 h)
  · rw [s_X_parseNumber, if_neg b0, s_M_number, if_neg g, if_neg b0]
    by_cases e : s_M_here Y = 45
    · rw [skip_go hT h e, if_neg (show ¬ (1 : Int32) = 0 by decide), if_pos e, if_neg g]
      exact num0 hT (PW_1 h (here_lt e (by decide)))
    · rw [skip_no hT h e, if_pos rfl, s_X_parseNumber_b17, if_neg e, if_neg g]
      exact num0 hT (PW_0 h)
end tp
