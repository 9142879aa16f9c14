/-! what the tape's steps leave as it was -/
def MV (S S' : St) : Prop := S'.2 = S.2 ∧ ∀ j : Nat, j ≠ 5 → j ≠ 6 → S'.1 j = S.1 j
theorem MV.rfl {S : St} : MV S S := ⟨Eq.refl _, fun _ _ _ => Eq.refl _⟩
theorem MV.trans {S S' S'' : St} (h : MV S S') (h2 : MV S' S'') : MV S S'' := ⟨h2.1.trans h.1, fun j a b => (h2.2 j a b).trans (h.2 j a b)⟩
theorem MV_5 {S : St} {x : Int32} : MV S (sV S 5 x) := ⟨Eq.refl _, fun j a _ => by simp [sV, upd, a]⟩
theorem MV_6 {S : St} {x : Int32} : MV S (sV S 6 x) := ⟨Eq.refl _, fun j _ b => by simp [sV, upd, b]⟩
/-- a step of the tape: place and mark alone move, the place not back -/
def NB (S S' : St) : Prop := TI S' ∧ MV S S' ∧ (S.1 5).toInt ≤ (S'.1 5).toInt
theorem NB.trans {S S' S'' : St} (h : NB S S') (h2 : NB S' S'') : NB S S'' := ⟨h2.1, h.2.1.trans h2.2.1, Int.le_trans h.2.2 h2.2.2⟩
theorem sV_5 {S : St} {x : Int32} : (sV S 5 x).1 5 = x := by simp [sV, upd]
theorem sV_65 {S : St} {x : Int32} : (sV S 6 x).1 5 = S.1 5 := by simp [sV, upd]
theorem NB_n0 {S : St} (h : TI S) : NB S (sV S 5 (S.1 5 + 0)) := ⟨TI_n0 h, MV_5, by rw [sV_5, add0]; exact Int.le_refl _⟩
theorem NB_n1 {S : St} (h : TI S) (c : (S.1 5).toInt < (S.1 4).toInt) : NB S (sV S 5 (S.1 5 + 1)) := ⟨TI_n1 h c, MV_5, by rw [sV_5, i32_suc (by have := h.2.2; omega)]; omega⟩
theorem NB_g {S : St} {c : Int32} (h : TI S) : NB S (sV S 6 c) := ⟨TI_g h, MV_6, by rw [sV_65]; exact Int.le_refl _⟩
theorem NB_takes {S : St} {c : Int32} (h : TI S) (hc : ¬ c = -1) : NB S (s_M_takes S c) := by
  rw [s_M_takes]
  by_cases h1 : S.1 6 = 0
  · rw [if_pos h1]; exact (NB_g h).trans (NB_n0 (S := sV S 6 0) (TI_g h))
  · by_cases h2 : s_M_here S = c
    · rw [if_neg h1, if_pos h2]; exact (NB_g h).trans (NB_n1 (S := sV S 6 1) (TI_g h) (by have := here_lt h2 hc; exact this))
    · rw [if_neg h1, if_neg h2]; exact (NB_g h).trans (NB_n0 (S := sV S 6 0) (TI_g h))
theorem NB_b72 : ∀ (n : Nat) (Z : St) (x2 x3 x4 : Int32), TI Z → NB Z (s_M_number_b72 n Z x2 x3 x4).2 := by
  have e121 : ∀ (Z : St) (x2 x3 : Int32), (s_M_number_b121 Z x2 x3).2 = Z := fun Z x2 x3 => by
    rw [s_M_number_b121]
    by_cases h : x2 = 0
    · rw [if_pos h]
    · rw [if_neg h]
  have e0 : ∀ (Z : St), TI Z → NB Z Z := fun Z h => ⟨h, MV.rfl, Int.le_refl _⟩
  intro n
  induction n with
  | zero => intro Z x2 x3 x4 h; exact e0 Z h
  | succ n ih =>
    intro Z x2 x3 x4 h
    rw [s_M_number_b72]
    by_cases h1 : (3 : Int32) ≤ x4
    · rw [if_pos h1, e121]; exact e0 Z h
    · by_cases h2 : Z.1 6 = 0
      · rw [if_neg h1, if_pos h2, e121]; exact e0 Z h
      · by_cases h3 : s_M_isFigure Z = 0
        · rw [if_neg h1, if_neg h2, if_pos h3, e121]; exact e0 Z h
        · rw [if_neg h1, if_neg h2, if_neg h3]
          have q := NB_n1 h (fig_lt h3)
          exact q.trans (ih _ _ _ _ q.1)
theorem ite_P {α : Type} {P : α → Prop} {c : Prop} {dc : Decidable c} {a b : α} (ha : c → P a) (hb : ¬ c → P b) : P (@ite α c dc a b) := by
  by_cases h : c
  · rw [if_pos h]; exact ha h
  · rw [if_neg h]; exact hb h
theorem NB_number {S : St} {b : Int32} (h : TI S) : NB S (s_M_number S b).2 := by
  have k : ∀ (Z : St) (c x2 : Int32), NB S Z → NB S (s_M_number_b72 4 (sV Z 6 c) x2 0 0).2 := fun Z c x2 q => (q.trans (NB_g q.1)).trans (NB_b72 _ _ _ _ _ (TI_g q.1))
  have z0 := NB_n0 h
  rw [s_M_number]
  refine ite_P (P := fun q : Int32 × St => NB S q.2) (fun _ => ?_) (fun _ => ?_)
  · refine ite_P (P := fun q : Int32 × St => NB S q.2) (fun _ => k _ _ _ z0) (fun _ => ?_)
    exact ite_P (P := fun q : Int32 × St => NB S q.2) (fun _ => k _ _ _ z0) (fun _ => k _ _ _ z0)
  · refine ite_P (P := fun q : Int32 × St => NB S q.2) (fun _ => ?_) (fun _ => ?_)
    · refine ite_P (P := fun q : Int32 × St => NB S q.2) (fun _ => k _ _ _ z0) (fun _ => ?_)
      exact ite_P (P := fun q : Int32 × St => NB S q.2) (fun _ => k _ _ _ z0) (fun _ => k _ _ _ z0)
    · refine ite_P (P := fun q : Int32 × St => NB S q.2) (fun c => ?_) (fun _ => ?_)
      · have z1 := NB_n1 h (here_lt c (by decide))
        refine ite_P (P := fun q : Int32 × St => NB S q.2) (fun _ => k _ _ _ z1) (fun _ => ?_)
        exact ite_P (P := fun q : Int32 × St => NB S q.2) (fun _ => k _ _ _ z1) (fun _ => k _ _ _ z1)
      · refine ite_P (P := fun q : Int32 × St => NB S q.2) (fun _ => k _ _ _ z0) (fun _ => ?_)
        exact ite_P (P := fun q : Int32 × St => NB S q.2) (fun _ => k _ _ _ z0) (fun _ => k _ _ _ z0)
theorem TI_sA {S : St} {i j : Nat} {x : Int32} (h : TI S) : TI (sA S i j x) := TI_of (Eq.refl _) (Eq.refl _) h
theorem TI_a0 {Z : St} {t c : Int32} {k : Nat} (h : TI Z) : TI (sV (sA (sV Z 6 t) 4 k c) 5 (Z.1 5 + 0)) := TI_n0 (S := sA (sV Z 6 t) 4 k c) (TI_sA (TI_g h))
theorem TI_a1 {Z : St} {t c : Int32} {k : Nat} (h : TI Z) (hl : (Z.1 5).toInt < (Z.1 4).toInt) : TI (sV (sA (sV Z 6 t) 4 k c) 5 (Z.1 5 + 1)) := TI_n1 (S := sA (sV Z 6 t) 4 k c) (TI_sA (TI_g h)) hl
