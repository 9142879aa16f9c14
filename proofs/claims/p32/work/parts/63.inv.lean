/-! what is always so of a bench, and what keeps it -/
def PQ (n : Int32) (f0 : Nat → Int32) (a b : Int32) : Prop := (0 ≤ a.toInt ∧ a.toInt < n.toInt) ∧ (0 ≤ b.toInt ∧ b.toInt < n.toInt) ∧ ¬ a = b ∧ ¬ ((f0 a.toNatClampNeg).toInt < 0 ∧ (f0 b.toNatClampNeg).toInt < 0)
def BI (n0 n1 n2 n3 p : Int32) (f0 f1 f2 f3 : Nat → Int32) : Prop :=
  (0 ≤ n0.toInt ∧ n0.toInt ≤ 16) ∧ n1 = n0 ∧ (0 ≤ n2.toInt ∧ n2.toInt ≤ 9) ∧ n3 = n2 ∧ (0 ≤ p.toInt ∧ p.toInt ≤ 2) ∧ (∀ k : Nat, (k : Int) < n0.toInt → TV (f0 k) ∧ TS (f1 k)) ∧ ∀ k : Nat, (k : Int) < n2.toInt → PQ n0 f0 (f2 k) (f3 k)
def BN (S : St) : Prop := BI (S.1 0) (S.1 1) (S.1 2) (S.1 3) (S.1 19) (S.2.1 0) (S.2.1 1) (S.2.1 2) (S.2.1 3)
def BK (S : St) : Prop := BI (S.1 4) (S.1 5) (S.1 6) (S.1 7) (S.1 20) (S.2.1 4) (S.2.1 5) (S.2.1 6) (S.2.1 7)
def BA (S : St) : Prop := BI (S.1 8) (S.1 9) (S.1 10) (S.1 11) (S.1 21) (S.2.1 8) (S.2.1 9) (S.2.1 10) (S.2.1 11)
/-- between two acts: the bench, the image if one is kept, an empty tape -/
def Inv (S : St) : Prop := BN S ∧ (S.1 22 = 0 ∨ BK S) ∧ S.1 12 = 0
theorem BI.cg {n0 n1 n2 n3 p n0' n1' n2' n3' p' : Int32} {f0 f1 f2 f3 f0' f1' f2' f3' : Nat → Int32} (h : BI n0 n1 n2 n3 p f0 f1 f2 f3) (e0 : n0' = n0) (e1 : n1' = n1) (e2 : n2' = n2) (e3 : n3' = n3) (e4 : p' = p) (d0 : f0' = f0) (d1 : f1' = f1) (d2 : f2' = f2) (d3 : f3' = f3) : BI n0' n1' n2' n3' p' f0' f1' f2' f3' := by
  subst e0 e1 e2 e3 e4 d0 d1 d2 d3; exact h
theorem PQ.mono {n n' : Int32} {f f' : Nat → Int32} {a b : Int32} (h : PQ n f a b) (h0 : n.toInt ≤ n'.toInt) (h1 : ∀ k : Nat, (k : Int) < n.toInt → f' k = f k) : PQ n' f' a b := by
  obtain ⟨⟨a0, a1⟩, ⟨b0, b1⟩, hn, hr⟩ := h
  refine ⟨⟨a0, by omega⟩, ⟨b0, by omega⟩, hn, ?_⟩
  rw [h1 a.toNatClampNeg (by rw [i32_tn a0]; exact a1), h1 b.toNatClampNeg (by rw [i32_tn b0]; exact b1)]
  exact hr
theorem BI_copy {n0 n1 n2 n3 p n0' n1' n2' n3' p' : Int32} {f0 f1 f2 f3 f0' f1' f2' f3' : Nat → Int32} (h : BI n0 n1 n2 n3 p f0 f1 f2 f3) (e0 : n0' = n0) (e1 : n1' = n1) (e2 : n2' = n2) (e3 : n3' = n3) (e4 : p' = p)
    (d0 : ∀ k : Nat, (k : Int) < n0.toInt → f0' k = f0 k) (d1 : ∀ k : Nat, (k : Int) < n1.toInt → f1' k = f1 k) (d2 : ∀ k : Nat, (k : Int) < n2.toInt → f2' k = f2 k) (d3 : ∀ k : Nat, (k : Int) < n3.toInt → f3' k = f3 k) : BI n0' n1' n2' n3' p' f0' f1' f2' f3' := by
  obtain ⟨h0, h1, h2, h3, h4, hW, hP⟩ := h
  subst e0 e1 e2 e3 e4
  refine ⟨h0, h1, h2, h3, h4, fun k hk => ?_, fun k hk => ?_⟩
  · rw [d0 k hk, d1 k (by rw [h1]; exact hk)]; exact hW k hk
  · rw [d2 k hk, d3 k (by rw [h3]; exact hk)]; exact (hP k hk).mono (Int.le_refl _) d0
section BIs
variable {n0 n1 n2 n3 p : Int32} {f0 f1 f2 f3 : Nat → Int32} {t v w a b : Int32}
theorem BI_wheel (h : BI n0 n1 n2 n3 p f0 f1 f2 f3) (c : n0.toInt < 16) (ht : TV t) : BI (n0 + 1) (n0 + 1) n2 n3 p (upd f0 n0.toNatClampNeg t) (upd f1 n0.toNatClampNeg 0) f2 f3 := by
  obtain ⟨h0, h1, h2, h3, h4, hW, hP⟩ := h
  have hk := i32_tn h0.1
  have hs : (n0 + 1).toInt = n0.toInt + 1 := i32_suc (by omega)
  refine ⟨by rw [hs]; omega, rfl, h2, h3, h4, fun k hk1 => ?_, fun k hk1 => ?_⟩
  · rw [hs] at hk1
    by_cases e : k = n0.toNatClampNeg
    · subst e
      rw [upd_eq, upd_eq]
      exact ⟨ht, by unfold TS; rw [z32]; omega⟩
    · rw [upd_ne e, upd_ne e]
      exact hW k (by omega)
  · exact (hP k hk1).mono (by rw [hs]; omega) (fun j hj => upd_ne (by omega))
theorem BI_shift (h : BI n0 n1 n2 n3 p f0 f1 f2 f3) (hv : TS v) {j : Nat} : BI n0 n1 n2 n3 p f0 (upd f1 j v) f2 f3 := by
  obtain ⟨h0, h1, h2, h3, h4, hW, hP⟩ := h
  refine ⟨h0, h1, h2, h3, h4, fun k hk1 => ?_, hP⟩
  by_cases e : k = j
  · subst e
    rw [upd_eq]
    exact ⟨(hW _ hk1).1, hv⟩
  · rw [upd_ne e]
    exact hW k hk1
theorem BI_press (h : BI n0 n1 n2 n3 p f0 f1 f2 f3) (hv : 0 ≤ v.toInt ∧ v.toInt ≤ 2) : BI n0 n1 n2 n3 v f0 f1 f2 f3 := ⟨h.1, h.2.1, h.2.2.1, h.2.2.2.1, hv, h.2.2.2.2.2⟩
theorem BI_pair (h : BI n0 n1 n2 n3 p f0 f1 f2 f3) (c : n2.toInt < 9) (hp : PQ n0 f0 a b) : BI n0 n1 (n2 + 1) (n2 + 1) p f0 f1 (upd f2 n2.toNatClampNeg a) (upd f3 n2.toNatClampNeg b) := by
  obtain ⟨h0, h1, h2, h3, h4, hW, hP⟩ := h
  have hk := i32_tn h2.1
  have hs : (n2 + 1).toInt = n2.toInt + 1 := i32_suc (by omega)
  refine ⟨h0, h1, by rw [hs]; omega, rfl, h4, hW, fun k hk1 => ?_⟩
  rw [hs] at hk1
  by_cases e : k = n2.toNatClampNeg
  · subst e
    rw [upd_eq, upd_eq]
    exact hp
  · rw [upd_ne e, upd_ne e]
    exact hP k (by omega)
theorem BI_clear (h : BI n0 n1 n2 n3 p f0 f1 f2 f3) : BI n0 n1 0 0 p f0 f1 f2 f3 := ⟨h.1, h.2.1, by rw [z32]; omega, rfl, h.2.2.2.2.1, h.2.2.2.2.2.1, fun k hk => by rw [z32] at hk; omega⟩
end BIs
section ops
variable {S : St} {w a b t v x : Int32} {i : Nat}
theorem c16 : (cap 0 : Int) = 16 ∧ (cap 1 : Int) = 16 ∧ (cap 2 : Int) = 9 ∧ (cap 3 : Int) = 9 := by decide
/-- w is a wheel's number -/
def wl (S : St) (w : Int32) : Prop := 0 ≤ w.toInt ∧ w.toInt < (S.1 0).toInt
theorem has_i (hB : BN S) : s_N_has S 0 w = 0 ↔ ¬ wl S w := by
  have bb := hB.1
  have c0 : (nI (cap 0)).toInt = 16 := (cap_i 0).trans (by decide)
  unfold s_N_has wl
  simp only [lt32, le32, c0, z32]
  repeat' split
  all_goals first | exact iff_of_true rfl (by omega) | exact iff_of_false (by decide) (by omega)
theorem view (hB : BN S) (hw : wl S w) : ∃ t s : Int32, s_N_at S 0 w = t ∧ s_N_at S 1 w = s ∧ TV t ∧ TS s ∧ t = S.2.1 0 w.toNatClampNeg ∧ s = S.2.1 1 w.toNatClampNeg := by
  have hB0 := hB
  obtain ⟨h0, h1, h2, h3, h4, hW, hP⟩ := hB
  obtain ⟨w0, w1⟩ := hw
  have hk : (w.toNatClampNeg : Int) < (S.1 0).toInt := by rw [i32_tn w0]; exact w1
  have cc := c16
  obtain ⟨e0, e1⟩ := hW w.toNatClampNeg hk
  exact ⟨_, _, at_in w0 w1 (by omega), at_in w0 (by rw [h1]; exact w1) (by omega), e0, e1, rfl, rfl⟩
theorem ring_i : s_B_isRing S w = 0 ↔ 0 ≤ (s_N_at S 0 w).toInt := by
  rw [s_B_isRing]
  simp only [le32, z32]
  split
  · exact iff_of_true rfl (by omega)
  · exact iff_of_false (by decide) (by omega)
/-- what a pair that may stand is -/
def PM (S : St) (a b : Int32) : Prop := wl S a ∧ wl S b ∧ ¬ a = b ∧ ¬ ((s_N_at S 0 a).toInt < 0 ∧ (s_N_at S 0 b).toInt < 0)
theorem can_i (hB : BN S) : s_B_canPair S a b = 0 ↔ ¬ PM S a b := by
  have ha := has_i (w := a) hB
  have hb := has_i (w := b) hB
  have ra := ring_i (S := S) (w := a)
  have rb := ring_i (S := S) (w := b)
  rw [s_B_canPair, s_B_hasWheel, s_B_hasWheel]
  unfold PM
  by_cases h1 : s_N_has S 0 a = 0
  · rw [if_pos h1]; exact iff_of_true rfl (fun q => ha.mp h1 q.1)
  · by_cases h2 : s_N_has S 0 b = 0
    · rw [if_neg h1, if_pos h2]; exact iff_of_true rfl (fun q => hb.mp h2 q.2.1)
    · rw [if_neg h1, if_neg h2]
      have w1 : wl S a := Classical.not_not.mp (fun q => h1 (ha.mpr q))
      have w2 : wl S b := Classical.not_not.mp (fun q => h2 (hb.mpr q))
      by_cases h3 : a = b
      · rw [if_pos h3]; exact iff_of_true rfl (fun q => q.2.2.1 h3)
      · rw [if_neg h3]
        by_cases h4 : s_B_isRing S a = 0
        · rw [if_pos h4]
          exact iff_of_false (by decide) (fun q => q ⟨w1, w2, h3, fun z => by have := ra.mp h4; omega⟩)
        · rw [if_neg h4]
          by_cases h5 : s_B_isRing S b = 0
          · rw [if_pos h5]
            exact iff_of_false (by decide) (fun q => q ⟨w1, w2, h3, fun z => by have := rb.mp h5; omega⟩)
          · rw [if_neg h5]
            refine iff_of_true rfl (fun q => q.2.2.2 ⟨?_, ?_⟩)
            · exact Int.not_le.mp (fun z => h4 (ra.mpr z))
            · exact Int.not_le.mp (fun z => h5 (rb.mpr z))
theorem PM_PQ (hB : BN S) (h : PM S a b) : PQ (S.1 0) (S.2.1 0) a b := by
  obtain ⟨h1, h2, h3, h4⟩ := h
  obtain ⟨ta, sa, a1, a2, a3, a4, a5, a6⟩ := view hB h1
  obtain ⟨tb, sb, b1, b2, b3, b4, b5, b6⟩ := view hB h2
  rw [a1, b1, a5, b5] at h4
  exact ⟨h1, h2, h3, h4⟩
theorem PQ_PM (hB : BN S) (h : PQ (S.1 0) (S.2.1 0) a b) : PM S a b := by
  obtain ⟨h1, h2, h3, h4⟩ := h
  obtain ⟨ta, sa, a1, a2, a3, a4, a5, a6⟩ := view hB h1
  obtain ⟨tb, sb, b1, b2, b3, b4, b5, b6⟩ := view hB h2
  rw [← a5, ← b5, ← a1, ← b1] at h4
  exact ⟨h1, h2, h3, h4⟩
theorem b_wheel (hB : BN S) : BN (s_B_addWheel S t).2 ∧ FR S (s_B_addWheel S t).2 ∧ (((s_B_addWheel S t).1.toInt < 0 ∧ (s_B_addWheel S t).2 = S) ∨ (0 ≤ (s_B_addWheel S t).1.toInt ∧ (s_B_addWheel S t).2.1 0 = S.1 0 + 1 ∧ (s_B_addWheel S t).2.1 2 = S.1 2)) := by
  have cc := c16
  have h0 := hB.1
  have e1 := hB.2.1
  by_cases ht : TV t
  · rw [s_B_addWheel, if_neg (fun q => tee_i.mp q ht)]
    by_cases c : (S.1 0).toInt < 16
    · rw [if_pos (by rw [full_i]; omega), N_add_go (S := S) (i := 0) (by omega) (by omega)]
      have e1' : (sV (sA S 0 (S.1 0).toNatClampNeg t) 0 (S.1 0 + 1)).1 1 = S.1 0 := e1
      rw [N_add_go (i := 1) (by rw [e1']; omega) (by rw [e1']; omega), e1']
      refine ⟨BI_wheel hB c ht, (((FR_A (by omega)).tr (FR_V (Or.inl (by omega)))).tr (FR_A (by omega))).tr (FR_V (Or.inl (by omega))), Or.inr ⟨?_, rfl, rfl⟩⟩
      show 0 ≤ (S.1 0 + 1 - 1).toInt
      rw [Int32.add_sub_cancel]; exact h0.1
    · rw [if_neg (fun q => by rw [full_i] at q; omega)]
      exact ⟨hB, FR.rf, Or.inl ⟨by show (Int32.toInt _) < 0; dsimp only; decide, rfl⟩⟩
  · rw [s_B_addWheel, if_pos (tee_i.mpr ht)]
    exact ⟨hB, FR.rf, Or.inl ⟨by show (Int32.toInt _) < 0; dsimp only; decide, rfl⟩⟩
theorem b_shift (hB : BN S) : BN (s_B_setShift S w v).2 ∧ FR S (s_B_setShift S w v).2 := by
  have cc := c16
  have h0 := hB.1
  have e1 := hB.2.1
  rw [s_B_setShift]
  by_cases h : s_N_has S 0 w = 0
  · rw [if_pos h]; exact ⟨hB, FR.rf⟩
  · rw [if_neg h]
    have hw : wl S w := Classical.not_not.mp (fun q => h ((has_i hB).mpr q))
    by_cases h2 : TS v
    · rw [if_neg (fun q => sh_i.mp q h2), N_set_go hw.1 (by rw [e1]; exact hw.2) (by have := hw.2; omega)]
      exact ⟨BI_shift hB h2, FR_A (by omega)⟩
    · rw [if_pos (sh_i.mpr h2)]; exact ⟨hB, FR.rf⟩
theorem b_press (hB : BN S) : BN (s_B_setPressure S v).2 ∧ FR S (s_B_setPressure S v).2 := by
  have e3 : (2 : Int32).toInt = 2 := by decide
  rw [s_B_setPressure]
  by_cases h1 : v < 0
  · rw [if_pos h1]; exact ⟨hB, FR.rf⟩
  · rw [if_neg h1]
    by_cases h2 : v ≤ 2
    · rw [if_pos h2]
      rw [lt32, z32] at h1
      rw [le32, e3] at h2
      have hv : 0 ≤ v.toInt ∧ v.toInt ≤ 2 := ⟨by omega, h2⟩
      exact ⟨BI_press hB hv, FR_V (Or.inr rfl)⟩
    · rw [if_neg h2]; exact ⟨hB, FR.rf⟩
theorem b_pair (hB : BN S) : BN (s_B_addPair S a b).2 ∧ FR S (s_B_addPair S a b).2 ∧ (((s_B_addPair S a b).1.toInt < 0 ∧ (s_B_addPair S a b).2 = S) ∨ (0 ≤ (s_B_addPair S a b).1.toInt ∧ (s_B_addPair S a b).2.1 2 = (s_B_addPair S a b).1 ∧ (s_B_addPair S a b).2.1 0 = S.1 0)) := by
  have cc := c16
  have h2 := hB.2.2.1
  have e3 := hB.2.2.2.1
  by_cases h : s_B_canPair S a b = 0
  · rw [s_B_addPair, if_pos h]; exact ⟨hB, FR.rf, Or.inl ⟨by show (Int32.toInt _) < 0; dsimp only; decide, rfl⟩⟩
  · have hp : PM S a b := Classical.not_not.mp (fun q => h ((can_i hB).mpr q))
    by_cases c : (S.1 2).toInt < 9
    · rw [s_B_addPair, if_neg h, if_pos (by rw [full_i]; omega), N_add_go (S := S) (i := 2) (by omega) (by omega)]
      have e3' : (sV (sA S 2 (S.1 2).toNatClampNeg a) 2 (S.1 2 + 1)).1 3 = S.1 2 := e3
      rw [N_add_go (i := 3) (by rw [e3']; omega) (by rw [e3']; omega), e3']
      have hq := BI_pair hB c (PM_PQ hB hp)
      refine ⟨hq, (((FR_A (by omega)).tr (FR_V (Or.inl (by omega)))).tr (FR_A (by omega))).tr (FR_V (Or.inl (by omega))), Or.inr ⟨?_, rfl, rfl⟩⟩
      show 0 ≤ (S.1 2 + 1).toInt
      rw [i32_suc (by omega)]; omega
    · rw [s_B_addPair, if_neg h, if_neg (fun q => by rw [full_i] at q; omega)]
      exact ⟨hB, FR.rf, Or.inl ⟨by show (Int32.toInt _) < 0; dsimp only; decide, rfl⟩⟩
theorem b_clear (hB : BN S) : BN (s_B_emptyTrain S).2 ∧ FR S (s_B_emptyTrain S).2 := by
  rw [s_B_emptyTrain]
  exact ⟨BI_clear hB, (FR_V (Or.inl (by omega))).tr (FR_V (Or.inl (by omega)))⟩
def KD (S u : St) : Prop := BN u ∧ FR S u
theorem ite_K {c : Prop} {dc : Decidable c} {u v : Int32 × St} (h1 : KD S u.2) (h2 : KD S v.2) : KD S (@ite (Int32 × St) c dc u v).2 := by
  by_cases h : c
  · rw [if_pos h]; exact h1
  · rw [if_neg h]; exact h2
theorem b_does (hB : BN S) : KD S (s_B_does S a b x).2 := by
  have p1 : KD S (s_B_addWheel S b).2 := ⟨(b_wheel hB).1, (b_wheel hB).2.1⟩
  have p2 : KD S (s_B_setShift S b x).2 := b_shift hB
  have p3 : KD S (s_B_setPressure S b).2 := b_press hB
  have p4 : KD S (s_B_addPair S b x).2 := ⟨(b_pair hB).1, (b_pair hB).2.1⟩
  have p5 : KD S (s_B_emptyTrain S).2 := b_clear hB
  rw [s_B_does]
  exact ite_K (ite_K p3 p3) (ite_K (ite_K p2 p2) (ite_K (ite_K p4 p4) (ite_K (ite_K p1 p1) (ite_K (ite_K p5 p5) ⟨hB, FR.rf⟩))))
end ops
theorem C4.bi {t u p q : Nat} {S F : St} (h : C4 t u p q S F) (hB : BI (S.1 u) (S.1 (u + 1)) (S.1 (u + 2)) (S.1 (u + 3)) (S.1 q) (S.2.1 u) (S.2.1 (u + 1)) (S.2.1 (u + 2)) (S.2.1 (u + 3))) : BI (F.1 t) (F.1 (t + 1)) (F.1 (t + 2)) (F.1 (t + 3)) (F.1 p) (F.2.1 t) (F.2.1 (t + 1)) (F.2.1 (t + 2)) (F.2.1 (t + 3)) := by
  obtain ⟨⟨e0, e1, e2, e3, e4⟩, ⟨d0, d1, d2, d3⟩, -⟩ := h
  exact BI_copy hB e0 e1 e2 e3 e4 d0 d1 d2 d3
theorem become_of {t u p q : Nat} {S : St} (htu : t + 3 < u ∨ u + 3 < t) (hp : t + 3 < p ∧ u + 3 < p) (hq : t + 3 < q) (hct : (cap t : Int) = 16 ∧ (cap (t + 1) : Int) = 16 ∧ (cap (t + 2) : Int) = 9 ∧ (cap (t + 3) : Int) = 9) (hcu : (cap u : Int) = 16 ∧ (cap (u + 1) : Int) = 16 ∧ (cap (u + 2) : Int) = 9 ∧ (cap (u + 3) : Int) = 9) (hB : BI (S.1 u) (S.1 (u + 1)) (S.1 (u + 2)) (S.1 (u + 3)) (S.1 q) (S.2.1 u) (S.2.1 (u + 1)) (S.2.1 (u + 2)) (S.2.1 (u + 3))) :
    C4 t u p q S (sV (s_N_become (s_N_become (s_N_become (s_N_become S t u) (t + 1) (u + 1)) (t + 2) (u + 2)) (t + 3) (u + 3)) p ((s_N_become (s_N_become (s_N_become (s_N_become S t u) (t + 1) (u + 1)) (t + 2) (u + 2)) (t + 3) (u + 3)).1 q)) := by
  obtain ⟨h0, h1, h2, h3, -⟩ := hB
  exact become4 htu hp hq (by omega) (by rw [h1]; omega) (by omega) (by rw [h3]; omega)
theorem bc_10 {S : St} (hB : BN S) : C4 4 0 20 19 S (s_B_become_10 S) := become_of (t := 4) (u := 0) (p := 20) (q := 19) (by omega) (by omega) (by omega) (by decide) (by decide) hB
theorem bc_01 {S : St} (hB : BK S) : C4 0 4 19 20 S (s_B_become_01 S) := become_of (t := 0) (u := 4) (p := 19) (q := 20) (by omega) (by omega) (by omega) (by decide) (by decide) hB
theorem bc_20 {S : St} (hB : BN S) : C4 8 0 21 19 S (s_B_become_20 S) := become_of (t := 8) (u := 0) (p := 21) (q := 19) (by omega) (by omega) (by omega) (by decide) (by decide) hB
theorem bc_02 {S : St} (hB : BA S) : C4 0 8 19 21 S (s_B_become_02 S) := become_of (t := 0) (u := 8) (p := 19) (q := 21) (by omega) (by omega) (by omega) (by decide) (by decide) hB
