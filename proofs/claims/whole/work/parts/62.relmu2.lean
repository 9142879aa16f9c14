/-! the calls that change the bench, and what they leave as it is -/
def FR (S S' : St) : Prop := (∀ j : Nat, 4 ≤ j → j ≠ 19 → S'.1 j = S.1 j) ∧ (∀ r : Nat, 4 ≤ r → S'.2.1 r = S.2.1 r) ∧ S'.2.2 = S.2.2
def FM (M M' : St) : Prop := M'.1 = M.1 ∧ (∀ r : Nat, r ≠ 0 → M'.2.1 r = M.2.1 r) ∧ M'.2.2 0 = M.2.2 0
theorem FR.rf {S : St} : FR S S := ⟨fun _ _ _ => rfl, fun _ _ => rfl, rfl⟩
theorem FR.tr {S S' S'' : St} (h : FR S S') (h' : FR S' S'') : FR S S'' := ⟨fun j a b => (h'.1 j a b).trans (h.1 j a b), fun r a => (h'.2.1 r a).trans (h.2.1 r a), h'.2.2.trans h.2.2⟩
theorem FM.rf {S : St} : FM S S := ⟨rfl, fun _ _ => rfl, rfl⟩
theorem FM.tr {S S' S'' : St} (h : FM S S') (h' : FM S' S'') : FM S S'' := ⟨h'.1.trans h.1, fun r a => (h'.2.1 r a).trans (h.2.1 r a), h'.2.2.trans h.2.2⟩
theorem FR_V {S : St} {i : Nat} {x : Int32} (hi : i < 4 ∨ i = 19) : FR S (sV S i x) := ⟨fun j a b => upd_ne (by omega), fun _ _ => rfl, rfl⟩
theorem FR_A {S : St} {i k : Nat} {x : Int32} (hi : i < 4) : FR S (sA S i k x) := ⟨fun _ _ _ => rfl, fun r a => by show va_up S.2.1 i _ r = S.2.1 r; rw [va_up, if_neg (by omega)], rfl⟩
theorem FM_A {S : St} {k : Nat} {x : Int32} : FM S (sA S 0 k x) := ⟨rfl, fun r a => by show va_up S.2.1 0 _ r = S.2.1 r; rw [va_up, if_neg a], rfl⟩
theorem Rel_of {S M S' M' : St} (h : Rel S M) (hB : BN S' M') (hS : FR S S') (hM : FM M M') : Rel S' M' := by
  obtain ⟨-, ⟨k1, k2⟩, ⟨t1, t2, t3⟩, hW⟩ := h
  obtain ⟨s1, s2, s3⟩ := hS
  obtain ⟨m1, m2, m3⟩ := hM
  refine ⟨hB, ⟨?_, ?_⟩, ⟨?_, ?_, ?_⟩, ?_⟩
  · rw [s1 22 (by omega) (by omega), m1]; exact k1
  · rw [m1]
    refine k2.imp (fun q => q) (fun q => ?_)
    exact q.cg (s1 4 (by omega) (by omega)) (s1 5 (by omega) (by omega)) (s1 6 (by omega) (by omega)) (s1 7 (by omega) (by omega)) (s1 20 (by omega) (by omega)) (s2 4 (by omega)) (s2 5 (by omega)) (s2 6 (by omega)) (s2 7 (by omega)) (m2 1 (by omega))
  · rw [s1 12 (by omega) (by omega), m1]; exact t1
  · rw [m1]; exact t2
  · rw [m1, s2 12 (by omega), m2 3 (by omega)]; exact t3
  · intro r hr
    rw [s1 (16 + r) (by omega) (by omega), m2 7 (by omega), s3, m3]
    exact hW r hr
theorem in_i {x c d : Int64} : s_M_in x c d = 0 ↔ ¬ (c.toInt ≤ x.toInt ∧ x.toInt ≤ d.toInt) := by
  constructor
  · exact in_0
  · intro h
    rcases z_M_in x c d with e | e
    · exact e
    · exact absurd (in_1 (by rw [e]; decide)) h
section mu2
variable {S M : St} {w a b t v x : Int32} {i : Nat}
theorem N_add_go (h0 : 0 ≤ (S.1 i).toInt) (h1 : (S.1 i).toInt < (cap i : Int)) : s_N_add S i x = sV (sA S i (S.1 i).toNatClampNeg x) i (S.1 i + 1) := by
  rw [s_N_add, if_neg (by rw [lt32, z32]; omega), if_neg (by rw [le32, cap_i]; omega)]
  rfl
theorem N_set_go (h0 : 0 ≤ w.toInt) (h1 : w.toInt < (S.1 i).toInt) (h2 : w.toInt < (cap i : Int)) : s_N_set S i w v = sA S i w.toNatClampNeg v := by
  rw [s_N_set, if_neg (by rw [lt32, z32]; omega), if_neg (by rw [le32]; omega), if_neg (by rw [le32, cap_i]; omega)]
theorem full_i : s_N_isFull S i = 0 ↔ (S.1 i).toInt < (cap i : Int) := by
  rw [s_N_isFull]
  simp only [lt32, cap_i]
  split
  · exact iff_of_true rfl (by omega)
  · exact iff_of_false (by decide) (by omega)
theorem tee_i : s_P_isTeeth t = 0 ↔ ¬ TV t := by
  have e1 : (5 : Int32).toInt = 5 := by decide
  have e2 : (99 : Int32).toInt = 99 := by decide
  have e3 : (-99 : Int32).toInt = -99 := by decide
  have e4 : (-20 : Int32).toInt = -20 := by decide
  unfold s_P_isTeeth s_P_isOutward TV
  simp only [lt32, e1, e2, e3, e4]
  repeat' split
  all_goals first | exact iff_of_true rfl (by omega) | exact iff_of_false (by decide) (by omega) | exact absurd rfl (by assumption) | (exfalso; revert ‹(1 : Int32) = 0›; decide)
theorem sh_i : s_P_isShift t = 0 ↔ ¬ TS t := by
  have e1 : (-50 : Int32).toInt = -50 := by decide
  have e2 : (100 : Int32).toInt = 100 := by decide
  unfold s_P_isShift TS
  simp only [lt32, e1, e2]
  repeat' split
  all_goals first | exact iff_of_true rfl (by omega) | exact iff_of_false (by decide) (by omega)
theorem TVin (t : Int32) : (s_M_in t.toInt64 (-99 : Int64) (-20 : Int64) = 0 ↔ ¬ (-99 ≤ t.toInt ∧ t.toInt ≤ -20)) ∧ (s_M_in t.toInt64 (5 : Int64) (99 : Int64) = 0 ↔ ¬ (5 ≤ t.toInt ∧ t.toInt ≤ 99)) := by
  have e1 : (5 : Int64).toInt = 5 := by decide
  have e2 : (99 : Int64).toInt = 99 := by decide
  have e3 : (-99 : Int64).toInt = -99 := by decide
  have e4 : (-20 : Int64).toInt = -20 := by decide
  rw [in_i, in_i, i64_of, e1, e2, e3, e4]
  exact ⟨Iff.rfl, Iff.rfl⟩
theorem TS_in (t : Int32) : s_M_in t.toInt64 (-50 : Int64) (100 : Int64) = 0 ↔ ¬ TS t := by
  have e1 : (-50 : Int64).toInt = -50 := by decide
  have e2 : (100 : Int64).toInt = 100 := by decide
  rw [in_i, i64_of, e1, e2]
  exact Iff.rfl
theorem b_wheel (hB : BN S M) : (s_B_addWheel S t).1 = (s_M_wheel M t).1 ∧ BN (s_B_addWheel S t).2 (s_M_wheel M t).2 ∧ FR S (s_B_addWheel S t).2 ∧ FM M (s_M_wheel M t).2 := by
  have hG := hB.1
  have bb := hG.1
  obtain ⟨e0, e1, -⟩ := hB.2.1
  obtain ⟨i1, i2⟩ := TVin t
  have c0 : (cap 0 : Int) = 16 := by decide
  have c1 : (cap 1 : Int) = 16 := by decide
  by_cases ht : TV t
  · have em : s_M_wheel M t = s_M_wheel_b30 M t := by
      rw [s_M_wheel]
      unfold TV at ht
      by_cases q : s_M_in t.toInt64 (-99 : Int64) (-20 : Int64) = 0
      · rw [if_pos q, if_neg (fun q2 => by rw [i1] at q; rw [i2] at q2; omega)]
      · rw [if_neg q]
    rw [em, s_B_addWheel, if_neg (fun q => tee_i.mp q ht)]
    by_cases c : M.2.1 0 0 = 16
    · rw [s_M_wheel_b30, if_pos c, if_neg (fun q => by rw [full_i, e0, c, c0] at q; revert q; decide)]
      exact ⟨rfl, hB, FR.rf, FM.rf⟩
    · have hc : (M.2.1 0 0).toInt ≠ 16 := fun e => c (eq32.mpr (by rw [e]; decide))
      rw [wheel30 hG c, if_pos (by rw [full_i, e0]; omega), N_add_go (S := S) (i := 0) (by rw [e0]; omega) (by rw [e0]; omega)]
      have e1' : (sV (sA S 0 (S.1 0).toNatClampNeg t) 0 (S.1 0 + 1)).1 1 = M.2.1 0 0 := e1
      rw [N_add_go (i := 1) (by rw [e1']; omega) (by rw [e1']; omega), e1', e0]
      refine ⟨?_, ?_, ?_, (FM_A.tr FM_A).tr FM_A⟩
      · show M.2.1 0 0 + 1 - 1 = M.2.1 0 0
        exact Int32.add_sub_cancel _ _
      · refine (BR_wheel hB c ht).cg rfl rfl rfl rfl rfl rfl rfl rfl rfl ?_
        rw [sA_g, sA_g, sA_g]
      · exact (((FR_A (by omega)).tr (FR_V (Or.inl (by omega)))).tr (FR_A (by omega))).tr (FR_V (Or.inl (by omega)))
  · have em : s_M_wheel M t = (-1, M) := by
      unfold TV at ht
      rw [s_M_wheel, if_pos (i1.mpr (by omega)), if_pos (i2.mpr (by omega))]
    rw [em, s_B_addWheel, if_pos (tee_i.mpr ht)]
    exact ⟨rfl, hB, FR.rf, FM.rf⟩
theorem b_shift (hB : BN S M) : (s_B_setShift S w v).1 = (s_M_shift M w v).1 ∧ BN (s_B_setShift S w v).2 (s_M_shift M w v).2 ∧ FR S (s_B_setShift S w v).2 ∧ FM M (s_M_shift M w v).2 := by
  have hG := hB.1
  have bb := hG.1
  obtain ⟨e0, e1, -⟩ := hB.2.1
  have c1 : (cap 1 : Int) = 16 := by decide
  rw [s_B_setShift, s_M_shift, has_eq hB]
  by_cases h : s_M_isWheel M w = 0
  · rw [if_pos h, if_pos h]; exact ⟨rfl, hB, FR.rf, FM.rf⟩
  · rw [if_neg h, if_neg h]
    have hw := isW hG h
    by_cases h2 : TS v
    · rw [if_neg (fun q => sh_i.mp q h2), if_neg (fun q => (TS_in v).mp q h2)]
      obtain ⟨t, s, h1, h2', h3, h4, -⟩ := view hB hw
      have ex : ((17 : Int32) + w).toNatClampNeg = 17 + w.toNatClampNeg := ad_tn (C := 17) (by decide) hw.1 (by have := hw.2; omega)
      rw [s_M_becomes, h2', h4, N_set_go hw.1 (by rw [e1]; exact hw.2) (by have := hw.2; omega), ex]
      refine ⟨rfl, ?_, FR_A (by omega), FM_A⟩
      exact (BR_shift hB hw h2).cg rfl rfl rfl rfl rfl rfl rfl rfl rfl sA_g
    · rw [if_pos (sh_i.mpr h2), if_pos ((TS_in v).mpr h2)]; exact ⟨rfl, hB, FR.rf, FM.rf⟩
theorem b_press (hB : BN S M) : (s_B_setPressure S v).1 = (s_M_pressure M v).1 ∧ BN (s_B_setPressure S v).2 (s_M_pressure M v).2 ∧ FR S (s_B_setPressure S v).2 ∧ FM M (s_M_pressure M v).2 := by
  have e2 : (2 : Int64).toInt = 2 := by decide
  have e3 : (2 : Int32).toInt = 2 := by decide
  have ei : s_M_in v.toInt64 (0 : Int64) (2 : Int64) = 0 ↔ ¬ (0 ≤ v.toInt ∧ v.toInt ≤ 2) := by rw [in_i, i64_of, z64, e2]
  have e4 := hB.2.1.2.2.2.2
  have en : (33 : Int32).toNatClampNeg = 33 := by decide
  rw [s_B_setPressure, s_M_pressure, s_M_becomes, en]
  by_cases h : 0 ≤ v.toInt ∧ v.toInt ≤ 2
  · rw [if_neg (by rw [lt32, z32]; omega), if_pos (by rw [le32, e3]; omega), if_neg (fun q => ei.mp q h)]
    exact ⟨e4, (BR_press hB h).cg rfl rfl rfl rfl rfl rfl rfl rfl rfl sA_g, FR_V (Or.inr rfl), FM_A⟩
  · rw [if_pos (ei.mpr h)]
    by_cases h1 : v < 0
    · rw [if_pos h1]; exact ⟨rfl, hB, FR.rf, FM.rf⟩
    · rw [if_neg h1, if_neg (by rw [lt32, z32] at h1; rw [le32, e3]; omega)]; exact ⟨rfl, hB, FR.rf, FM.rf⟩
theorem b_pair (hB : BN S M) : (s_B_addPair S a b).1 = (s_M_pair M a b).1 ∧ BN (s_B_addPair S a b).2 (s_M_pair M a b).2 ∧ FR S (s_B_addPair S a b).2 ∧ FM M (s_M_pair M a b).2 := by
  have hG := hB.1
  have bb := hG.2.2.1
  obtain ⟨-, -, e2, e3, -⟩ := hB.2.1
  have c2 : (cap 2 : Int) = 9 := by decide
  have c3 : (cap 3 : Int) = 9 := by decide
  by_cases h : s_M_isPair M a b = 0
  · rw [s_B_addPair, s_M_pair, can_eq hB, if_pos h, if_pos h]; exact ⟨rfl, hB, FR.rf, FM.rf⟩
  · by_cases c : M.2.1 0 34 = 9
    · rw [s_B_addPair, s_M_pair, can_eq hB, if_neg h, if_neg h, if_pos c, if_neg (fun q => by rw [full_i, e2, c, c2] at q; revert q; decide)]
      exact ⟨rfl, hB, FR.rf, FM.rf⟩
    · have hc : (M.2.1 0 34).toInt ≠ 9 := fun e => c (eq32.mpr (by rw [e]; decide))
      rw [pair_eq hG h c, s_B_addPair, can_eq hB, if_neg h, if_pos (by rw [full_i, e2]; omega), N_add_go (S := S) (i := 2) (by rw [e2]; omega) (by rw [e2]; omega)]
      have e3' : (sV (sA S 2 (S.1 2).toNatClampNeg a) 2 (S.1 2 + 1)).1 3 = M.2.1 0 34 := e3
      rw [N_add_go (i := 3) (by rw [e3']; omega) (by rw [e3']; omega), e3', e2]
      refine ⟨rfl, ?_, ?_, (FM_A.tr FM_A).tr FM_A⟩
      · refine (BR_pair hB c ((PM_PR hG).mp (PM_of hG h))).cg rfl rfl rfl rfl rfl rfl rfl rfl rfl ?_
        rw [sA_g, sA_g, sA_g]
      · exact (((FR_A (by omega)).tr (FR_V (Or.inl (by omega)))).tr (FR_A (by omega))).tr (FR_V (Or.inl (by omega)))
theorem b_clear (hB : BN S M) : (s_B_emptyTrain S).1 = (s_M_clear M).1 ∧ BN (s_B_emptyTrain S).2 (s_M_clear M).2 ∧ FR S (s_B_emptyTrain S).2 ∧ FM M (s_M_clear M).2 := by
  have en : (34 : Int32).toNatClampNeg = 34 := by decide
  rw [s_B_emptyTrain, s_M_clear, s_M_becomes, en]
  exact ⟨hB.2.1.2.2.1, (BR_clear hB).cg rfl rfl rfl rfl rfl rfl rfl rfl rfl sA_g, (FR_V (Or.inl (by omega))).tr (FR_V (Or.inl (by omega))), FM_A⟩
theorem q_wheel (h : Rel S M) : (s_P_wheel S t).1 = (s_M_wheel M t).1 ∧ Rel (s_P_wheel S t).2 (s_M_wheel M t).2 := by
  obtain ⟨q1, q2, q3, q4⟩ := b_wheel (t := t) h.1
  exact ⟨q1, Rel_of h q2 q3 q4⟩
theorem q_shift (h : Rel S M) : (s_P_shift S w v).1 = (s_M_shift M w v).1 ∧ Rel (s_P_shift S w v).2 (s_M_shift M w v).2 := by
  obtain ⟨q1, q2, q3, q4⟩ := b_shift (w := w) (v := v) h.1
  exact ⟨q1, Rel_of h q2 q3 q4⟩
theorem q_pressure (h : Rel S M) : (s_P_pressure S v).1 = (s_M_pressure M v).1 ∧ Rel (s_P_pressure S v).2 (s_M_pressure M v).2 := by
  obtain ⟨q1, q2, q3, q4⟩ := b_press (v := v) h.1
  exact ⟨q1, Rel_of h q2 q3 q4⟩
theorem q_pair (h : Rel S M) : (s_P_pair S a b).1 = (s_M_pair M a b).1 ∧ Rel (s_P_pair S a b).2 (s_M_pair M a b).2 := by
  obtain ⟨q1, q2, q3, q4⟩ := b_pair (a := a) (b := b) h.1
  exact ⟨q1, Rel_of h q2 q3 q4⟩
theorem q_clear (h : Rel S M) : (s_P_clear S).1 = (s_M_clear M).1 ∧ Rel (s_P_clear S).2 (s_M_clear M).2 := by
  obtain ⟨q1, q2, q3, q4⟩ := b_clear h.1
  exact ⟨q1, Rel_of h q2 q3 q4⟩
end mu2
