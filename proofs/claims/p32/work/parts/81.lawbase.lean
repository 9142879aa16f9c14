/-! the law: its base -/
theorem arr_i {s : State} {b : Nat} (h : (Cond.arrayClass .int).before #[Value.ref b] s = true) : ∃ cA : ClassId, ArrOfT s cA .int ∧ va_RA s cA .int := by
  obtain ⟨cA, kA, comp, h1, h2, h3⟩ := Cond.arrayClass_spec h
  exact ⟨cA, fun n z => ⟨fun k e => (by cases e), kA, h2, comp, h3⟩, h1⟩
theorem arr_l {s : State} {b : Nat} (h : (Cond.arrayClass .long).before #[Value.ref b] s = true) : ∃ cA : ClassId, ArrOfT s cA .long ∧ va_RA s cA .long := by
  obtain ⟨cA, kA, comp, h1, h2, h3⟩ := Cond.arrayClass_spec h
  exact ⟨cA, fun n z => ⟨fun k e => (by cases e), kA, h2, comp, h3⟩, h1⟩
theorem arr_r {s : State} {b : Nat} (h : (Cond.arrayOver (.object "PinionBench$Row")).before #[Value.ref b] s = true) : ∃ cA : ClassId, ArrOfT s cA (.object "PinionBench$Row") ∧ va_RA s cA (.object "PinionBench$Row") := by
  obtain ⟨comp, cA, kA, h1, -, h2, h3, h4⟩ := Cond.arrayOver_spec h
  exact ⟨cA, fun n z => ⟨fun k e => (by cases e), kA, h2, comp, h3⟩, kA, comp, h2, h3, h1, h4⟩
theorem law_tb {s : State} {b : Nat} (hts : ∀ w ∈ lw_tbl, w.before #[Value.ref b] s = true) : ∀ w ∈ TB, w.before #[Value.ref b] s = true := fun w h => hts w (List.mem_filter.mp h).1
theorem law_E {s : State} {b : Nat} (hts : ∀ w ∈ lw_tbl, w.before #[Value.ref b] s = true) : ∃ E : Cx, KK E s ∧ AO s := by
  have htb := law_tb hts
  obtain ⟨c0, i0, k0⟩ := u_known (C := R_B) (T := F_B) (N := 5) htb i_B (htb _ in_B)
  obtain ⟨c1, i1, k1⟩ := u_known (C := R_N) (T := F_N) (N := 2) htb i_N (htb _ in_N)
  obtain ⟨c2, i2, k2⟩ := u_known (C := R_O) (T := F_O) (N := 2) htb i_O (htb _ in_O)
  obtain ⟨c3, i3, k3⟩ := u_known (C := R_H) (T := F_H) (N := 7) htb i_H (htb _ in_H)
  obtain ⟨c4, i4, k4⟩ := u_known (C := R_X) (T := F_X) (N := 6) htb i_X (htb _ in_X)
  obtain ⟨c5, i5, k5⟩ := u_known (C := R_P) (T := F_P) (N := 7) htb i_P (htb _ in_P)
  obtain ⟨cI, aI, rI⟩ := arr_i (htb _ ac_int)
  obtain ⟨cJ, aJ, rJ⟩ := arr_l (htb _ ac_long)
  have hO : (Cond.arrayOver (.object "PinionBench$Row")).before #[Value.ref b] s = true := hts _ (List.mem_of_getElem? (i := 109) (by decide +kernel))
  obtain ⟨cR, aR, rR⟩ := arr_r hO
  refine ⟨((fun k => ([c0, c1, c2, c3, c4, c5] : List ClassId).getD k c0, fun k => ([i0, i1, i2, i3, i4, i5] : List (Nat → Nat)).getD k i0), cI, cJ, cR), ⟨⟨fun k q hq => ?_, fun k q hq => ?_⟩, fun q hq => va_Nw.of rfl (hts _ (nest_tbl q hq))⟩, va_AO.of hO⟩
  · match k, hq with
    | 0, hq => cases hq; exact k0
    | 1, hq => cases hq; exact k1
    | 2, hq => cases hq; exact k2
    | 3, hq => cases hq; exact k3
    | 4, hq => cases hq; exact k4
    | 5, hq => cases hq; exact k5
    | k + 6, hq => simp at hq
  · match k, hq with
    | 0, hq => cases hq; exact ⟨aI, rI⟩
    | 1, hq => cases hq; exact ⟨aJ, rJ⟩
    | 2, hq => cases hq; exact ⟨aR, rR⟩
    | k + 3, hq => simp [TY] at hq
theorem D_mp {A : Nat → Prop} {ws ws' : va_W} (h : va_D A ws) (e : ws'.map (fun q => q.1) = ws.map (fun q => q.1)) : va_D A ws' := by
  have k : ∀ (i : Nat) (p : Nat × va_E), ws'[i]? = some p → ∃ p' : Nat × va_E, ws[i]? = some p' ∧ p'.1 = p.1 := by
    intro i p hp
    have h1 : (ws'.map (fun q => q.1))[i]? = some p.1 := by rw [List.getElem?_map, hp]; rfl
    rw [e, List.getElem?_map] at h1
    obtain ⟨p', a, b⟩ := Option.map_eq_some_iff.mp h1
    exact ⟨p', a, b⟩
  refine ⟨fun i j p q hi hj hpq => ?_, fun i p hi => ?_⟩
  · obtain ⟨p', a1, a2⟩ := k i p hi
    obtain ⟨q', b1, b2⟩ := k j q hj
    exact h.1 i j p' q' a1 b1 (by rw [a2, b2]; exact hpq)
  · obtain ⟨p', a1, a2⟩ := k i p hi
    rw [← a2]; exact h.2 i p' a1
abbrev LA (s : State) : Nat → Prop := fun q => s.heap.size ≤ q
/-! the law's texts, as the start has them -/
def tmS (i : Nat) : Term := Term.string "PinionBenchLaw" (164 + 2 * i)
abbrev GVC : List Cond := flatC (Jvm.Cond.and given_1 narrow_1)
theorem m_ex : ∀ i : Nat, i < 10 → Cond.exactly (tmS i) "java/lang/String" ∈ GVC := by decide +kernel
theorem m_co : ∀ i : Nat, i < 10 → Cond.eq (.field (tmS i) "java/lang/String" "coder" "B") (.int 0) ∈ GVC := by decide +kernel
theorem m_ar : ∀ i : Nat, i < 10 → Cond.arrayOf (.field (tmS i) "java/lang/String" "value" "[B") .byte ∈ GVC := by decide +kernel
theorem m_le : ∀ i : Nat, i < 10 → Cond.eq (.length (.field (tmS i) "java/lang/String" "value" "[B")) (.int (Int32.ofNat (TLN.getD i 0))) ∈ GVC := by decide +kernel
theorem m_el : ∀ i : Nat, i < 10 → ∀ j : Nat, j < TLN.getD i 0 → Cond.eq (.elem (.field (tmS i) "java/lang/String" "value" "[B") (.int (Int32.ofNat j))) (.int ((TBY.getD i []).getD j 0)) ∈ GVC := by decide +kernel
theorem m_ne : ∀ i : Nat, i < 10 → ∀ j : Nat, j < 10 → i ≠ j → Cond.not (Cond.eq (tmS i) (tmS j)) ∈ GVC ∨ Cond.not (Cond.eq (tmS j) (tmS i)) ∈ GVC := by decide +kernel
theorem m_tx : ∀ j : Nat, j < 10 → Cond.eq (.elem (.static "PinionBenchLaw" "TEXTS" "[Ljava/lang/String;") (.int (Int32.ofNat j))) (tmS j) ∈ GVC := by decide +kernel
theorem law_TX {s : State} {b : Nat} (hts : ∀ w ∈ lw_tbl, w.before #[Value.ref b] s = true) (hgv : (Jvm.Cond.and given_1 narrow_1).before #[Value.ref b] s = true) : ∃ (tq : Nat) (aK aV : Nat → Nat), TX tq aK aV (LA s) s s.heap := by
  have hA : ∀ a : Nat, a < s.heap.size → ¬ LA s a := fun a h q => absurd h (Nat.not_lt.mpr q)
  have hv : ∀ w ∈ GVC, w.before #[Value.ref b] s = true := flat_of_before _ hgv
  obtain ⟨aK, aV, hS, he⟩ := vk_Sof (args := #[Value.ref b]) (s := s) (N := 10) (tm := tmS) (len := TLN) (byt := TBY) (A := LA s) (by decide) (fun i hi => hv _ (m_ex i hi)) (fun i hi => hv _ (m_co i hi)) (fun i hi => hv _ (m_ar i hi)) (fun i hi => hv _ (m_le i hi)) (fun i hi j hj => hv _ (m_el i hi j hj)) (fun i j hi hj hij => (m_ne i hi j hj hij).imp (fun q => hv _ q) (fun q => hv _ q)) hA
  obtain ⟨tq, ht, hT⟩ := va_Tof (args := #[Value.ref b]) (s := s) (tm := .static "PinionBenchLaw" "TEXTS" "[Ljava/lang/String;") (ty := .object "java/lang/String") (N := 10) (f := fun j => .ref (aK j)) (A := LA s) (by decide) (hv _ (by decide +kernel)) (va_eqt (hv _ (by decide +kernel))) (fun j hj => va_eqv (hv _ (m_tx j hj)) (he j hj)) hA
  have z1 : va_Z "PinionBenchLaw" "TEXTS" "[Ljava/lang/String;" (.ref tq) (LA s) s s.heap := va_Zref (args := #[Value.ref b]) (hts _ (by decide +kernel)) (hts _ (by decide +kernel)) ht hA
  have z2 : va_Z "java/lang/String" "COMPACT_STRINGS" "Z" (.int 1) (LA s) s s.heap := va_Zof (args := #[Value.ref b]) (hts _ (by decide +kernel)) (hts _ (by decide +kernel)) (va_eqi (hv _ (by decide +kernel))) hA
  have z3 : va_Zq "jdk/internal/util/Preconditions" "SIOOBE_FORMATTER" "Ljava/util/function/BiFunction;" (LA s) s s.heap := va_Zqof (args := #[Value.ref b]) (hts _ (by decide +kernel)) (hts _ (by decide +kernel)) (hv _ (by decide +kernel)) hA
  exact ⟨tq, aK, aV, z1, hT, hS, z2, z3⟩
