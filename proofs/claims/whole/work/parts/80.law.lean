/-! the law: its base -/
theorem arr_i {s : State} {b : Nat} (h : (Cond.arrayClass .int).before #[Value.ref b] s = true) : ∃ cA : ClassId, ArrOfT s cA .int ∧ va_RA s cA .int := by
  obtain ⟨cA, kA, comp, h1, h2, h3⟩ := Cond.arrayClass_spec h
  exact ⟨cA, fun n z => ⟨fun k e => (by cases e), kA, h2, comp, h3⟩, h1⟩
theorem arr_l {s : State} {b : Nat} (h : (Cond.arrayClass .long).before #[Value.ref b] s = true) : ∃ cA : ClassId, ArrOfT s cA .long ∧ va_RA s cA .long := by
  obtain ⟨cA, kA, comp, h1, h2, h3⟩ := Cond.arrayClass_spec h
  exact ⟨cA, fun n z => ⟨fun k e => (by cases e), kA, h2, comp, h3⟩, h1⟩
theorem arr_r {s : State} {b : Nat} (h : (Cond.arrayOver (.object "PinionBench$Row")).before #[Value.ref b] s = true) : ∃ cA : ClassId, ArrOfT s cA (.object "PinionBench$Row") ∧ va_RA s cA (.object "PinionBench$Row") := by
  obtain ⟨comp, cA, kA, h1, -, h2, h3, h4⟩ := Cond.arrayOver_spec h
  exact ⟨cA, fun n z => ⟨fun k e => (by cases e), kA, h2, comp, h3⟩, kA, comp, h2, h3, h1, h4⟩
theorem law_tb {s : State} {b : Nat} (hts : ∀ w ∈ lw_tbl, w.before #[Value.ref b] s = true) : ∀ w ∈ TB, w.before #[Value.ref b] s = true := fun w h => hts w (List.mem_filter.mp h).1
theorem law_E {s : State} {b : Nat} (hts : ∀ w ∈ lw_tbl, w.before #[Value.ref b] s = true) : ∃ E : Cx, KK E s ∧ AO s := by
  have htb := law_tb hts
  obtain ⟨c0, i0, k0⟩ := u_known (C := R_B) (T := F_B) (N := 5) htb i_B (htb _ in_B)
  obtain ⟨c1, i1, k1⟩ := u_known (C := R_N) (T := F_N) (N := 2) htb i_N (htb _ in_N)
  obtain ⟨c2, i2, k2⟩ := u_known (C := R_O) (T := F_O) (N := 2) htb i_O (htb _ in_O)
  obtain ⟨c3, i3, k3⟩ := u_known (C := R_H) (T := F_H) (N := 7) htb i_H (htb _ in_H)
  obtain ⟨c4, i4, k4⟩ := u_known (C := R_X) (T := F_X) (N := 6) htb i_X (htb _ in_X)
  obtain ⟨c5, i5, k5⟩ := u_known (C := R_P) (T := F_P) (N := 7) htb i_P (htb _ in_P)
  obtain ⟨c6, i6, k6⟩ := u_known (C := R_M) (T := F_M) (N := 20) htb i_M (htb _ in_M)
  obtain ⟨cI, aI, rI⟩ := arr_i (htb _ ac_int)
  obtain ⟨cJ, aJ, rJ⟩ := arr_l (htb _ ac_long)
  have hO : (Cond.arrayOver (.object "PinionBench$Row")).before #[Value.ref b] s = true := hts _ (List.mem_of_getElem? (i := 133) (by decide +kernel))
  obtain ⟨cR, aR, rR⟩ := arr_r hO
  refine ⟨((fun k => ([c0, c1, c2, c3, c4, c5, c6] : List ClassId).getD k c0, fun k => ([i0, i1, i2, i3, i4, i5, i6] : List (Nat → Nat)).getD k i0), cI, cJ, cR), ⟨⟨fun k q hq => ?_, fun k q hq => ?_⟩, fun q hq => va_Nw.of rfl (hts _ (nest_tbl q hq))⟩, va_AO.of hO⟩
  · match k, hq with
    | 0, hq => cases hq; exact k0
    | 1, hq => cases hq; exact k1
    | 2, hq => cases hq; exact k2
    | 3, hq => cases hq; exact k3
    | 4, hq => cases hq; exact k4
    | 5, hq => cases hq; exact k5
    | 6, hq => cases hq; exact k6
    | k + 7, hq => simp at hq
  · match k, hq with
    | 0, hq => cases hq; exact ⟨aI, rI⟩
    | 1, hq => cases hq; exact ⟨aJ, rJ⟩
    | 2, hq => cases hq; exact ⟨aR, rR⟩
    | k + 3, hq => simp [TY] at hq
theorem D_mp {A : Nat → Prop} {ws ws' : va_W} (h : va_D A ws) (e : ws'.map (fun q => q.1) = ws.map (fun q => q.1)) : va_D A ws' := by
  have k : ∀ (i : Nat) (p : Nat × va_E), ws'[i]? = some p → ∃ p' : Nat × va_E, ws[i]? = some p' ∧ p'.1 = p.1 := by
    intro i p hp
    have h1 : (ws'.map (fun q => q.1))[i]? = some p.1 := by rw [List.getElem?_map, hp]; rfl
    rw [e, List.getElem?_map] at h1
    obtain ⟨p', a, b⟩ := Option.map_eq_some_iff.mp h1
    exact ⟨p', a, b⟩
  refine ⟨fun i j p q hi hj hpq => ?_, fun i p hi => ?_⟩
  · obtain ⟨p', a1, a2⟩ := k i p hi
    obtain ⟨q', b1, b2⟩ := k j q hj
    exact h.1 i j p' q' a1 b1 (by rw [a2, b2]; exact hpq)
  · obtain ⟨p', a1, a2⟩ := k i p hi
    rw [← a2]; exact h.2 i p' a1
abbrev LA (s : State) : Nat → Prop := fun q => s.heap.size ≤ q
/-- what stays true over the whole run -/
def LC (p : Program) (s : State) (m : MethodId) (c : Code) (b L : Nat) (xs : Nat → Int32) (E : Cx) (ad ae : Nat → Nat) : Prop := p.tables.exec = Jvm.exec ∧ c.code = code ∧ c.maxLocals = 4 ∧ s.vm.findClass R_L = some m.cls ∧ (∀ w ∈ TB, w.before #[Value.ref b] s = true) ∧ va_X b L xs s s.heap ∧ b < s.heap.size ∧ KK E s ∧ ∀ S' M' : St, va_D (LA s) (wb E ad S' ++ wm E ae M')
/-- six ints are left of the script -/
def LX (i : Int32) (L : Nat) : Prop := 0 ≤ i.toInt ∧ i.toInt + 6 ≤ (L : Int) ∧ L ≤ 3072
theorem lx_0 {i : Int32} {L : Nat} (h : LX i L) : vp_in i L := by
  obtain ⟨h0, h1, h2⟩ := h
  exact vin_k ⟨h0, by omega⟩
theorem lx_1 {i : Int32} {L : Nat} (h : LX i L) : vp_in (i + (1 : Int32)) L := by
  obtain ⟨h0, h1, h2⟩ := h
  have e : (1 : Int32).toInt = 1 := by decide
  exact vin_k (by rw [i32_add (by rw [e]; omega) (by rw [e]; omega), e]; omega)
theorem lx_2 {i : Int32} {L : Nat} (h : LX i L) : vp_in (i + (2 : Int32)) L := by
  obtain ⟨h0, h1, h2⟩ := h
  have e : (2 : Int32).toInt = 2 := by decide
  exact vin_k (by rw [i32_add (by rw [e]; omega) (by rw [e]; omega), e]; omega)
theorem lx_3 {i : Int32} {L : Nat} (h : LX i L) : vp_in (i + (3 : Int32)) L := by
  obtain ⟨h0, h1, h2⟩ := h
  have e : (3 : Int32).toInt = 3 := by decide
  exact vin_k (by rw [i32_add (by rw [e]; omega) (by rw [e]; omega), e]; omega)
theorem lx_4 {i : Int32} {L : Nat} (h : LX i L) : vp_in (i + (4 : Int32)) L := by
  obtain ⟨h0, h1, h2⟩ := h
  have e : (4 : Int32).toInt = 4 := by decide
  exact vin_k (by rw [i32_add (by rw [e]; omega) (by rw [e]; omega), e]; omega)
theorem lx_5 {i : Int32} {L : Nat} (h : LX i L) : vp_in (i + (5 : Int32)) L := by
  obtain ⟨h0, h1, h2⟩ := h
  have e : (5 : Int32).toInt = 5 := by decide
  exact vin_k (by rw [i32_add (by rw [e]; omega) (by rw [e]; omega), e]; omega)
