/-! by program (wip/p32/cls.py) -/
def s_X_length (S : St) : Int32 := (s_N_size S 12)
set_option maxRecDepth 20000 in
theorem c_X_length (l : Launch) (E : Cx) (ad : Nat → Nat) (X : va_W) (S : St) : Met l y_X_length (Cond.code y_X_length b_X_length 1 (some .int) :: TB) (rk 1 20) (va_Pc [.ref (ad 43)] (preR E (wb E ad S ++ X))) (vp_Si (fun r => r = (s_X_length S))) 0 0 (fun _ => False) := by
  refine w_roI rfl (Nat.le_of_ble_eq_true rfl) rfl ?_
  intro p e s m args below meth c Q ls hx hb hml hts hown hP hK hl hend
  have hl : lv_has ls 1 [(0, .ref (ad 43))] := hl
  have hP : va_P E.1 vwCl (wb E ad S ++ X) s.heap := hP
  have hown : s.vm.findClass R_X = some m.cls := hown
  refine lv_aload_n hx hb d_X_length_0 rfl (lv_at hl 0 rfl) ?_
  refine g_X_bytes hx hb hts hown hK hP d_X_length_1 ?_
  refine k_vi (rest := []) (c_N_size l E ad X S 12 (Nat.le_of_ble_eq_true rfl)) mi_N_size ml_X_43 hx hb hml hts hown hK hP (rvN (Nat.le_of_ble_eq_true rfl)) hl ⟨rfl, rfl⟩ ⟨(Nat.le_of_ble_eq_true rfl), (Nat.le_of_ble_eq_true rfl)⟩ ⟨Nat.zero_le _, Nat.zero_le _⟩ rfl (Nat.le_of_ble_eq_true rfl) rfl d_X_length_4 ?_
  exact hend _ _ _ (by rw [s_X_length]) d_X_length_7

def s_X_acts (S : St) : Int32 := (s_N_size S 13)
set_option maxRecDepth 20000 in
theorem c_X_acts (l : Launch) (E : Cx) (ad : Nat → Nat) (X : va_W) (S : St) : Met l y_X_acts (Cond.code y_X_acts b_X_acts 1 (some .int) :: TB) (rk 1 20) (va_Pc [.ref (ad 43)] (preR E (wb E ad S ++ X))) (vp_Si (fun r => r = (s_X_acts S))) 0 0 (fun _ => False) := by
  refine w_roI rfl (Nat.le_of_ble_eq_true rfl) rfl ?_
  intro p e s m args below meth c Q ls hx hb hml hts hown hP hK hl hend
  have hl : lv_has ls 1 [(0, .ref (ad 43))] := hl
  have hP : va_P E.1 vwCl (wb E ad S ++ X) s.heap := hP
  have hown : s.vm.findClass R_X = some m.cls := hown
  refine lv_aload_n hx hb d_X_acts_0 rfl (lv_at hl 0 rfl) ?_
  refine g_X_letters hx hb hts hown hK hP d_X_acts_1 ?_
  refine k_vi (rest := []) (c_N_size l E ad X S 13 (Nat.le_of_ble_eq_true rfl)) mi_N_size ml_X_43 hx hb hml hts hown hK hP (rvN (Nat.le_of_ble_eq_true rfl)) hl ⟨rfl, rfl⟩ ⟨(Nat.le_of_ble_eq_true rfl), (Nat.le_of_ble_eq_true rfl)⟩ ⟨Nat.zero_le _, Nat.zero_le _⟩ rfl (Nat.le_of_ble_eq_true rfl) rfl d_X_acts_4 ?_
  exact hend _ _ _ (by rw [s_X_acts]) d_X_acts_7

def s_X_letterOf (S : St) (a1 : Int32) : Int32 := (s_N_at S 13 a1)
set_option maxRecDepth 20000 in
theorem c_X_letterOf (l : Launch) (E : Cx) (ad : Nat → Nat) (X : va_W) (S : St) (a1 : Int32) : Met l y_X_letterOf (Cond.code y_X_letterOf b_X_letterOf 2 (some .int) :: TB) (rk 1 21) (va_Pc [.ref (ad 43), .int a1] (preR E (wb E ad S ++ X))) (vp_Si (fun r => r = (s_X_letterOf S a1))) 0 0 (fun _ => False) := by
  refine w_roI rfl (Nat.le_of_ble_eq_true rfl) rfl ?_
  intro p e s m args below meth c Q ls hx hb hml hts hown hP hK hl hend
  have hl : lv_has ls 2 [(0, .ref (ad 43)), (1, .int a1)] := hl
  have hP : va_P E.1 vwCl (wb E ad S ++ X) s.heap := hP
  have hown : s.vm.findClass R_X = some m.cls := hown
  refine lv_aload_n hx hb d_X_letterOf_0 rfl (lv_at hl 0 rfl) ?_
  refine g_X_letters hx hb hts hown hK hP d_X_letterOf_1 ?_
  refine lv_iload_n hx hb d_X_letterOf_4 rfl (lv_at hl 1 rfl) ?_
  refine k_vi (rest := []) (c_N_at l E ad X S 13 (Nat.le_of_ble_eq_true rfl) a1) mi_N_at ml_X_50 hx hb hml hts hown hK hP (rvN (Nat.le_of_ble_eq_true rfl)) hl ⟨rfl, rfl⟩ ⟨(Nat.le_of_ble_eq_true rfl), (Nat.le_of_ble_eq_true rfl)⟩ ⟨Nat.zero_le _, Nat.zero_le _⟩ rfl (Nat.le_of_ble_eq_true rfl) rfl d_X_letterOf_5 ?_
  exact hend _ _ _ (by rw [s_X_letterOf]) d_X_letterOf_8

def s_X_firstOf (S : St) (a1 : Int32) : Int32 := (s_N_at S 14 a1)
set_option maxRecDepth 20000 in
theorem c_X_firstOf (l : Launch) (E : Cx) (ad : Nat → Nat) (X : va_W) (S : St) (a1 : Int32) : Met l y_X_firstOf (Cond.code y_X_firstOf b_X_firstOf 2 (some .int) :: TB) (rk 1 21) (va_Pc [.ref (ad 43), .int a1] (preR E (wb E ad S ++ X))) (vp_Si (fun r => r = (s_X_firstOf S a1))) 0 0 (fun _ => False) := by
  refine w_roI rfl (Nat.le_of_ble_eq_true rfl) rfl ?_
  intro p e s m args below meth c Q ls hx hb hml hts hown hP hK hl hend
  have hl : lv_has ls 2 [(0, .ref (ad 43)), (1, .int a1)] := hl
  have hP : va_P E.1 vwCl (wb E ad S ++ X) s.heap := hP
  have hown : s.vm.findClass R_X = some m.cls := hown
  refine lv_aload_n hx hb d_X_firstOf_0 rfl (lv_at hl 0 rfl) ?_
  refine g_X_firsts hx hb hts hown hK hP d_X_firstOf_1 ?_
  refine lv_iload_n hx hb d_X_firstOf_4 rfl (lv_at hl 1 rfl) ?_
  refine k_vi (rest := []) (c_N_at l E ad X S 14 (Nat.le_of_ble_eq_true rfl) a1) mi_N_at ml_X_50 hx hb hml hts hown hK hP (rvN (Nat.le_of_ble_eq_true rfl)) hl ⟨rfl, rfl⟩ ⟨(Nat.le_of_ble_eq_true rfl), (Nat.le_of_ble_eq_true rfl)⟩ ⟨Nat.zero_le _, Nat.zero_le _⟩ rfl (Nat.le_of_ble_eq_true rfl) rfl d_X_firstOf_5 ?_
  exact hend _ _ _ (by rw [s_X_firstOf]) d_X_firstOf_8

def s_X_secondOf (S : St) (a1 : Int32) : Int32 := (s_N_at S 15 a1)
set_option maxRecDepth 20000 in
theorem c_X_secondOf (l : Launch) (E : Cx) (ad : Nat → Nat) (X : va_W) (S : St) (a1 : Int32) : Met l y_X_secondOf (Cond.code y_X_secondOf b_X_secondOf 2 (some .int) :: TB) (rk 1 21) (va_Pc [.ref (ad 43), .int a1] (preR E (wb E ad S ++ X))) (vp_Si (fun r => r = (s_X_secondOf S a1))) 0 0 (fun _ => False) := by
  refine w_roI rfl (Nat.le_of_ble_eq_true rfl) rfl ?_
  intro p e s m args below meth c Q ls hx hb hml hts hown hP hK hl hend
  have hl : lv_has ls 2 [(0, .ref (ad 43)), (1, .int a1)] := hl
  have hP : va_P E.1 vwCl (wb E ad S ++ X) s.heap := hP
  have hown : s.vm.findClass R_X = some m.cls := hown
  refine lv_aload_n hx hb d_X_secondOf_0 rfl (lv_at hl 0 rfl) ?_
  refine g_X_seconds hx hb hts hown hK hP d_X_secondOf_1 ?_
  refine lv_iload_n hx hb d_X_secondOf_4 rfl (lv_at hl 1 rfl) ?_
  refine k_vi (rest := []) (c_N_at l E ad X S 15 (Nat.le_of_ble_eq_true rfl) a1) mi_N_at ml_X_50 hx hb hml hts hown hK hP (rvN (Nat.le_of_ble_eq_true rfl)) hl ⟨rfl, rfl⟩ ⟨(Nat.le_of_ble_eq_true rfl), (Nat.le_of_ble_eq_true rfl)⟩ ⟨Nat.zero_le _, Nat.zero_le _⟩ rfl (Nat.le_of_ble_eq_true rfl) rfl d_X_secondOf_5 ?_
  exact hend _ _ _ (by rw [s_X_secondOf]) d_X_secondOf_8

def s_X_next (S : St) : Int32 := (if (s_N_has S 12 (S.1 23)) = 0 then (-1 : Int32) else (s_N_at S 12 (S.1 23)))
set_option maxRecDepth 20000 in
theorem c_X_next (l : Launch) (E : Cx) (ad : Nat → Nat) (X : va_W) (S : St) : Met l y_X_next (Cond.code y_X_next b_X_next 1 (some .int) :: TB) (rk 1 21) (va_Pc [.ref (ad 43)] (preR E (wb E ad S ++ X))) (vp_Si (fun r => r = (s_X_next S))) 0 0 (fun _ => False) := by
  refine w_roI rfl (Nat.le_of_ble_eq_true rfl) rfl ?_
  intro p e s m args below meth c Q ls hx hb hml hts hown hP hK hl hend
  have hl : lv_has ls 1 [(0, .ref (ad 43))] := hl
  have hP : va_P E.1 vwCl (wb E ad S ++ X) s.heap := hP
  have hown : s.vm.findClass R_X = some m.cls := hown
  refine lv_aload_n hx hb d_X_next_0 rfl (lv_at hl 0 rfl) ?_
  refine g_X_bytes hx hb hts hown hK hP d_X_next_1 ?_
  refine lv_aload_n hx hb d_X_next_4 rfl (lv_at hl 0 rfl) ?_
  refine g_X_place hx hb hts hown hK hP d_X_next_5 ?_
  refine k_vi (rest := []) (c_N_has l E ad X S 12 (Nat.le_of_ble_eq_true rfl) (S.1 23)) mi_N_has ml_X_74 hx hb hml hts hown hK hP (rvN (Nat.le_of_ble_eq_true rfl)) hl ⟨rfl, rfl⟩ ⟨(Nat.le_of_ble_eq_true rfl), (Nat.le_of_ble_eq_true rfl)⟩ ⟨Nat.zero_le _, Nat.zero_le _⟩ rfl (Nat.le_of_ble_eq_true rfl) rfl d_X_next_8 ?_
  refine lv_if_eq (tgt := 28) hx hb d_X_next_11 (by decide) (fun c_11 => ?_) (fun c_11 => ?_)
  · refine lv_iconst (v := (-1 : Int32)) hx hb d_X_next_28 rfl ?_
    exact hend _ _ _ (by rw [s_X_next, if_pos c_11]) d_X_next_29
  · refine lv_aload_n hx hb d_X_next_14 rfl (lv_at hl 0 rfl) ?_
    refine g_X_bytes hx hb hts hown hK hP d_X_next_15 ?_
    refine lv_aload_n hx hb d_X_next_18 rfl (lv_at hl 0 rfl) ?_
    refine g_X_place hx hb hts hown hK hP d_X_next_19 ?_
    refine k_vi (rest := []) (c_N_at l E ad X S 12 (Nat.le_of_ble_eq_true rfl) (S.1 23)) mi_N_at ml_X_50 hx hb hml hts hown hK hP (rvN (Nat.le_of_ble_eq_true rfl)) hl ⟨rfl, rfl⟩ ⟨(Nat.le_of_ble_eq_true rfl), (Nat.le_of_ble_eq_true rfl)⟩ ⟨Nat.zero_le _, Nat.zero_le _⟩ rfl (Nat.le_of_ble_eq_true rfl) rfl d_X_next_22 ?_
    refine lv_goto (tgt := 29) hx hb d_X_next_25 (by decide) ?_
    exact hend _ _ _ (by rw [s_X_next, if_neg c_11]) d_X_next_29

def s_X_empty (S : St) : St := (s_N_empty S 12)
set_option maxRecDepth 20000 in
theorem c_X_empty (l : Launch) (E : Cx) (ad : Nat → Nat) (X : va_W) (S : St) (A : Nat → Prop) : Met l y_X_empty (Cond.code y_X_empty b_X_empty 1 none :: TB) (rk 1 20) (va_Pc [.ref (ad 43)] (preM E A (fun S => wb E ad S ++ X) S)) (va_Qv (fun u => u = (s_X_empty S)) (fun u t => va_P E.1 vwCl ((fun S => wb E ad S ++ X) u) t.heap) A) 0 0 A := by
  refine w_muV rfl (Nat.le_of_ble_eq_true rfl) ?_
  intro p e s m args below meth c Q ls hx hb hml hts hown hP hK hD hS hl hend
  have hl : lv_has ls 1 [(0, .ref (ad 43))] := hl
  have hP : va_P E.1 vwCl (wb E ad S ++ X) s.heap := hP
  have hown : s.vm.findClass R_X = some m.cls := hown
  have hD : ∀ S' : St, va_D A (wb E ad S' ++ X) := hD
  refine lv_aload_n hx hb d_X_empty_0 rfl (lv_at hl 0 rfl) ?_
  refine g_X_bytes hx hb hts hown hK hP d_X_empty_1 ?_
  refine k_mvv (rest := []) (c_N_empty l E ad X S A 12 (Nat.le_of_ble_eq_true rfl)) mi_N_empty ml_X_47 hx hb hml hts hown hK hP hD hS (rvN (Nat.le_of_ble_eq_true rfl)) hl ⟨rfl, rfl⟩ ⟨(Nat.le_of_ble_eq_true rfl), (Nat.le_of_ble_eq_true rfl)⟩ ⟨Nat.zero_le _, Nat.zero_le _⟩ rfl (Nat.le_of_ble_eq_true rfl) rfl d_X_empty_4 (fun H locs hP hS => ?_)
  have hP : va_P E.1 vwCl (wb E ad (s_N_empty S 12) ++ X) H := hP
  exact hend _ _ _ _ _ (by rw [s_X_empty]) hP hS d_X_empty_7

def s_X_append (S : St) (a1 : Int32) : Int32 × St := (if a1 < (32 : Int32) then ((-1 : Int32), S) else (if a1 ≤ (126 : Int32) then (if (s_N_isFull S 12) = 0 then ((s_N_size (s_N_add S 12 a1) 12), (s_N_add S 12 a1)) else ((-3 : Int32), S)) else ((-1 : Int32), S)))
set_option maxRecDepth 20000 in
theorem c_X_append (l : Launch) (E : Cx) (ad : Nat → Nat) (X : va_W) (S : St) (A : Nat → Prop) (a1 : Int32) : Met l y_X_append (Cond.code y_X_append b_X_append 2 (some .int) :: TB) (rk 1 21) (va_Pc [.ref (ad 43), .int a1] (preM E A (fun S => wb E ad S ++ X) S)) (va_Qi (fun r u => (r, u) = (s_X_append S a1)) (fun u t => va_P E.1 vwCl ((fun S => wb E ad S ++ X) u) t.heap) A) 0 0 A := by
  refine w_muI rfl (Nat.le_of_ble_eq_true rfl) rfl ?_
  intro p e s m args below meth c Q ls hx hb hml hts hown hP hK hD hS hl hend
  have hl : lv_has ls 2 [(0, .ref (ad 43)), (1, .int a1)] := hl
  have hP : va_P E.1 vwCl (wb E ad S ++ X) s.heap := hP
  have hown : s.vm.findClass R_X = some m.cls := hown
  have hD : ∀ S' : St, va_D A (wb E ad S' ++ X) := hD
  refine lv_iload_n hx hb d_X_append_0 rfl (lv_at hl 1 rfl) ?_
  refine lv_bipush (v := (32 : Int32)) hx hb d_X_append_1 rfl ?_
  refine lv_icmp_lt (tgt := 12) hx hb d_X_append_3 (by decide) (fun c_3 => ?_) (fun c_3 => ?_)
  · refine lv_iconst (v := (-1 : Int32)) hx hb d_X_append_12 rfl ?_
    exact hend _ _ _ _ _ _ (by rw [s_X_append, if_pos c_3]) hP hS d_X_append_13
  · refine lv_iload_n hx hb d_X_append_6 rfl (lv_at hl 1 rfl) ?_
    refine lv_bipush (v := (126 : Int32)) hx hb d_X_append_7 rfl ?_
    refine lv_icmp_le (tgt := 14) hx hb d_X_append_9 (by decide) (fun c_9 => ?_) (fun c_9 => ?_)
    · refine lv_aload_n hx hb d_X_append_14 rfl (lv_at hl 0 rfl) ?_
      refine g_X_bytes hx hb hts hown hK hP d_X_append_15 ?_
      refine k_vi (rest := []) (c_N_isFull l E ad X S 12 (Nat.le_of_ble_eq_true rfl)) mi_N_isFull ml_X_36 hx hb hml hts hown hK hP (rvN (Nat.le_of_ble_eq_true rfl)) hl ⟨rfl, rfl⟩ ⟨(Nat.le_of_ble_eq_true rfl), (Nat.le_of_ble_eq_true rfl)⟩ ⟨Nat.zero_le _, Nat.zero_le _⟩ rfl (Nat.le_of_ble_eq_true rfl) rfl d_X_append_18 ?_
      refine lv_if_eq (tgt := 27) hx hb d_X_append_21 (by decide) (fun c_21 => ?_) (fun c_21 => ?_)
      · refine lv_aload_n hx hb d_X_append_27 rfl (lv_at hl 0 rfl) ?_
        refine g_X_bytes hx hb hts hown hK hP d_X_append_28 ?_
        refine lv_iload_n hx hb d_X_append_31 rfl (lv_at hl 1 rfl) ?_
        refine k_mvv (rest := []) (c_N_add l E ad X S A 12 (Nat.le_of_ble_eq_true rfl) a1) mi_N_add ml_X_40 hx hb hml hts hown hK hP hD hS (rvN (Nat.le_of_ble_eq_true rfl)) hl ⟨rfl, rfl⟩ ⟨(Nat.le_of_ble_eq_true rfl), (Nat.le_of_ble_eq_true rfl)⟩ ⟨Nat.zero_le _, Nat.zero_le _⟩ rfl (Nat.le_of_ble_eq_true rfl) rfl d_X_append_32 (fun H locs hP hS => ?_)
        have hP : va_P E.1 vwCl (wb E ad (s_N_add S 12 a1) ++ X) H := hP
        refine lv_aload_n hx hb d_X_append_35 rfl (lv_at hl 0 rfl) ?_
        refine g_X_bytes hx hb hts hown hK hP d_X_append_36 ?_
        refine k_vi (rest := []) (c_N_size l E ad X (s_N_add S 12 a1) 12 (Nat.le_of_ble_eq_true rfl)) mi_N_size ml_X_43 hx hb hml hts hown hK hP (rvN (Nat.le_of_ble_eq_true rfl)) hl ⟨rfl, rfl⟩ ⟨(Nat.le_of_ble_eq_true rfl), (Nat.le_of_ble_eq_true rfl)⟩ ⟨Nat.zero_le _, Nat.zero_le _⟩ rfl (Nat.le_of_ble_eq_true rfl) rfl d_X_append_39 ?_
        exact hend _ _ _ _ _ _ (by rw [s_X_append, if_neg c_3, if_pos c_9, if_pos c_21]) hP hS d_X_append_42
      · refine lv_bipush (v := (-3 : Int32)) hx hb d_X_append_24 rfl ?_
        exact hend _ _ _ _ _ _ (by rw [s_X_append, if_neg c_3, if_pos c_9, if_neg c_21]) hP hS d_X_append_26
    · refine lv_iconst (v := (-1 : Int32)) hx hb d_X_append_12 rfl ?_
      exact hend _ _ _ _ _ _ (by rw [s_X_append, if_neg c_3, if_neg c_9]) hP hS d_X_append_13

def s_X_skip (S : St) (a1 : Int32) : Int32 × St := (if (s_X_next S) = a1 then (if (1 : Int32) = 0 then ((1 : Int32), S) else ((1 : Int32), (sV S 23 ((S.1 23) + (1 : Int32))))) else (if (0 : Int32) = 0 then ((0 : Int32), S) else ((0 : Int32), (sV S 23 ((S.1 23) + (1 : Int32))))))
theorem z_X_skip (S : St) (a1 : Int32) : (s_X_skip S a1).1 = 0 ∨ (s_X_skip S a1).1 = 1 := by rw [s_X_skip]; exact (ite_z1 (ite_z1 (Or.inr rfl) (Or.inr rfl)) (ite_z1 (Or.inl rfl) (Or.inl rfl)))
set_option maxRecDepth 20000 in
theorem c_X_skip (l : Launch) (E : Cx) (ad : Nat → Nat) (X : va_W) (S : St) (A : Nat → Prop) (a1 : Int32) : Met l y_X_skip (Cond.code y_X_skip b_X_skip 3 (some .boolean) :: TB) (rk 2 41) (va_Pc [.ref (ad 43), .int a1] (preM E A (fun S => wb E ad S ++ X) S)) (va_Qi (fun r u => (r, u) = (s_X_skip S a1)) (fun u t => va_P E.1 vwCl ((fun S => wb E ad S ++ X) u) t.heap) A) 0 0 A := by
  refine w_muI rfl (Nat.le_of_ble_eq_true rfl) (k_nb (z_X_skip S a1)) ?_
  intro p e s m args below meth c Q ls hx hb hml hts hown hP hK hD hS hl hend
  have hl : lv_has ls 3 [(0, .ref (ad 43)), (1, .int a1)] := hl
  have hP : va_P E.1 vwCl (wb E ad S ++ X) s.heap := hP
  have hown : s.vm.findClass R_X = some m.cls := hown
  have hD : ∀ S' : St, va_D A (wb E ad S' ++ X) := hD
  refine lv_aload_n hx hb d_X_skip_0 rfl (lv_at hl 0 rfl) ?_
  refine k_vi (rest := []) (c_X_next l E ad X S) mi_X_next ml_X_61 hx hb hml hts hown hK hP rvX hl ⟨rfl, rfl⟩ ⟨(Nat.le_of_ble_eq_true rfl), (Nat.le_of_ble_eq_true rfl)⟩ ⟨Nat.zero_le _, Nat.zero_le _⟩ rfl (Nat.le_of_ble_eq_true rfl) rfl d_X_skip_1 ?_
  refine lv_iload_n hx hb d_X_skip_4 rfl (lv_at hl 1 rfl) ?_
  refine lv_icmp_ne (tgt := 12) hx hb d_X_skip_5 (by decide) (fun c_5 => ?_) (fun c_5 => ?_)
  · refine lv_iconst (v := (0 : Int32)) hx hb d_X_skip_12 rfl ?_
    refine lv_istore_n (lv' := [(2, .int (0 : Int32)), (0, .ref (ad 43)), (1, .int a1)]) hx hb d_X_skip_13 rfl hl (by decide) rfl (fun ls hl => ?_)
    refine lv_iload_n hx hb d_X_skip_14 rfl (lv_at hl 0 rfl) ?_
    refine lv_if_eq (tgt := 28) hx hb d_X_skip_15 (by decide) (fun c_15 => ?_) (fun c_15 => ?_)
    · refine lv_iload_n hx hb d_X_skip_28 rfl (lv_at hl 0 rfl) ?_
      exact hend _ _ _ _ _ _ (by rw [s_X_skip, if_neg c_5, if_pos c_15]) hP hS d_X_skip_29
    · refine lv_aload_n hx hb d_X_skip_18 rfl (lv_at hl 1 rfl) ?_
      refine lv_dup hx hb d_X_skip_19 rfl ?_
      refine g_X_place hx hb hts hown hK hP d_X_skip_20 ?_
      refine lv_iconst (v := (1 : Int32)) hx hb d_X_skip_23 rfl ?_
      refine lv_iadd hx hb d_X_skip_24 ?_
      refine p_X_place hx hb hts hown hK hP hD hS d_X_skip_25 (fun H locs hP hS => ?_)
      have hP : va_P E.1 vwCl (wb E ad (sV S 23 ((S.1 23) + (1 : Int32))) ++ X) H := hP
      refine lv_iload_n hx hb d_X_skip_28 rfl (lv_at hl 0 rfl) ?_
      exact hend _ _ _ _ _ _ (by rw [s_X_skip, if_neg c_5, if_neg c_15]) hP hS d_X_skip_29
  · refine lv_iconst (v := (1 : Int32)) hx hb d_X_skip_8 rfl ?_
    refine lv_goto (tgt := 13) hx hb d_X_skip_9 (by decide) ?_
    refine lv_istore_n (lv' := [(2, .int (1 : Int32)), (0, .ref (ad 43)), (1, .int a1)]) hx hb d_X_skip_13 rfl hl (by decide) rfl (fun ls hl => ?_)
    refine lv_iload_n hx hb d_X_skip_14 rfl (lv_at hl 0 rfl) ?_
    refine lv_if_eq (tgt := 28) hx hb d_X_skip_15 (by decide) (fun c_15 => ?_) (fun c_15 => ?_)
    · refine lv_iload_n hx hb d_X_skip_28 rfl (lv_at hl 0 rfl) ?_
      exact hend _ _ _ _ _ _ (by rw [s_X_skip, if_pos c_5, if_pos c_15]) hP hS d_X_skip_29
    · refine lv_aload_n hx hb d_X_skip_18 rfl (lv_at hl 1 rfl) ?_
      refine lv_dup hx hb d_X_skip_19 rfl ?_
      refine g_X_place hx hb hts hown hK hP d_X_skip_20 ?_
      refine lv_iconst (v := (1 : Int32)) hx hb d_X_skip_23 rfl ?_
      refine lv_iadd hx hb d_X_skip_24 ?_
      refine p_X_place hx hb hts hown hK hP hD hS d_X_skip_25 (fun H locs hP hS => ?_)
      have hP : va_P E.1 vwCl (wb E ad (sV S 23 ((S.1 23) + (1 : Int32))) ++ X) H := hP
      refine lv_iload_n hx hb d_X_skip_28 rfl (lv_at hl 0 rfl) ?_
      exact hend _ _ _ _ _ _ (by rw [s_X_skip, if_pos c_5, if_neg c_15]) hP hS d_X_skip_29

def s_X_parseNumber_b83 (Z : St) (x3 : Int32) (t0 : Int32) : Int32 × St := (if x3 ≤ 0 then ((0 : Int32), (sV Z 24 t0)) else ((1 : Int32), (sV Z 24 t0)))
def s_X_parseNumber_b70 (Z : St) (x2 : Int32) (x3 : Int32) (x4 : Int32) : Int32 × St := (if x2 = 0 then (s_X_parseNumber_b83 Z x3 x4) else (s_X_parseNumber_b83 Z x3 (-x4)))
def s_X_parseNumber_b24 : Nat → St → Int32 → Int32 → Int32 → Int32 × St
  | 0, Z, _, _, _ => (0, Z)
  | n + 1, Z, x2, x3, x4 => (if (3 : Int32) ≤ x3 then (s_X_parseNumber_b70 Z x2 x3 x4) else (if (s_X_isFigure (s_X_next Z)) = 0 then (s_X_parseNumber_b70 Z x2 x3 x4) else (s_X_parseNumber_b24 n (sV Z 23 ((Z.1 23) + (1 : Int32))) x2 (x3 + 1) ((((10 : Int32) * x4) + (s_X_next Z)) - (48 : Int32)))))
def s_X_parseNumber_b18 (Z : St) (t0 : Int32) : Int32 × St := (s_X_parseNumber_b24 (4) Z t0 (0 : Int32) (0 : Int32))
def s_X_parseNumber_b17 (Z : St) : Int32 × St := (s_X_parseNumber_b18 Z (0 : Int32))
def s_X_parseNumber (S : St) (a1 : Int32) : Int32 × St := (if a1 = 0 then (s_X_parseNumber_b17 S) else (if (s_X_skip S (45 : Int32)).1 = 0 then (s_X_parseNumber_b17 (s_X_skip S (45 : Int32)).2) else (s_X_parseNumber_b18 (s_X_skip S (45 : Int32)).2 (1 : Int32))))
theorem z_X_parseNumber_b83 (Z : St) (x3 : Int32) (t0 : Int32) : (s_X_parseNumber_b83 Z x3 t0).1 = 0 ∨ (s_X_parseNumber_b83 Z x3 t0).1 = 1 := by rw [s_X_parseNumber_b83]; exact (ite_z1 (Or.inl rfl) (Or.inr rfl))
theorem z_X_parseNumber_b70 (Z : St) (x2 : Int32) (x3 : Int32) (x4 : Int32) : (s_X_parseNumber_b70 Z x2 x3 x4).1 = 0 ∨ (s_X_parseNumber_b70 Z x2 x3 x4).1 = 1 := by rw [s_X_parseNumber_b70]; exact (ite_z1 (z_X_parseNumber_b83 Z x3 x4) (z_X_parseNumber_b83 Z x3 (-x4)))
theorem z_X_parseNumber_b24 (n : Nat) (Z : St) (x2 : Int32) (x3 : Int32) (x4 : Int32) : (s_X_parseNumber_b24 n Z x2 x3 x4).1 = 0 ∨ (s_X_parseNumber_b24 n Z x2 x3 x4).1 = 1 := by
  induction n generalizing Z x2 x3 x4 with
  | zero => exact Or.inl rfl
  | succ n ih => rw [s_X_parseNumber_b24]; exact (ite_z1 (z_X_parseNumber_b70 Z x2 x3 x4) (ite_z1 (z_X_parseNumber_b70 Z x2 x3 x4) (ih (sV Z 23 ((Z.1 23) + (1 : Int32))) x2 (x3 + 1) ((((10 : Int32) * x4) + (s_X_next Z)) - (48 : Int32)))))
theorem z_X_parseNumber_b18 (Z : St) (t0 : Int32) : (s_X_parseNumber_b18 Z t0).1 = 0 ∨ (s_X_parseNumber_b18 Z t0).1 = 1 := by rw [s_X_parseNumber_b18]; exact (z_X_parseNumber_b24 (4) Z t0 (0 : Int32) (0 : Int32))
theorem z_X_parseNumber_b17 (Z : St) : (s_X_parseNumber_b17 Z).1 = 0 ∨ (s_X_parseNumber_b17 Z).1 = 1 := by rw [s_X_parseNumber_b17]; exact (z_X_parseNumber_b18 Z (0 : Int32))
theorem z_X_parseNumber (S : St) (a1 : Int32) : (s_X_parseNumber S a1).1 = 0 ∨ (s_X_parseNumber S a1).1 = 1 := by rw [s_X_parseNumber]; exact (ite_z1 (z_X_parseNumber_b17 S) (ite_z1 (z_X_parseNumber_b17 (s_X_skip S (45 : Int32)).2) (z_X_parseNumber_b18 (s_X_skip S (45 : Int32)).2 (1 : Int32))))
set_option maxRecDepth 20000 in
theorem c_X_parseNumber (l : Launch) (E : Cx) (ad : Nat → Nat) (X : va_W) (S : St) (A : Nat → Prop) (a1 : Int32) : Met l y_X_parseNumber (Cond.code y_X_parseNumber b_X_parseNumber 5 (some .boolean) :: TB) (rk 3 63) (va_Pc [.ref (ad 43), .int a1] (preM E A (fun S => wb E ad S ++ X) S)) (va_Qi (fun r u => (r, u) = (s_X_parseNumber S a1)) (fun u t => va_P E.1 vwCl ((fun S => wb E ad S ++ X) u) t.heap) A) 0 0 A := by
  refine w_muI rfl (Nat.le_of_ble_eq_true rfl) (k_nb (z_X_parseNumber S a1)) ?_
  intro p e s m args below meth c Q ls hx hb hml hts hown hP hK hD hS hl hend
  have hl : lv_has ls 5 [(0, .ref (ad 43)), (1, .int a1)] := hl
  have hP : va_P E.1 vwCl (wb E ad S ++ X) s.heap := hP
  have hown : s.vm.findClass R_X = some m.cls := hown
  have hD : ∀ S' : St, va_D A (wb E ad S' ++ X) := hD
  have b83 : ∀ (Z : St) (x3 : Int32) (t0 : Int32) (H : Heap) (locs : List Loc), va_P E.1 vwCl (wb E ad Z ++ X) H → va_S A s.heap H locs → ∀ (ls : Array Slot), lv_has ls 5 [(3, .int x3)] → (s_X_parseNumber S a1) = s_X_parseNumber_b83 Z x3 t0 → W p l e (rk 3 63) s m args below meth c H locs 0 0 Q (F0 m 83 ls [.int t0, .ref (ad 43)]) := by
    intro Z x3 t0 H locs hP hS ls hl hq
    refine p_X_number hx hb hts hown hK hP hD hS d_X_parseNumber_83 (fun H locs hP hS => ?_)
    have hP : va_P E.1 vwCl (wb E ad (sV Z 24 t0) ++ X) H := hP
    refine lv_iload_n hx hb d_X_parseNumber_86 rfl (lv_at hl 0 rfl) ?_
    refine lv_if_le (tgt := 94) hx hb d_X_parseNumber_87 (by decide) (fun c_87 => ?_) (fun c_87 => ?_)
    · refine lv_iconst (v := (0 : Int32)) hx hb d_X_parseNumber_94 rfl ?_
      exact hend _ _ _ _ _ _ (by rw [hq, s_X_parseNumber_b83, if_pos c_87]) hP hS d_X_parseNumber_95
    · refine lv_iconst (v := (1 : Int32)) hx hb d_X_parseNumber_90 rfl ?_
      refine lv_goto (tgt := 95) hx hb d_X_parseNumber_91 (by decide) ?_
      exact hend _ _ _ _ _ _ (by rw [hq, s_X_parseNumber_b83, if_neg c_87]) hP hS d_X_parseNumber_95
  have b70 : ∀ (Z : St) (x2 : Int32) (x3 : Int32) (x4 : Int32) (H : Heap) (locs : List Loc), va_P E.1 vwCl (wb E ad Z ++ X) H → va_S A s.heap H locs → ∀ (ls : Array Slot), lv_has ls 5 [(0, .ref (ad 43)), (2, .int x2), (3, .int x3), (4, .int x4)] → (s_X_parseNumber S a1) = s_X_parseNumber_b70 Z x2 x3 x4 → W p l e (rk 3 63) s m args below meth c H locs 0 0 Q (F0 m 70 ls []) := by
    intro Z x2 x3 x4 H locs hP hS ls hl hq
    refine lv_aload_n hx hb d_X_parseNumber_70 rfl (lv_at hl 0 rfl) ?_
    refine lv_iload_n hx hb d_X_parseNumber_71 rfl (lv_at hl 1 rfl) ?_
    refine lv_if_eq (tgt := 81) hx hb d_X_parseNumber_72 (by decide) (fun c_72 => ?_) (fun c_72 => ?_)
    · refine lv_iload hx hb d_X_parseNumber_81 (lv_at hl 3 rfl) ?_
      exact b83 Z x3 x4 H locs hP hS ls (lv_sub hl [2] rfl) (by rw [hq, s_X_parseNumber_b70, if_pos c_72])
    · refine lv_iload hx hb d_X_parseNumber_75 (lv_at hl 3 rfl) ?_
      refine lv_ineg hx hb d_X_parseNumber_77 ?_
      refine lv_goto (tgt := 83) hx hb d_X_parseNumber_78 (by decide) ?_
      exact b83 Z x3 (-x4) H locs hP hS ls (lv_sub hl [2] rfl) (by rw [hq, s_X_parseNumber_b70, if_neg c_72])
  have b24 : ∀ (n : Nat) (Z : St) (x2 : Int32) (x3 : Int32) (x4 : Int32) (H : Heap) (locs : List Loc), va_P E.1 vwCl (wb E ad Z ++ X) H → va_S A s.heap H locs → (UP n 3 x3) → ∀ (ls : Array Slot), lv_has ls 5 [(0, .ref (ad 43)), (2, .int x2), (3, .int x3), (4, .int x4)] → (s_X_parseNumber S a1) = s_X_parseNumber_b24 n Z x2 x3 x4 → W p l e (rk 3 63) s m args below meth c H locs 0 0 Q (F0 m 24 ls []) := by
    intro n24
    induction n24 with
    | zero => intro Z x2 x3 x4 H locs hP hS hv; exact absurd hv (UP_z)
    | succ n24 ih24 =>
      intro Z x2 x3 x4 H locs hP hS hv ls hl hq
      refine lv_iload_n hx hb d_X_parseNumber_24 rfl (lv_at hl 2 rfl) ?_
      refine lv_iconst (v := (3 : Int32)) hx hb d_X_parseNumber_25 rfl ?_
      refine lv_icmp_ge (tgt := 70) hx hb d_X_parseNumber_26 (by decide) (fun c_26 => ?_) (fun c_26 => ?_)
      · exact b70 Z x2 x3 x4 H locs hP hS ls (lv_sub hl [0, 1, 2, 3] rfl) (by rw [hq, s_X_parseNumber_b24, if_pos c_26])
      · refine lv_aload_n hx hb d_X_parseNumber_29 rfl (lv_at hl 0 rfl) ?_
        refine k_vi (rest := []) (c_X_next l E ad X Z) mi_X_next ml_X_61 hx hb hml hts hown hK hP rvX hl ⟨rfl, rfl⟩ ⟨(Nat.le_of_ble_eq_true rfl), (Nat.le_of_ble_eq_true rfl)⟩ ⟨Nat.zero_le _, Nat.zero_le _⟩ rfl (Nat.le_of_ble_eq_true rfl) rfl d_X_parseNumber_30 ?_
        refine k_si (rest := []) (c_X_isFigure l E (s_X_next Z)) mi_X_isFigure ml_X_71 hx hb hml hts hown hK va_nil hl ⟨rfl, rfl⟩ ⟨(Nat.le_of_ble_eq_true rfl), (Nat.le_of_ble_eq_true rfl)⟩ ⟨Nat.zero_le _, Nat.zero_le _⟩ rfl (Nat.le_of_ble_eq_true rfl) rfl d_X_parseNumber_33 ?_
        refine lv_if_eq (tgt := 70) hx hb d_X_parseNumber_36 (by decide) (fun c_36 => ?_) (fun c_36 => ?_)
        · exact b70 Z x2 x3 x4 H locs hP hS ls (lv_sub hl [0, 1, 2, 3] rfl) (by rw [hq, s_X_parseNumber_b24, if_neg c_26, if_pos c_36])
        · refine lv_bipush (v := (10 : Int32)) hx hb d_X_parseNumber_39 rfl ?_
          refine lv_iload hx hb d_X_parseNumber_41 (lv_at hl 3 rfl) ?_
          refine lv_imul hx hb d_X_parseNumber_43 ?_
          refine lv_aload_n hx hb d_X_parseNumber_44 rfl (lv_at hl 0 rfl) ?_
          refine k_vi (rest := [.int ((10 : Int32) * x4)]) (c_X_next l E ad X Z) mi_X_next ml_X_61 hx hb hml hts hown hK hP rvX hl ⟨rfl, rfl⟩ ⟨(Nat.le_of_ble_eq_true rfl), (Nat.le_of_ble_eq_true rfl)⟩ ⟨Nat.zero_le _, Nat.zero_le _⟩ rfl (Nat.le_of_ble_eq_true rfl) rfl d_X_parseNumber_45 ?_
          refine lv_iadd hx hb d_X_parseNumber_48 ?_
          refine lv_bipush (v := (48 : Int32)) hx hb d_X_parseNumber_49 rfl ?_
          refine lv_isub hx hb d_X_parseNumber_51 ?_
          refine lv_istore (lv' := [(4, .int ((((10 : Int32) * x4) + (s_X_next Z)) - (48 : Int32))), (0, .ref (ad 43)), (2, .int x2), (3, .int x3)]) hx hb d_X_parseNumber_52 hl (by decide) rfl (fun ls hl => ?_)
          refine lv_aload_n hx hb d_X_parseNumber_54 rfl (lv_at hl 1 rfl) ?_
          refine lv_dup hx hb d_X_parseNumber_55 rfl ?_
          refine g_X_place hx hb hts hown hK hP d_X_parseNumber_56 ?_
          refine lv_iconst (v := (1 : Int32)) hx hb d_X_parseNumber_59 rfl ?_
          refine lv_iadd hx hb d_X_parseNumber_60 ?_
          refine p_X_place hx hb hts hown hK hP hD hS d_X_parseNumber_61 (fun H locs hP hS => ?_)
          have hP : va_P E.1 vwCl (wb E ad (sV Z 23 ((Z.1 23) + (1 : Int32))) ++ X) H := hP
          refine lv_iinc (v := (x3 + 1)) (lv' := [(3, .int (x3 + 1)), (4, .int ((((10 : Int32) * x4) + (s_X_next Z)) - (48 : Int32))), (0, .ref (ad 43)), (2, .int x2)]) hx hb d_X_parseNumber_64 hl (k := 3) rfl rfl (by decide) rfl (fun ls hl => ?_)
          refine lv_goto (tgt := 24) hx hb d_X_parseNumber_67 (by decide) ?_
          exact ih24 (sV Z 23 ((Z.1 23) + (1 : Int32))) x2 (x3 + 1) ((((10 : Int32) * x4) + (s_X_next Z)) - (48 : Int32)) H locs hP hS (UP_up hv c_26) ls (lv_sub hl [2, 3, 0, 1] rfl) (by rw [hq, s_X_parseNumber_b24, if_neg c_26, if_neg c_36])
  have b18 : ∀ (Z : St) (t0 : Int32) (H : Heap) (locs : List Loc), va_P E.1 vwCl (wb E ad Z ++ X) H → va_S A s.heap H locs → ∀ (ls : Array Slot), lv_has ls 5 [(0, .ref (ad 43))] → (s_X_parseNumber S a1) = s_X_parseNumber_b18 Z t0 → W p l e (rk 3 63) s m args below meth c H locs 0 0 Q (F0 m 18 ls [.int t0]) := by
    intro Z t0 H locs hP hS ls hl hq
    refine lv_istore_n (lv' := [(2, .int t0), (0, .ref (ad 43))]) hx hb d_X_parseNumber_18 rfl hl (by decide) rfl (fun ls hl => ?_)
    refine lv_iconst (v := (0 : Int32)) hx hb d_X_parseNumber_19 rfl ?_
    refine lv_istore_n (lv' := [(3, .int (0 : Int32)), (2, .int t0), (0, .ref (ad 43))]) hx hb d_X_parseNumber_20 rfl hl (by decide) rfl (fun ls hl => ?_)
    refine lv_iconst (v := (0 : Int32)) hx hb d_X_parseNumber_21 rfl ?_
    refine lv_istore (lv' := [(4, .int (0 : Int32)), (3, .int (0 : Int32)), (2, .int t0), (0, .ref (ad 43))]) hx hb d_X_parseNumber_22 hl (by decide) rfl (fun ls hl => ?_)
    exact b24 (4) Z t0 (0 : Int32) (0 : Int32) H locs hP hS (UP_in' (by decide) (by decide)) ls (lv_sub hl [3, 2, 1, 0] rfl) (by rw [hq, s_X_parseNumber_b18])
  have b17 : ∀ (Z : St) (H : Heap) (locs : List Loc), va_P E.1 vwCl (wb E ad Z ++ X) H → va_S A s.heap H locs → ∀ (ls : Array Slot), lv_has ls 5 [(0, .ref (ad 43))] → (s_X_parseNumber S a1) = s_X_parseNumber_b17 Z → W p l e (rk 3 63) s m args below meth c H locs 0 0 Q (F0 m 17 ls []) := by
    intro Z H locs hP hS ls hl hq
    refine lv_iconst (v := (0 : Int32)) hx hb d_X_parseNumber_17 rfl ?_
    exact b18 Z (0 : Int32) H locs hP hS ls (lv_sub hl [0] rfl) (by rw [hq, s_X_parseNumber_b17])
  refine lv_iload_n hx hb d_X_parseNumber_0 rfl (lv_at hl 1 rfl) ?_
  refine lv_if_eq (tgt := 17) hx hb d_X_parseNumber_1 (by decide) (fun c_1 => ?_) (fun c_1 => ?_)
  · exact b17 S s.heap [] hP hS ls (lv_sub hl [0] rfl) (by rw [s_X_parseNumber, if_pos c_1])
  · refine lv_aload_n hx hb d_X_parseNumber_4 rfl (lv_at hl 0 rfl) ?_
    refine lv_bipush (v := (45 : Int32)) hx hb d_X_parseNumber_5 rfl ?_
    refine k_mvi (rest := []) (c_X_skip l E ad X S A (45 : Int32)) mi_X_skip ml_X_57 hx hb hml hts hown hK hP hD hS rvX hl ⟨rfl, rfl⟩ ⟨(Nat.le_of_ble_eq_true rfl), (Nat.le_of_ble_eq_true rfl)⟩ ⟨Nat.zero_le _, Nat.zero_le _⟩ rfl (Nat.le_of_ble_eq_true rfl) rfl d_X_parseNumber_7 (fun H locs hP hS => ?_)
    have hP : va_P E.1 vwCl (wb E ad (s_X_skip S (45 : Int32)).2 ++ X) H := hP
    refine lv_if_eq (tgt := 17) hx hb d_X_parseNumber_10 (by decide) (fun c_10 => ?_) (fun c_10 => ?_)
    · exact b17 (s_X_skip S (45 : Int32)).2 H locs hP hS ls (lv_sub hl [0] rfl) (by rw [s_X_parseNumber, if_neg c_1, if_pos c_10])
    · refine lv_iconst (v := (1 : Int32)) hx hb d_X_parseNumber_13 rfl ?_
      refine lv_goto (tgt := 18) hx hb d_X_parseNumber_14 (by decide) ?_
      exact b18 (s_X_skip S (45 : Int32)).2 (1 : Int32) H locs hP hS ls (lv_sub hl [0] rfl) (by rw [s_X_parseNumber, if_neg c_1, if_neg c_10])

def s_X_parseAct_b114 (Z : St) (x1 : Int32) (x2 : Int32) (x3 : Int32) : Int32 × St := ((1 : Int32), (s_N_add (s_N_add (s_N_add Z 13 x1) 14 x2) 15 x3))
def s_X_parseAct_b101 (Z : St) (x1 : Int32) (x2 : Int32) (t0 : Int32) : Int32 × St := (if (s_X_parseNumber Z t0).1 = 0 then ((0 : Int32), (s_X_parseNumber Z t0).2) else (s_X_parseAct_b114 (s_X_parseNumber Z t0).2 x1 x2 ((s_X_parseNumber Z t0).2.1 24)))
def s_X_parseAct_b80 (Z : St) (x1 : Int32) (x2 : Int32) : Int32 × St := (if (s_X_skip Z (44 : Int32)).1 = 0 then ((0 : Int32), (s_X_skip Z (44 : Int32)).2) else (if x1 = (115 : Int32) then (s_X_parseAct_b101 (s_X_skip Z (44 : Int32)).2 x1 x2 (1 : Int32)) else (s_X_parseAct_b101 (s_X_skip Z (44 : Int32)).2 x1 x2 (0 : Int32))))
def s_X_parseAct_b68 (Z : St) (x1 : Int32) (x2 : Int32) (x3 : Int32) : Int32 × St := (if x1 = (115 : Int32) then (s_X_parseAct_b80 Z x1 x2) else (if x1 = (116 : Int32) then (s_X_parseAct_b80 Z x1 x2) else (s_X_parseAct_b114 Z x1 x2 x3)))
def s_X_parseAct_b55 (Z : St) (x1 : Int32) (x3 : Int32) (t0 : Int32) : Int32 × St := (if (s_X_parseNumber Z t0).1 = 0 then ((0 : Int32), (s_X_parseNumber Z t0).2) else (s_X_parseAct_b68 (s_X_parseNumber Z t0).2 x1 ((s_X_parseNumber Z t0).2.1 24) x3))
def s_X_parseAct (S : St) : Int32 × St := (if (s_X_isLetter (s_X_next S)) = 0 then ((0 : Int32), S) else (if (s_X_next S) = (120 : Int32) then (s_X_parseAct_b68 (sV S 23 ((S.1 23) + (1 : Int32))) (s_X_next S) (0 : Int32) (0 : Int32)) else (if (s_X_skip (sV S 23 ((S.1 23) + (1 : Int32))) (32 : Int32)).1 = 0 then ((0 : Int32), (s_X_skip (sV S 23 ((S.1 23) + (1 : Int32))) (32 : Int32)).2) else (if (s_X_next S) = (119 : Int32) then (s_X_parseAct_b55 (s_X_skip (sV S 23 ((S.1 23) + (1 : Int32))) (32 : Int32)).2 (s_X_next S) (0 : Int32) (1 : Int32)) else (s_X_parseAct_b55 (s_X_skip (sV S 23 ((S.1 23) + (1 : Int32))) (32 : Int32)).2 (s_X_next S) (0 : Int32) (0 : Int32))))))
theorem z_X_parseAct_b114 (Z : St) (x1 : Int32) (x2 : Int32) (x3 : Int32) : (s_X_parseAct_b114 Z x1 x2 x3).1 = 0 ∨ (s_X_parseAct_b114 Z x1 x2 x3).1 = 1 := by rw [s_X_parseAct_b114]; exact (Or.inr rfl)
theorem z_X_parseAct_b101 (Z : St) (x1 : Int32) (x2 : Int32) (t0 : Int32) : (s_X_parseAct_b101 Z x1 x2 t0).1 = 0 ∨ (s_X_parseAct_b101 Z x1 x2 t0).1 = 1 := by rw [s_X_parseAct_b101]; exact (ite_z1 (Or.inl rfl) (z_X_parseAct_b114 (s_X_parseNumber Z t0).2 x1 x2 ((s_X_parseNumber Z t0).2.1 24)))
theorem z_X_parseAct_b80 (Z : St) (x1 : Int32) (x2 : Int32) : (s_X_parseAct_b80 Z x1 x2).1 = 0 ∨ (s_X_parseAct_b80 Z x1 x2).1 = 1 := by rw [s_X_parseAct_b80]; exact (ite_z1 (Or.inl rfl) (ite_z1 (z_X_parseAct_b101 (s_X_skip Z (44 : Int32)).2 x1 x2 (1 : Int32)) (z_X_parseAct_b101 (s_X_skip Z (44 : Int32)).2 x1 x2 (0 : Int32))))
theorem z_X_parseAct_b68 (Z : St) (x1 : Int32) (x2 : Int32) (x3 : Int32) : (s_X_parseAct_b68 Z x1 x2 x3).1 = 0 ∨ (s_X_parseAct_b68 Z x1 x2 x3).1 = 1 := by rw [s_X_parseAct_b68]; exact (ite_z1 (z_X_parseAct_b80 Z x1 x2) (ite_z1 (z_X_parseAct_b80 Z x1 x2) (z_X_parseAct_b114 Z x1 x2 x3)))
theorem z_X_parseAct_b55 (Z : St) (x1 : Int32) (x3 : Int32) (t0 : Int32) : (s_X_parseAct_b55 Z x1 x3 t0).1 = 0 ∨ (s_X_parseAct_b55 Z x1 x3 t0).1 = 1 := by rw [s_X_parseAct_b55]; exact (ite_z1 (Or.inl rfl) (z_X_parseAct_b68 (s_X_parseNumber Z t0).2 x1 ((s_X_parseNumber Z t0).2.1 24) x3))
theorem z_X_parseAct (S : St) : (s_X_parseAct S).1 = 0 ∨ (s_X_parseAct S).1 = 1 := by rw [s_X_parseAct]; exact (ite_z1 (Or.inl rfl) (ite_z1 (z_X_parseAct_b68 (sV S 23 ((S.1 23) + (1 : Int32))) (s_X_next S) (0 : Int32) (0 : Int32)) (ite_z1 (Or.inl rfl) (ite_z1 (z_X_parseAct_b55 (s_X_skip (sV S 23 ((S.1 23) + (1 : Int32))) (32 : Int32)).2 (s_X_next S) (0 : Int32) (1 : Int32)) (z_X_parseAct_b55 (s_X_skip (sV S 23 ((S.1 23) + (1 : Int32))) (32 : Int32)).2 (s_X_next S) (0 : Int32) (0 : Int32))))))
set_option maxRecDepth 20000 in
theorem c_X_parseAct (l : Launch) (E : Cx) (ad : Nat → Nat) (X : va_W) (S : St) (A : Nat → Prop) : Met l y_X_parseAct (Cond.code y_X_parseAct b_X_parseAct 4 (some .boolean) :: TB) (rk 4 87) (va_Pc [.ref (ad 43)] (preM E A (fun S => wb E ad S ++ X) S)) (va_Qi (fun r u => (r, u) = (s_X_parseAct S)) (fun u t => va_P E.1 vwCl ((fun S => wb E ad S ++ X) u) t.heap) A) 0 0 A := by
  refine w_muI rfl (Nat.le_of_ble_eq_true rfl) (k_nb (z_X_parseAct S)) ?_
  intro p e s m args below meth c Q ls hx hb hml hts hown hP hK hD hS hl hend
  have hl : lv_has ls 4 [(0, .ref (ad 43))] := hl
  have hP : va_P E.1 vwCl (wb E ad S ++ X) s.heap := hP
  have hown : s.vm.findClass R_X = some m.cls := hown
  have hD : ∀ S' : St, va_D A (wb E ad S' ++ X) := hD
  have b114 : ∀ (Z : St) (x1 : Int32) (x2 : Int32) (x3 : Int32) (H : Heap) (locs : List Loc), va_P E.1 vwCl (wb E ad Z ++ X) H → va_S A s.heap H locs → ∀ (ls : Array Slot), lv_has ls 4 [(0, .ref (ad 43)), (1, .int x1), (2, .int x2), (3, .int x3)] → (s_X_parseAct S) = s_X_parseAct_b114 Z x1 x2 x3 → W p l e (rk 4 87) s m args below meth c H locs 0 0 Q (F0 m 114 ls []) := by
    intro Z x1 x2 x3 H locs hP hS ls hl hq
    refine lv_aload_n hx hb d_X_parseAct_114 rfl (lv_at hl 0 rfl) ?_
    refine g_X_letters hx hb hts hown hK hP d_X_parseAct_115 ?_
    refine lv_iload_n hx hb d_X_parseAct_118 rfl (lv_at hl 1 rfl) ?_
    refine k_mvv (rest := []) (c_N_add l E ad X Z A 13 (Nat.le_of_ble_eq_true rfl) x1) mi_N_add ml_X_40 hx hb hml hts hown hK hP hD hS (rvN (Nat.le_of_ble_eq_true rfl)) hl ⟨rfl, rfl⟩ ⟨(Nat.le_of_ble_eq_true rfl), (Nat.le_of_ble_eq_true rfl)⟩ ⟨Nat.zero_le _, Nat.zero_le _⟩ rfl (Nat.le_of_ble_eq_true rfl) rfl d_X_parseAct_119 (fun H locs hP hS => ?_)
    have hP : va_P E.1 vwCl (wb E ad (s_N_add Z 13 x1) ++ X) H := hP
    refine lv_aload_n hx hb d_X_parseAct_122 rfl (lv_at hl 0 rfl) ?_
    refine g_X_firsts hx hb hts hown hK hP d_X_parseAct_123 ?_
    refine lv_iload_n hx hb d_X_parseAct_126 rfl (lv_at hl 2 rfl) ?_
    refine k_mvv (rest := []) (c_N_add l E ad X (s_N_add Z 13 x1) A 14 (Nat.le_of_ble_eq_true rfl) x2) mi_N_add ml_X_40 hx hb hml hts hown hK hP hD hS (rvN (Nat.le_of_ble_eq_true rfl)) hl ⟨rfl, rfl⟩ ⟨(Nat.le_of_ble_eq_true rfl), (Nat.le_of_ble_eq_true rfl)⟩ ⟨Nat.zero_le _, Nat.zero_le _⟩ rfl (Nat.le_of_ble_eq_true rfl) rfl d_X_parseAct_127 (fun H locs hP hS => ?_)
    have hP : va_P E.1 vwCl (wb E ad (s_N_add (s_N_add Z 13 x1) 14 x2) ++ X) H := hP
    refine lv_aload_n hx hb d_X_parseAct_130 rfl (lv_at hl 0 rfl) ?_
    refine g_X_seconds hx hb hts hown hK hP d_X_parseAct_131 ?_
    refine lv_iload_n hx hb d_X_parseAct_134 rfl (lv_at hl 3 rfl) ?_
    refine k_mvv (rest := []) (c_N_add l E ad X (s_N_add (s_N_add Z 13 x1) 14 x2) A 15 (Nat.le_of_ble_eq_true rfl) x3) mi_N_add ml_X_40 hx hb hml hts hown hK hP hD hS (rvN (Nat.le_of_ble_eq_true rfl)) hl ⟨rfl, rfl⟩ ⟨(Nat.le_of_ble_eq_true rfl), (Nat.le_of_ble_eq_true rfl)⟩ ⟨Nat.zero_le _, Nat.zero_le _⟩ rfl (Nat.le_of_ble_eq_true rfl) rfl d_X_parseAct_135 (fun H locs hP hS => ?_)
    have hP : va_P E.1 vwCl (wb E ad (s_N_add (s_N_add (s_N_add Z 13 x1) 14 x2) 15 x3) ++ X) H := hP
    refine lv_iconst (v := (1 : Int32)) hx hb d_X_parseAct_138 rfl ?_
    exact hend _ _ _ _ _ _ (by rw [hq, s_X_parseAct_b114]) hP hS d_X_parseAct_139
  have b101 : ∀ (Z : St) (x1 : Int32) (x2 : Int32) (t0 : Int32) (H : Heap) (locs : List Loc), va_P E.1 vwCl (wb E ad Z ++ X) H → va_S A s.heap H locs → ∀ (ls : Array Slot), lv_has ls 4 [(0, .ref (ad 43)), (1, .int x1), (2, .int x2)] → (s_X_parseAct S) = s_X_parseAct_b101 Z x1 x2 t0 → W p l e (rk 4 87) s m args below meth c H locs 0 0 Q (F0 m 101 ls [.int t0, .ref (ad 43)]) := by
    intro Z x1 x2 t0 H locs hP hS ls hl hq
    refine k_mvi (rest := []) (c_X_parseNumber l E ad X Z A t0) mi_X_parseNumber ml_X_67 hx hb hml hts hown hK hP hD hS rvX hl ⟨rfl, rfl⟩ ⟨(Nat.le_of_ble_eq_true rfl), (Nat.le_of_ble_eq_true rfl)⟩ ⟨Nat.zero_le _, Nat.zero_le _⟩ rfl (Nat.le_of_ble_eq_true rfl) rfl d_X_parseAct_101 (fun H locs hP hS => ?_)
    have hP : va_P E.1 vwCl (wb E ad (s_X_parseNumber Z t0).2 ++ X) H := hP
    refine lv_if_ne (tgt := 109) hx hb d_X_parseAct_104 (by decide) (fun c_104 => ?_) (fun c_104 => ?_)
    · refine lv_aload_n hx hb d_X_parseAct_109 rfl (lv_at hl 0 rfl) ?_
      refine g_X_number hx hb hts hown hK hP d_X_parseAct_110 ?_
      refine lv_istore_n (lv' := [(3, .int ((s_X_parseNumber Z t0).2.1 24)), (0, .ref (ad 43)), (1, .int x1), (2, .int x2)]) hx hb d_X_parseAct_113 rfl hl (by decide) rfl (fun ls hl => ?_)
      exact b114 (s_X_parseNumber Z t0).2 x1 x2 ((s_X_parseNumber Z t0).2.1 24) H locs hP hS ls (lv_sub hl [1, 2, 3, 0] rfl) (by rw [hq, s_X_parseAct_b101, if_neg c_104])
    · refine lv_iconst (v := (0 : Int32)) hx hb d_X_parseAct_107 rfl ?_
      exact hend _ _ _ _ _ _ (by rw [hq, s_X_parseAct_b101, if_pos c_104]) hP hS d_X_parseAct_108
  have b80 : ∀ (Z : St) (x1 : Int32) (x2 : Int32) (H : Heap) (locs : List Loc), va_P E.1 vwCl (wb E ad Z ++ X) H → va_S A s.heap H locs → ∀ (ls : Array Slot), lv_has ls 4 [(0, .ref (ad 43)), (1, .int x1), (2, .int x2)] → (s_X_parseAct S) = s_X_parseAct_b80 Z x1 x2 → W p l e (rk 4 87) s m args below meth c H locs 0 0 Q (F0 m 80 ls []) := by
    intro Z x1 x2 H locs hP hS ls hl hq
    refine lv_aload_n hx hb d_X_parseAct_80 rfl (lv_at hl 0 rfl) ?_
    refine lv_bipush (v := (44 : Int32)) hx hb d_X_parseAct_81 rfl ?_
    refine k_mvi (rest := []) (c_X_skip l E ad X Z A (44 : Int32)) mi_X_skip ml_X_57 hx hb hml hts hown hK hP hD hS rvX hl ⟨rfl, rfl⟩ ⟨(Nat.le_of_ble_eq_true rfl), (Nat.le_of_ble_eq_true rfl)⟩ ⟨Nat.zero_le _, Nat.zero_le _⟩ rfl (Nat.le_of_ble_eq_true rfl) rfl d_X_parseAct_83 (fun H locs hP hS => ?_)
    have hP : va_P E.1 vwCl (wb E ad (s_X_skip Z (44 : Int32)).2 ++ X) H := hP
    refine lv_if_eq (tgt := 107) hx hb d_X_parseAct_86 (by decide) (fun c_86 => ?_) (fun c_86 => ?_)
    · refine lv_iconst (v := (0 : Int32)) hx hb d_X_parseAct_107 rfl ?_
      exact hend _ _ _ _ _ _ (by rw [hq, s_X_parseAct_b80, if_pos c_86]) hP hS d_X_parseAct_108
    · refine lv_aload_n hx hb d_X_parseAct_89 rfl (lv_at hl 0 rfl) ?_
      refine lv_iload_n hx hb d_X_parseAct_90 rfl (lv_at hl 1 rfl) ?_
      refine lv_bipush (v := (115 : Int32)) hx hb d_X_parseAct_91 rfl ?_
      refine lv_icmp_ne (tgt := 100) hx hb d_X_parseAct_93 (by decide) (fun c_93 => ?_) (fun c_93 => ?_)
      · refine lv_iconst (v := (0 : Int32)) hx hb d_X_parseAct_100 rfl ?_
        exact b101 (s_X_skip Z (44 : Int32)).2 x1 x2 (0 : Int32) H locs hP hS ls (lv_sub hl [0, 1, 2] rfl) (by rw [hq, s_X_parseAct_b80, if_neg c_86, if_neg c_93])
      · refine lv_iconst (v := (1 : Int32)) hx hb d_X_parseAct_96 rfl ?_
        refine lv_goto (tgt := 101) hx hb d_X_parseAct_97 (by decide) ?_
        exact b101 (s_X_skip Z (44 : Int32)).2 x1 x2 (1 : Int32) H locs hP hS ls (lv_sub hl [0, 1, 2] rfl) (by rw [hq, s_X_parseAct_b80, if_neg c_86, if_pos c_93])
  have b68 : ∀ (Z : St) (x1 : Int32) (x2 : Int32) (x3 : Int32) (H : Heap) (locs : List Loc), va_P E.1 vwCl (wb E ad Z ++ X) H → va_S A s.heap H locs → ∀ (ls : Array Slot), lv_has ls 4 [(0, .ref (ad 43)), (1, .int x1), (2, .int x2), (3, .int x3)] → (s_X_parseAct S) = s_X_parseAct_b68 Z x1 x2 x3 → W p l e (rk 4 87) s m args below meth c H locs 0 0 Q (F0 m 68 ls []) := by
    intro Z x1 x2 x3 H locs hP hS ls hl hq
    refine lv_iload_n hx hb d_X_parseAct_68 rfl (lv_at hl 1 rfl) ?_
    refine lv_bipush (v := (115 : Int32)) hx hb d_X_parseAct_69 rfl ?_
    refine lv_icmp_eq (tgt := 80) hx hb d_X_parseAct_71 (by decide) (fun c_71 => ?_) (fun c_71 => ?_)
    · exact b80 Z x1 x2 H locs hP hS ls (lv_sub hl [0, 1, 2] rfl) (by rw [hq, s_X_parseAct_b68, if_pos c_71])
    · refine lv_iload_n hx hb d_X_parseAct_74 rfl (lv_at hl 1 rfl) ?_
      refine lv_bipush (v := (116 : Int32)) hx hb d_X_parseAct_75 rfl ?_
      refine lv_icmp_ne (tgt := 114) hx hb d_X_parseAct_77 (by decide) (fun c_77 => ?_) (fun c_77 => ?_)
      · exact b114 Z x1 x2 x3 H locs hP hS ls (lv_sub hl [0, 1, 2, 3] rfl) (by rw [hq, s_X_parseAct_b68, if_neg c_71, if_neg c_77])
      · exact b80 Z x1 x2 H locs hP hS ls (lv_sub hl [0, 1, 2] rfl) (by rw [hq, s_X_parseAct_b68, if_neg c_71, if_pos c_77])
  have b55 : ∀ (Z : St) (x1 : Int32) (x3 : Int32) (t0 : Int32) (H : Heap) (locs : List Loc), va_P E.1 vwCl (wb E ad Z ++ X) H → va_S A s.heap H locs → ∀ (ls : Array Slot), lv_has ls 4 [(0, .ref (ad 43)), (1, .int x1), (3, .int x3)] → (s_X_parseAct S) = s_X_parseAct_b55 Z x1 x3 t0 → W p l e (rk 4 87) s m args below meth c H locs 0 0 Q (F0 m 55 ls [.int t0, .ref (ad 43)]) := by
    intro Z x1 x3 t0 H locs hP hS ls hl hq
    refine k_mvi (rest := []) (c_X_parseNumber l E ad X Z A t0) mi_X_parseNumber ml_X_67 hx hb hml hts hown hK hP hD hS rvX hl ⟨rfl, rfl⟩ ⟨(Nat.le_of_ble_eq_true rfl), (Nat.le_of_ble_eq_true rfl)⟩ ⟨Nat.zero_le _, Nat.zero_le _⟩ rfl (Nat.le_of_ble_eq_true rfl) rfl d_X_parseAct_55 (fun H locs hP hS => ?_)
    have hP : va_P E.1 vwCl (wb E ad (s_X_parseNumber Z t0).2 ++ X) H := hP
    refine lv_if_ne (tgt := 63) hx hb d_X_parseAct_58 (by decide) (fun c_58 => ?_) (fun c_58 => ?_)
    · refine lv_aload_n hx hb d_X_parseAct_63 rfl (lv_at hl 0 rfl) ?_
      refine g_X_number hx hb hts hown hK hP d_X_parseAct_64 ?_
      refine lv_istore_n (lv' := [(2, .int ((s_X_parseNumber Z t0).2.1 24)), (0, .ref (ad 43)), (1, .int x1), (3, .int x3)]) hx hb d_X_parseAct_67 rfl hl (by decide) rfl (fun ls hl => ?_)
      exact b68 (s_X_parseNumber Z t0).2 x1 ((s_X_parseNumber Z t0).2.1 24) x3 H locs hP hS ls (lv_sub hl [1, 2, 0, 3] rfl) (by rw [hq, s_X_parseAct_b55, if_neg c_58])
    · refine lv_iconst (v := (0 : Int32)) hx hb d_X_parseAct_61 rfl ?_
      exact hend _ _ _ _ _ _ (by rw [hq, s_X_parseAct_b55, if_pos c_58]) hP hS d_X_parseAct_62
  refine lv_aload_n hx hb d_X_parseAct_0 rfl (lv_at hl 0 rfl) ?_
  refine k_vi (rest := []) (c_X_next l E ad X S) mi_X_next ml_X_61 hx hb hml hts hown hK hP rvX hl ⟨rfl, rfl⟩ ⟨(Nat.le_of_ble_eq_true rfl), (Nat.le_of_ble_eq_true rfl)⟩ ⟨Nat.zero_le _, Nat.zero_le _⟩ rfl (Nat.le_of_ble_eq_true rfl) rfl d_X_parseAct_1 ?_
  refine lv_istore_n (lv' := [(1, .int (s_X_next S)), (0, .ref (ad 43))]) hx hb d_X_parseAct_4 rfl hl (by decide) rfl (fun ls hl => ?_)
  refine lv_iconst (v := (0 : Int32)) hx hb d_X_parseAct_5 rfl ?_
  refine lv_istore_n (lv' := [(2, .int (0 : Int32)), (1, .int (s_X_next S)), (0, .ref (ad 43))]) hx hb d_X_parseAct_6 rfl hl (by decide) rfl (fun ls hl => ?_)
  refine lv_iconst (v := (0 : Int32)) hx hb d_X_parseAct_7 rfl ?_
  refine lv_istore_n (lv' := [(3, .int (0 : Int32)), (2, .int (0 : Int32)), (1, .int (s_X_next S)), (0, .ref (ad 43))]) hx hb d_X_parseAct_8 rfl hl (by decide) rfl (fun ls hl => ?_)
  refine lv_iload_n hx hb d_X_parseAct_9 rfl (lv_at hl 2 rfl) ?_
  refine k_si (rest := []) (c_X_isLetter l E (s_X_next S)) mi_X_isLetter ml_X_64 hx hb hml hts hown hK va_nil hl ⟨rfl, rfl⟩ ⟨(Nat.le_of_ble_eq_true rfl), (Nat.le_of_ble_eq_true rfl)⟩ ⟨Nat.zero_le _, Nat.zero_le _⟩ rfl (Nat.le_of_ble_eq_true rfl) rfl d_X_parseAct_10 ?_
  refine lv_if_ne (tgt := 18) hx hb d_X_parseAct_13 (by decide) (fun c_13 => ?_) (fun c_13 => ?_)
  · refine lv_aload_n hx hb d_X_parseAct_18 rfl (lv_at hl 3 rfl) ?_
    refine lv_dup hx hb d_X_parseAct_19 rfl ?_
    refine g_X_place hx hb hts hown hK hP d_X_parseAct_20 ?_
    refine lv_iconst (v := (1 : Int32)) hx hb d_X_parseAct_23 rfl ?_
    refine lv_iadd hx hb d_X_parseAct_24 ?_
    refine p_X_place hx hb hts hown hK hP hD hS d_X_parseAct_25 (fun H locs hP hS => ?_)
    have hP : va_P E.1 vwCl (wb E ad (sV S 23 ((S.1 23) + (1 : Int32))) ++ X) H := hP
    refine lv_iload_n hx hb d_X_parseAct_28 rfl (lv_at hl 2 rfl) ?_
    refine lv_bipush (v := (120 : Int32)) hx hb d_X_parseAct_29 rfl ?_
    refine lv_icmp_eq (tgt := 68) hx hb d_X_parseAct_31 (by decide) (fun c_31 => ?_) (fun c_31 => ?_)
    · exact b68 (sV S 23 ((S.1 23) + (1 : Int32))) (s_X_next S) (0 : Int32) (0 : Int32) H locs hP hS ls (lv_sub hl [3, 2, 1, 0] rfl) (by rw [s_X_parseAct, if_neg c_13, if_pos c_31])
    · refine lv_aload_n hx hb d_X_parseAct_34 rfl (lv_at hl 3 rfl) ?_
      refine lv_bipush (v := (32 : Int32)) hx hb d_X_parseAct_35 rfl ?_
      refine k_mvi (rest := []) (c_X_skip l E ad X (sV S 23 ((S.1 23) + (1 : Int32))) A (32 : Int32)) mi_X_skip ml_X_57 hx hb hml hts hown hK hP hD hS rvX hl ⟨rfl, rfl⟩ ⟨(Nat.le_of_ble_eq_true rfl), (Nat.le_of_ble_eq_true rfl)⟩ ⟨Nat.zero_le _, Nat.zero_le _⟩ rfl (Nat.le_of_ble_eq_true rfl) rfl d_X_parseAct_37 (fun H locs hP hS => ?_)
      have hP : va_P E.1 vwCl (wb E ad (s_X_skip (sV S 23 ((S.1 23) + (1 : Int32))) (32 : Int32)).2 ++ X) H := hP
      refine lv_if_eq (tgt := 61) hx hb d_X_parseAct_40 (by decide) (fun c_40 => ?_) (fun c_40 => ?_)
      · refine lv_iconst (v := (0 : Int32)) hx hb d_X_parseAct_61 rfl ?_
        exact hend _ _ _ _ _ _ (by rw [s_X_parseAct, if_neg c_13, if_neg c_31, if_pos c_40]) hP hS d_X_parseAct_62
      · refine lv_aload_n hx hb d_X_parseAct_43 rfl (lv_at hl 3 rfl) ?_
        refine lv_iload_n hx hb d_X_parseAct_44 rfl (lv_at hl 2 rfl) ?_
        refine lv_bipush (v := (119 : Int32)) hx hb d_X_parseAct_45 rfl ?_
        refine lv_icmp_ne (tgt := 54) hx hb d_X_parseAct_47 (by decide) (fun c_47 => ?_) (fun c_47 => ?_)
        · refine lv_iconst (v := (0 : Int32)) hx hb d_X_parseAct_54 rfl ?_
          exact b55 (s_X_skip (sV S 23 ((S.1 23) + (1 : Int32))) (32 : Int32)).2 (s_X_next S) (0 : Int32) (0 : Int32) H locs hP hS ls (lv_sub hl [3, 2, 0] rfl) (by rw [s_X_parseAct, if_neg c_13, if_neg c_31, if_neg c_40, if_neg c_47])
        · refine lv_iconst (v := (1 : Int32)) hx hb d_X_parseAct_50 rfl ?_
          refine lv_goto (tgt := 55) hx hb d_X_parseAct_51 (by decide) ?_
          exact b55 (s_X_skip (sV S 23 ((S.1 23) + (1 : Int32))) (32 : Int32)).2 (s_X_next S) (0 : Int32) (1 : Int32) H locs hP hS ls (lv_sub hl [3, 2, 0] rfl) (by rw [s_X_parseAct, if_neg c_13, if_neg c_31, if_neg c_40, if_pos c_47])
  · refine lv_iconst (v := (0 : Int32)) hx hb d_X_parseAct_16 rfl ?_
    exact hend _ _ _ _ _ _ (by rw [s_X_parseAct, if_pos c_13]) hP hS d_X_parseAct_17

def s_X_parse_b28 : Nat → St → Int32 → Int32 × St
  | 0, Z, _ => (0, Z)
  | n + 1, Z, x1 => (if (40 : Int32) ≤ x1 then ((Z.1 23), Z) else (if (s_X_parseAct Z).1 = 0 then (((s_X_parseAct Z).2.1 23), (s_X_parseAct Z).2) else (if ((s_X_parseAct Z).2.1 23) = (s_N_size (s_X_parseAct Z).2 12) then ((-1 : Int32), (s_X_parseAct Z).2) else (if (s_X_skip (s_X_parseAct Z).2 (59 : Int32)).1 = 0 then (((s_X_skip (s_X_parseAct Z).2 (59 : Int32)).2.1 23), (s_X_skip (s_X_parseAct Z).2 (59 : Int32)).2) else (s_X_parse_b28 n (s_X_skip (s_X_parseAct Z).2 (59 : Int32)).2 (x1 + 1))))))
def s_X_parse (S : St) : Int32 × St := (s_X_parse_b28 (41) (s_N_empty (s_N_empty (s_N_empty (sV S 23 (0 : Int32)) 13) 14) 15) (0 : Int32))
set_option maxRecDepth 20000 in
theorem c_X_parse (l : Launch) (E : Cx) (ad : Nat → Nat) (X : va_W) (S : St) (A : Nat → Prop) : Met l y_X_parse (Cond.code y_X_parse b_X_parse 2 (some .int) :: TB) (rk 5 110) (va_Pc [.ref (ad 43)] (preM E A (fun S => wb E ad S ++ X) S)) (va_Qi (fun r u => (r, u) = (s_X_parse S)) (fun u t => va_P E.1 vwCl ((fun S => wb E ad S ++ X) u) t.heap) A) 0 0 A := by
  refine w_muI rfl (Nat.le_of_ble_eq_true rfl) rfl ?_
  intro p e s m args below meth c Q ls hx hb hml hts hown hP hK hD hS hl hend
  have hl : lv_has ls 2 [(0, .ref (ad 43))] := hl
  have hP : va_P E.1 vwCl (wb E ad S ++ X) s.heap := hP
  have hown : s.vm.findClass R_X = some m.cls := hown
  have hD : ∀ S' : St, va_D A (wb E ad S' ++ X) := hD
  have b28 : ∀ (n : Nat) (Z : St) (x1 : Int32) (H : Heap) (locs : List Loc), va_P E.1 vwCl (wb E ad Z ++ X) H → va_S A s.heap H locs → (UP n 40 x1) → ∀ (ls : Array Slot), lv_has ls 2 [(0, .ref (ad 43)), (1, .int x1)] → (s_X_parse S) = s_X_parse_b28 n Z x1 → W p l e (rk 5 110) s m args below meth c H locs 0 0 Q (F0 m 28 ls []) := by
    intro n28
    induction n28 with
    | zero => intro Z x1 H locs hP hS hv; exact absurd hv (UP_z)
    | succ n28 ih28 =>
      intro Z x1 H locs hP hS hv ls hl hq
      refine lv_iload_n hx hb d_X_parse_28 rfl (lv_at hl 1 rfl) ?_
      refine lv_bipush (v := (40 : Int32)) hx hb d_X_parse_29 rfl ?_
      refine lv_icmp_ge (tgt := 82) hx hb d_X_parse_31 (by decide) (fun c_31 => ?_) (fun c_31 => ?_)
      · refine lv_aload_n hx hb d_X_parse_82 rfl (lv_at hl 0 rfl) ?_
        refine g_X_place hx hb hts hown hK hP d_X_parse_83 ?_
        exact hend _ _ _ _ _ _ (by rw [hq, s_X_parse_b28, if_pos c_31]) hP hS d_X_parse_86
      · refine lv_aload_n hx hb d_X_parse_34 rfl (lv_at hl 0 rfl) ?_
        refine k_mvi (rest := []) (c_X_parseAct l E ad X Z A) mi_X_parseAct ml_X_54 hx hb hml hts hown hK hP hD hS rvX hl ⟨rfl, rfl⟩ ⟨(Nat.le_of_ble_eq_true rfl), (Nat.le_of_ble_eq_true rfl)⟩ ⟨Nat.zero_le _, Nat.zero_le _⟩ rfl (Nat.le_of_ble_eq_true rfl) rfl d_X_parse_35 (fun H locs hP hS => ?_)
        have hP : va_P E.1 vwCl (wb E ad (s_X_parseAct Z).2 ++ X) H := hP
        refine lv_if_ne (tgt := 46) hx hb d_X_parse_38 (by decide) (fun c_38 => ?_) (fun c_38 => ?_)
        · refine lv_aload_n hx hb d_X_parse_46 rfl (lv_at hl 0 rfl) ?_
          refine g_X_place hx hb hts hown hK hP d_X_parse_47 ?_
          refine lv_aload_n hx hb d_X_parse_50 rfl (lv_at hl 0 rfl) ?_
          refine g_X_bytes hx hb hts hown hK hP d_X_parse_51 ?_
          refine k_vi (rest := [.int ((s_X_parseAct Z).2.1 23)]) (c_N_size l E ad X (s_X_parseAct Z).2 12 (Nat.le_of_ble_eq_true rfl)) mi_N_size ml_X_43 hx hb hml hts hown hK hP (rvN (Nat.le_of_ble_eq_true rfl)) hl ⟨rfl, rfl⟩ ⟨(Nat.le_of_ble_eq_true rfl), (Nat.le_of_ble_eq_true rfl)⟩ ⟨Nat.zero_le _, Nat.zero_le _⟩ rfl (Nat.le_of_ble_eq_true rfl) rfl d_X_parse_54 ?_
          refine lv_icmp_ne (tgt := 62) hx hb d_X_parse_57 (by decide) (fun c_57 => ?_) (fun c_57 => ?_)
          · refine lv_aload_n hx hb d_X_parse_62 rfl (lv_at hl 0 rfl) ?_
            refine lv_bipush (v := (59 : Int32)) hx hb d_X_parse_63 rfl ?_
            refine k_mvi (rest := []) (c_X_skip l E ad X (s_X_parseAct Z).2 A (59 : Int32)) mi_X_skip ml_X_57 hx hb hml hts hown hK hP hD hS rvX hl ⟨rfl, rfl⟩ ⟨(Nat.le_of_ble_eq_true rfl), (Nat.le_of_ble_eq_true rfl)⟩ ⟨Nat.zero_le _, Nat.zero_le _⟩ rfl (Nat.le_of_ble_eq_true rfl) rfl d_X_parse_65 (fun H locs hP hS => ?_)
            have hP : va_P E.1 vwCl (wb E ad (s_X_skip (s_X_parseAct Z).2 (59 : Int32)).2 ++ X) H := hP
            refine lv_if_ne (tgt := 76) hx hb d_X_parse_68 (by decide) (fun c_68 => ?_) (fun c_68 => ?_)
            · refine lv_iinc (v := (x1 + 1)) (lv' := [(1, .int (x1 + 1)), (0, .ref (ad 43))]) hx hb d_X_parse_76 hl (k := 1) rfl rfl (by decide) rfl (fun ls hl => ?_)
              refine lv_goto (tgt := 28) hx hb d_X_parse_79 (by decide) ?_
              exact ih28 (s_X_skip (s_X_parseAct Z).2 (59 : Int32)).2 (x1 + 1) H locs hP hS (UP_up hv c_31) ls (lv_sub hl [1, 0] rfl) (by rw [hq, s_X_parse_b28, if_neg c_31, if_neg c_38, if_neg c_57, if_neg c_68])
            · refine lv_aload_n hx hb d_X_parse_71 rfl (lv_at hl 0 rfl) ?_
              refine g_X_place hx hb hts hown hK hP d_X_parse_72 ?_
              exact hend _ _ _ _ _ _ (by rw [hq, s_X_parse_b28, if_neg c_31, if_neg c_38, if_neg c_57, if_pos c_68]) hP hS d_X_parse_75
          · refine lv_iconst (v := (-1 : Int32)) hx hb d_X_parse_60 rfl ?_
            exact hend _ _ _ _ _ _ (by rw [hq, s_X_parse_b28, if_neg c_31, if_neg c_38, if_pos c_57]) hP hS d_X_parse_61
        · refine lv_aload_n hx hb d_X_parse_41 rfl (lv_at hl 0 rfl) ?_
          refine g_X_place hx hb hts hown hK hP d_X_parse_42 ?_
          exact hend _ _ _ _ _ _ (by rw [hq, s_X_parse_b28, if_neg c_31, if_pos c_38]) hP hS d_X_parse_45
  refine lv_aload_n hx hb d_X_parse_0 rfl (lv_at hl 0 rfl) ?_
  refine lv_iconst (v := (0 : Int32)) hx hb d_X_parse_1 rfl ?_
  refine p_X_place hx hb hts hown hK hP hD hS d_X_parse_2 (fun H locs hP hS => ?_)
  have hP : va_P E.1 vwCl (wb E ad (sV S 23 (0 : Int32)) ++ X) H := hP
  refine lv_aload_n hx hb d_X_parse_5 rfl (lv_at hl 0 rfl) ?_
  refine g_X_letters hx hb hts hown hK hP d_X_parse_6 ?_
  refine k_mvv (rest := []) (c_N_empty l E ad X (sV S 23 (0 : Int32)) A 13 (Nat.le_of_ble_eq_true rfl)) mi_N_empty ml_X_47 hx hb hml hts hown hK hP hD hS (rvN (Nat.le_of_ble_eq_true rfl)) hl ⟨rfl, rfl⟩ ⟨(Nat.le_of_ble_eq_true rfl), (Nat.le_of_ble_eq_true rfl)⟩ ⟨Nat.zero_le _, Nat.zero_le _⟩ rfl (Nat.le_of_ble_eq_true rfl) rfl d_X_parse_9 (fun H locs hP hS => ?_)
  have hP : va_P E.1 vwCl (wb E ad (s_N_empty (sV S 23 (0 : Int32)) 13) ++ X) H := hP
  refine lv_aload_n hx hb d_X_parse_12 rfl (lv_at hl 0 rfl) ?_
  refine g_X_firsts hx hb hts hown hK hP d_X_parse_13 ?_
  refine k_mvv (rest := []) (c_N_empty l E ad X (s_N_empty (sV S 23 (0 : Int32)) 13) A 14 (Nat.le_of_ble_eq_true rfl)) mi_N_empty ml_X_47 hx hb hml hts hown hK hP hD hS (rvN (Nat.le_of_ble_eq_true rfl)) hl ⟨rfl, rfl⟩ ⟨(Nat.le_of_ble_eq_true rfl), (Nat.le_of_ble_eq_true rfl)⟩ ⟨Nat.zero_le _, Nat.zero_le _⟩ rfl (Nat.le_of_ble_eq_true rfl) rfl d_X_parse_16 (fun H locs hP hS => ?_)
  have hP : va_P E.1 vwCl (wb E ad (s_N_empty (s_N_empty (sV S 23 (0 : Int32)) 13) 14) ++ X) H := hP
  refine lv_aload_n hx hb d_X_parse_19 rfl (lv_at hl 0 rfl) ?_
  refine g_X_seconds hx hb hts hown hK hP d_X_parse_20 ?_
  refine k_mvv (rest := []) (c_N_empty l E ad X (s_N_empty (s_N_empty (sV S 23 (0 : Int32)) 13) 14) A 15 (Nat.le_of_ble_eq_true rfl)) mi_N_empty ml_X_47 hx hb hml hts hown hK hP hD hS (rvN (Nat.le_of_ble_eq_true rfl)) hl ⟨rfl, rfl⟩ ⟨(Nat.le_of_ble_eq_true rfl), (Nat.le_of_ble_eq_true rfl)⟩ ⟨Nat.zero_le _, Nat.zero_le _⟩ rfl (Nat.le_of_ble_eq_true rfl) rfl d_X_parse_23 (fun H locs hP hS => ?_)
  have hP : va_P E.1 vwCl (wb E ad (s_N_empty (s_N_empty (s_N_empty (sV S 23 (0 : Int32)) 13) 14) 15) ++ X) H := hP
  refine lv_iconst (v := (0 : Int32)) hx hb d_X_parse_26 rfl ?_
  refine lv_istore_n (lv' := [(1, .int (0 : Int32)), (0, .ref (ad 43))]) hx hb d_X_parse_27 rfl hl (by decide) rfl (fun ls hl => ?_)
  exact b28 (41) (s_N_empty (s_N_empty (s_N_empty (sV S 23 (0 : Int32)) 13) 14) 15) (0 : Int32) H locs hP hS (UP_in' (by decide) (by decide)) ls (lv_sub hl [1, 0] rfl) (by rw [s_X_parse])
