/-! by program (wip/p32/cls.py) -/
def s_B_addWheel (S : St) (a1 : Int32) : Int32 × St := (if (s_P_isTeeth a1) = 0 then ((-1 : Int32), S) else (if (s_N_isFull S 0) = 0 then (((s_N_size (s_N_add (s_N_add S 0 a1) 1 (0 : Int32)) 0) - (1 : Int32)), (s_N_add (s_N_add S 0 a1) 1 (0 : Int32))) else ((-3 : Int32), S)))
set_option maxRecDepth 20000 in
theorem c_B_addWheel (l : Launch) (E : Cx) (ad : Nat → Nat) (X : va_W) (S : St) (A : Nat → Prop) (a1 : Int32) : Met l y_B_addWheel (Cond.code y_B_addWheel b_B_addWheel 2 (some .int) :: TB) (rk 2 40) (va_Pc [.ref (ad 40), .int a1] (preM E A (fun S => wb E ad S ++ X) S)) (va_Qi (fun r u => (r, u) = (s_B_addWheel S a1)) (fun u t => va_P E.1 vwCl ((fun S => wb E ad S ++ X) u) t.heap) A) 0 0 A := by
  refine w_muI rfl (Nat.le_of_ble_eq_true rfl) rfl ?_
  intro p e s m args below meth c Q ls hx hb hml hts hown hP hK hD hS hl hend
  have hl : lv_has ls 2 [(0, .ref (ad 40)), (1, .int a1)] := hl
  have hP : va_P E.1 vwCl (wb E ad S ++ X) s.heap := hP
  have hown : s.vm.findClass R_B = some m.cls := hown
  have hD : ∀ S' : St, va_D A (wb E ad S' ++ X) := hD
  refine lv_iload_n hx hb d_B_addWheel_0 rfl (lv_at hl 1 rfl) ?_
  refine k_ni (rest := []) (c_P_isTeeth l E a1) mi_P_isTeeth nw_B_49 hx hb hml hts hown hK va_nil hl ⟨rfl, rfl⟩ ⟨(Nat.le_of_ble_eq_true rfl), (Nat.le_of_ble_eq_true rfl)⟩ ⟨Nat.zero_le _, Nat.zero_le _⟩ rfl (Nat.le_of_ble_eq_true rfl) rfl d_B_addWheel_1 ?_
  refine lv_if_ne (tgt := 9) hx hb d_B_addWheel_4 (by decide) (fun c_4 => ?_) (fun c_4 => ?_)
  · refine lv_aload_n hx hb d_B_addWheel_9 rfl (lv_at hl 0 rfl) ?_
    refine g_B0_teeth hx hb hts hown hK hP d_B_addWheel_10 ?_
    refine k_vi (rest := []) (c_N_isFull l E ad X S 0 (Nat.le_of_ble_eq_true rfl)) mi_N_isFull ml_B_52 hx hb hml hts hown hK hP (rvN (Nat.le_of_ble_eq_true rfl)) hl ⟨rfl, rfl⟩ ⟨(Nat.le_of_ble_eq_true rfl), (Nat.le_of_ble_eq_true rfl)⟩ ⟨Nat.zero_le _, Nat.zero_le _⟩ rfl (Nat.le_of_ble_eq_true rfl) rfl d_B_addWheel_13 ?_
    refine lv_if_eq (tgt := 22) hx hb d_B_addWheel_16 (by decide) (fun c_16 => ?_) (fun c_16 => ?_)
    · refine lv_aload_n hx hb d_B_addWheel_22 rfl (lv_at hl 0 rfl) ?_
      refine g_B0_teeth hx hb hts hown hK hP d_B_addWheel_23 ?_
      refine lv_iload_n hx hb d_B_addWheel_26 rfl (lv_at hl 1 rfl) ?_
      refine k_mvv (rest := []) (c_N_add l E ad X S A 0 (Nat.le_of_ble_eq_true rfl) a1) mi_N_add ml_B_56 hx hb hml hts hown hK hP hD hS (rvN (Nat.le_of_ble_eq_true rfl)) hl ⟨rfl, rfl⟩ ⟨(Nat.le_of_ble_eq_true rfl), (Nat.le_of_ble_eq_true rfl)⟩ ⟨Nat.zero_le _, Nat.zero_le _⟩ rfl (Nat.le_of_ble_eq_true rfl) rfl d_B_addWheel_27 (fun H locs hP hS => ?_)
      have hP : va_P E.1 vwCl (wb E ad (s_N_add S 0 a1) ++ X) H := hP
      refine lv_aload_n hx hb d_B_addWheel_30 rfl (lv_at hl 0 rfl) ?_
      refine g_B0_shifts hx hb hts hown hK hP d_B_addWheel_31 ?_
      refine lv_iconst (v := (0 : Int32)) hx hb d_B_addWheel_34 rfl ?_
      refine k_mvv (rest := []) (c_N_add l E ad X (s_N_add S 0 a1) A 1 (Nat.le_of_ble_eq_true rfl) (0 : Int32)) mi_N_add ml_B_56 hx hb hml hts hown hK hP hD hS (rvN (Nat.le_of_ble_eq_true rfl)) hl ⟨rfl, rfl⟩ ⟨(Nat.le_of_ble_eq_true rfl), (Nat.le_of_ble_eq_true rfl)⟩ ⟨Nat.zero_le _, Nat.zero_le _⟩ rfl (Nat.le_of_ble_eq_true rfl) rfl d_B_addWheel_35 (fun H locs hP hS => ?_)
      have hP : va_P E.1 vwCl (wb E ad (s_N_add (s_N_add S 0 a1) 1 (0 : Int32)) ++ X) H := hP
      refine lv_aload_n hx hb d_B_addWheel_38 rfl (lv_at hl 0 rfl) ?_
      refine g_B0_teeth hx hb hts hown hK hP d_B_addWheel_39 ?_
      refine k_vi (rest := []) (c_N_size l E ad X (s_N_add (s_N_add S 0 a1) 1 (0 : Int32)) 0 (Nat.le_of_ble_eq_true rfl)) mi_N_size ml_B_37 hx hb hml hts hown hK hP (rvN (Nat.le_of_ble_eq_true rfl)) hl ⟨rfl, rfl⟩ ⟨(Nat.le_of_ble_eq_true rfl), (Nat.le_of_ble_eq_true rfl)⟩ ⟨Nat.zero_le _, Nat.zero_le _⟩ rfl (Nat.le_of_ble_eq_true rfl) rfl d_B_addWheel_42 ?_
      refine lv_iconst (v := (1 : Int32)) hx hb d_B_addWheel_45 rfl ?_
      refine lv_isub hx hb d_B_addWheel_46 ?_
      exact hend _ _ _ _ _ _ (by rw [s_B_addWheel, if_neg c_4, if_pos c_16]) hP hS d_B_addWheel_47
    · refine lv_bipush (v := (-3 : Int32)) hx hb d_B_addWheel_19 rfl ?_
      exact hend _ _ _ _ _ _ (by rw [s_B_addWheel, if_neg c_4, if_neg c_16]) hP hS d_B_addWheel_21
  · refine lv_iconst (v := (-1 : Int32)) hx hb d_B_addWheel_7 rfl ?_
    exact hend _ _ _ _ _ _ (by rw [s_B_addWheel, if_pos c_4]) hP hS d_B_addWheel_8

def s_B_setShift (S : St) (a1 : Int32) (a2 : Int32) : Int32 × St := (if (s_N_has S 0 a1) = 0 then ((-1000 : Int32), S) else (if (s_P_isShift a2) = 0 then ((-1000 : Int32), S) else ((s_N_at S 1 a1), (s_N_set S 1 a1 a2))))
set_option maxRecDepth 20000 in
theorem c_B_setShift (l : Launch) (E : Cx) (ad : Nat → Nat) (X : va_W) (S : St) (A : Nat → Prop) (a1 : Int32) (a2 : Int32) : Met l y_B_setShift (Cond.code y_B_setShift b_B_setShift 4 (some .int) :: TB) (rk 1 22) (va_Pc [.ref (ad 40), .int a1, .int a2] (preM E A (fun S => wb E ad S ++ X) S)) (va_Qi (fun r u => (r, u) = (s_B_setShift S a1 a2)) (fun u t => va_P E.1 vwCl ((fun S => wb E ad S ++ X) u) t.heap) A) 0 0 A := by
  refine w_muI rfl (Nat.le_of_ble_eq_true rfl) rfl ?_
  intro p e s m args below meth c Q ls hx hb hml hts hown hP hK hD hS hl hend
  have hl : lv_has ls 4 [(0, .ref (ad 40)), (1, .int a1), (2, .int a2)] := hl
  have hP : va_P E.1 vwCl (wb E ad S ++ X) s.heap := hP
  have hown : s.vm.findClass R_B = some m.cls := hown
  have hD : ∀ S' : St, va_D A (wb E ad S' ++ X) := hD
  refine lv_aload_n hx hb d_B_setShift_0 rfl (lv_at hl 0 rfl) ?_
  refine g_B0_teeth hx hb hts hown hK hP d_B_setShift_1 ?_
  refine lv_iload_n hx hb d_B_setShift_4 rfl (lv_at hl 1 rfl) ?_
  refine k_vi (rest := []) (c_N_has l E ad X S 0 (Nat.le_of_ble_eq_true rfl) a1) mi_N_has ml_B_41 hx hb hml hts hown hK hP (rvN (Nat.le_of_ble_eq_true rfl)) hl ⟨rfl, rfl⟩ ⟨(Nat.le_of_ble_eq_true rfl), (Nat.le_of_ble_eq_true rfl)⟩ ⟨Nat.zero_le _, Nat.zero_le _⟩ rfl (Nat.le_of_ble_eq_true rfl) rfl d_B_setShift_5 ?_
  refine lv_if_eq (tgt := 18) hx hb d_B_setShift_8 (by decide) (fun c_8 => ?_) (fun c_8 => ?_)
  · refine lv_sipush (v := (-1000 : Int32)) hx hb d_B_setShift_18 rfl ?_
    exact hend _ _ _ _ _ _ (by rw [s_B_setShift, if_pos c_8]) hP hS d_B_setShift_21
  · refine lv_iload_n hx hb d_B_setShift_11 rfl (lv_at hl 2 rfl) ?_
    refine k_ni (rest := []) (c_P_isShift l E a2) mi_P_isShift nw_B_59 hx hb hml hts hown hK va_nil hl ⟨rfl, rfl⟩ ⟨(Nat.le_of_ble_eq_true rfl), (Nat.le_of_ble_eq_true rfl)⟩ ⟨Nat.zero_le _, Nat.zero_le _⟩ rfl (Nat.le_of_ble_eq_true rfl) rfl d_B_setShift_12 ?_
    refine lv_if_ne (tgt := 22) hx hb d_B_setShift_15 (by decide) (fun c_15 => ?_) (fun c_15 => ?_)
    · refine lv_aload_n hx hb d_B_setShift_22 rfl (lv_at hl 0 rfl) ?_
      refine g_B0_shifts hx hb hts hown hK hP d_B_setShift_23 ?_
      refine lv_iload_n hx hb d_B_setShift_26 rfl (lv_at hl 1 rfl) ?_
      refine k_vi (rest := []) (c_N_at l E ad X S 1 (Nat.le_of_ble_eq_true rfl) a1) mi_N_at ml_B_45 hx hb hml hts hown hK hP (rvN (Nat.le_of_ble_eq_true rfl)) hl ⟨rfl, rfl⟩ ⟨(Nat.le_of_ble_eq_true rfl), (Nat.le_of_ble_eq_true rfl)⟩ ⟨Nat.zero_le _, Nat.zero_le _⟩ rfl (Nat.le_of_ble_eq_true rfl) rfl d_B_setShift_27 ?_
      refine lv_istore_n (lv' := [(3, .int (s_N_at S 1 a1)), (0, .ref (ad 40)), (1, .int a1), (2, .int a2)]) hx hb d_B_setShift_30 rfl hl (by decide) rfl (fun ls hl => ?_)
      refine lv_aload_n hx hb d_B_setShift_31 rfl (lv_at hl 1 rfl) ?_
      refine g_B0_shifts hx hb hts hown hK hP d_B_setShift_32 ?_
      refine lv_iload_n hx hb d_B_setShift_35 rfl (lv_at hl 2 rfl) ?_
      refine lv_iload_n hx hb d_B_setShift_36 rfl (lv_at hl 3 rfl) ?_
      refine k_mvv (rest := []) (c_N_set l E ad X S A 1 (Nat.le_of_ble_eq_true rfl) a1 a2) mi_N_set ml_B_62 hx hb hml hts hown hK hP hD hS (rvN (Nat.le_of_ble_eq_true rfl)) hl ⟨rfl, rfl⟩ ⟨(Nat.le_of_ble_eq_true rfl), (Nat.le_of_ble_eq_true rfl)⟩ ⟨Nat.zero_le _, Nat.zero_le _⟩ rfl (Nat.le_of_ble_eq_true rfl) rfl d_B_setShift_37 (fun H locs hP hS => ?_)
      have hP : va_P E.1 vwCl (wb E ad (s_N_set S 1 a1 a2) ++ X) H := hP
      refine lv_iload_n hx hb d_B_setShift_40 rfl (lv_at hl 0 rfl) ?_
      exact hend _ _ _ _ _ _ (by rw [s_B_setShift, if_neg c_8, if_neg c_15]) hP hS d_B_setShift_41
    · refine lv_sipush (v := (-1000 : Int32)) hx hb d_B_setShift_18 rfl ?_
      exact hend _ _ _ _ _ _ (by rw [s_B_setShift, if_neg c_8, if_pos c_15]) hP hS d_B_setShift_21

def s_B_setPressure (S : St) (a1 : Int32) : Int32 × St := (if a1 < 0 then ((-1 : Int32), S) else (if a1 ≤ (2 : Int32) then ((S.1 19), (sV S 19 a1)) else ((-1 : Int32), S)))
set_option maxRecDepth 20000 in
theorem c_B_setPressure (l : Launch) (E : Cx) (ad : Nat → Nat) (X : va_W) (S : St) (A : Nat → Prop) (a1 : Int32) : Met l y_B_setPressure (Cond.code y_B_setPressure b_B_setPressure 3 (some .int) :: TB) (rk 0 0) (va_Pc [.ref (ad 40), .int a1] (preM E A (fun S => wb E ad S ++ X) S)) (va_Qi (fun r u => (r, u) = (s_B_setPressure S a1)) (fun u t => va_P E.1 vwCl ((fun S => wb E ad S ++ X) u) t.heap) A) 0 0 A := by
  refine w_muI rfl (Nat.le_of_ble_eq_true rfl) rfl ?_
  intro p e s m args below meth c Q ls hx hb hml hts hown hP hK hD hS hl hend
  have hl : lv_has ls 3 [(0, .ref (ad 40)), (1, .int a1)] := hl
  have hP : va_P E.1 vwCl (wb E ad S ++ X) s.heap := hP
  have hown : s.vm.findClass R_B = some m.cls := hown
  have hD : ∀ S' : St, va_D A (wb E ad S' ++ X) := hD
  refine lv_iload_n hx hb d_B_setPressure_0 rfl (lv_at hl 1 rfl) ?_
  refine lv_if_lt (tgt := 9) hx hb d_B_setPressure_1 (by decide) (fun c_1 => ?_) (fun c_1 => ?_)
  · refine lv_iconst (v := (-1 : Int32)) hx hb d_B_setPressure_9 rfl ?_
    exact hend _ _ _ _ _ _ (by rw [s_B_setPressure, if_pos c_1]) hP hS d_B_setPressure_10
  · refine lv_iload_n hx hb d_B_setPressure_4 rfl (lv_at hl 1 rfl) ?_
    refine lv_iconst (v := (2 : Int32)) hx hb d_B_setPressure_5 rfl ?_
    refine lv_icmp_le (tgt := 11) hx hb d_B_setPressure_6 (by decide) (fun c_6 => ?_) (fun c_6 => ?_)
    · refine lv_aload_n hx hb d_B_setPressure_11 rfl (lv_at hl 0 rfl) ?_
      refine g_B0_pressure hx hb hts hown hK hP d_B_setPressure_12 ?_
      refine lv_istore_n (lv' := [(2, .int (S.1 19)), (0, .ref (ad 40)), (1, .int a1)]) hx hb d_B_setPressure_15 rfl hl (by decide) rfl (fun ls hl => ?_)
      refine lv_aload_n hx hb d_B_setPressure_16 rfl (lv_at hl 1 rfl) ?_
      refine lv_iload_n hx hb d_B_setPressure_17 rfl (lv_at hl 2 rfl) ?_
      refine p_B0_pressure hx hb hts hown hK hP hD hS d_B_setPressure_18 (fun H locs hP hS => ?_)
      have hP : va_P E.1 vwCl (wb E ad (sV S 19 a1) ++ X) H := hP
      refine lv_iload_n hx hb d_B_setPressure_21 rfl (lv_at hl 0 rfl) ?_
      exact hend _ _ _ _ _ _ (by rw [s_B_setPressure, if_neg c_1, if_pos c_6]) hP hS d_B_setPressure_22
    · refine lv_iconst (v := (-1 : Int32)) hx hb d_B_setPressure_9 rfl ?_
      exact hend _ _ _ _ _ _ (by rw [s_B_setPressure, if_neg c_1, if_neg c_6]) hP hS d_B_setPressure_10

def s_B_addPair (S : St) (a1 : Int32) (a2 : Int32) : Int32 × St := (if (s_B_canPair S a1 a2) = 0 then ((-1 : Int32), S) else (if (s_N_isFull S 2) = 0 then ((s_N_size (s_N_add (s_N_add S 2 a1) 3 a2) 2), (s_N_add (s_N_add S 2 a1) 3 a2)) else ((-3 : Int32), S)))
set_option maxRecDepth 20000 in
theorem c_B_addPair (l : Launch) (E : Cx) (ad : Nat → Nat) (X : va_W) (S : St) (A : Nat → Prop) (a1 : Int32) (a2 : Int32) : Met l y_B_addPair (Cond.code y_B_addPair b_B_addPair 3 (some .int) :: TB) (rk 3 64) (va_Pc [.ref (ad 40), .int a1, .int a2] (preM E A (fun S => wb E ad S ++ X) S)) (va_Qi (fun r u => (r, u) = (s_B_addPair S a1 a2)) (fun u t => va_P E.1 vwCl ((fun S => wb E ad S ++ X) u) t.heap) A) 0 0 A := by
  refine w_muI rfl (Nat.le_of_ble_eq_true rfl) rfl ?_
  intro p e s m args below meth c Q ls hx hb hml hts hown hP hK hD hS hl hend
  have hl : lv_has ls 3 [(0, .ref (ad 40)), (1, .int a1), (2, .int a2)] := hl
  have hP : va_P E.1 vwCl (wb E ad S ++ X) s.heap := hP
  have hown : s.vm.findClass R_B = some m.cls := hown
  have hD : ∀ S' : St, va_D A (wb E ad S' ++ X) := hD
  refine lv_aload_n hx hb d_B_addPair_0 rfl (lv_at hl 0 rfl) ?_
  refine lv_iload_n hx hb d_B_addPair_1 rfl (lv_at hl 1 rfl) ?_
  refine lv_iload_n hx hb d_B_addPair_2 rfl (lv_at hl 2 rfl) ?_
  refine k_vi (rest := []) (c_B_canPair l E ad X S a1 a2) mi_B_canPair ml_B_66 hx hb hml hts hown hK hP rvB0 hl ⟨rfl, rfl⟩ ⟨(Nat.le_of_ble_eq_true rfl), (Nat.le_of_ble_eq_true rfl)⟩ ⟨Nat.zero_le _, Nat.zero_le _⟩ rfl (Nat.le_of_ble_eq_true rfl) rfl d_B_addPair_3 ?_
  refine lv_if_ne (tgt := 11) hx hb d_B_addPair_6 (by decide) (fun c_6 => ?_) (fun c_6 => ?_)
  · refine lv_aload_n hx hb d_B_addPair_11 rfl (lv_at hl 0 rfl) ?_
    refine g_B0_drivers hx hb hts hown hK hP d_B_addPair_12 ?_
    refine k_vi (rest := []) (c_N_isFull l E ad X S 2 (Nat.le_of_ble_eq_true rfl)) mi_N_isFull ml_B_52 hx hb hml hts hown hK hP (rvN (Nat.le_of_ble_eq_true rfl)) hl ⟨rfl, rfl⟩ ⟨(Nat.le_of_ble_eq_true rfl), (Nat.le_of_ble_eq_true rfl)⟩ ⟨Nat.zero_le _, Nat.zero_le _⟩ rfl (Nat.le_of_ble_eq_true rfl) rfl d_B_addPair_15 ?_
    refine lv_if_eq (tgt := 24) hx hb d_B_addPair_18 (by decide) (fun c_18 => ?_) (fun c_18 => ?_)
    · refine lv_aload_n hx hb d_B_addPair_24 rfl (lv_at hl 0 rfl) ?_
      refine g_B0_drivers hx hb hts hown hK hP d_B_addPair_25 ?_
      refine lv_iload_n hx hb d_B_addPair_28 rfl (lv_at hl 1 rfl) ?_
      refine k_mvv (rest := []) (c_N_add l E ad X S A 2 (Nat.le_of_ble_eq_true rfl) a1) mi_N_add ml_B_56 hx hb hml hts hown hK hP hD hS (rvN (Nat.le_of_ble_eq_true rfl)) hl ⟨rfl, rfl⟩ ⟨(Nat.le_of_ble_eq_true rfl), (Nat.le_of_ble_eq_true rfl)⟩ ⟨Nat.zero_le _, Nat.zero_le _⟩ rfl (Nat.le_of_ble_eq_true rfl) rfl d_B_addPair_29 (fun H locs hP hS => ?_)
      have hP : va_P E.1 vwCl (wb E ad (s_N_add S 2 a1) ++ X) H := hP
      refine lv_aload_n hx hb d_B_addPair_32 rfl (lv_at hl 0 rfl) ?_
      refine g_B0_driven hx hb hts hown hK hP d_B_addPair_33 ?_
      refine lv_iload_n hx hb d_B_addPair_36 rfl (lv_at hl 2 rfl) ?_
      refine k_mvv (rest := []) (c_N_add l E ad X (s_N_add S 2 a1) A 3 (Nat.le_of_ble_eq_true rfl) a2) mi_N_add ml_B_56 hx hb hml hts hown hK hP hD hS (rvN (Nat.le_of_ble_eq_true rfl)) hl ⟨rfl, rfl⟩ ⟨(Nat.le_of_ble_eq_true rfl), (Nat.le_of_ble_eq_true rfl)⟩ ⟨Nat.zero_le _, Nat.zero_le _⟩ rfl (Nat.le_of_ble_eq_true rfl) rfl d_B_addPair_37 (fun H locs hP hS => ?_)
      have hP : va_P E.1 vwCl (wb E ad (s_N_add (s_N_add S 2 a1) 3 a2) ++ X) H := hP
      refine lv_aload_n hx hb d_B_addPair_40 rfl (lv_at hl 0 rfl) ?_
      refine g_B0_drivers hx hb hts hown hK hP d_B_addPair_41 ?_
      refine k_vi (rest := []) (c_N_size l E ad X (s_N_add (s_N_add S 2 a1) 3 a2) 2 (Nat.le_of_ble_eq_true rfl)) mi_N_size ml_B_37 hx hb hml hts hown hK hP (rvN (Nat.le_of_ble_eq_true rfl)) hl ⟨rfl, rfl⟩ ⟨(Nat.le_of_ble_eq_true rfl), (Nat.le_of_ble_eq_true rfl)⟩ ⟨Nat.zero_le _, Nat.zero_le _⟩ rfl (Nat.le_of_ble_eq_true rfl) rfl d_B_addPair_44 ?_
      exact hend _ _ _ _ _ _ (by rw [s_B_addPair, if_neg c_6, if_pos c_18]) hP hS d_B_addPair_47
    · refine lv_bipush (v := (-3 : Int32)) hx hb d_B_addPair_21 rfl ?_
      exact hend _ _ _ _ _ _ (by rw [s_B_addPair, if_neg c_6, if_neg c_18]) hP hS d_B_addPair_23
  · refine lv_iconst (v := (-1 : Int32)) hx hb d_B_addPair_9 rfl ?_
    exact hend _ _ _ _ _ _ (by rw [s_B_addPair, if_pos c_6]) hP hS d_B_addPair_10

def s_B_emptyTrain (S : St) : Int32 × St := ((s_N_size S 2), (s_N_empty (s_N_empty S 2) 3))
set_option maxRecDepth 20000 in
theorem c_B_emptyTrain (l : Launch) (E : Cx) (ad : Nat → Nat) (X : va_W) (S : St) (A : Nat → Prop) : Met l y_B_emptyTrain (Cond.code y_B_emptyTrain b_B_emptyTrain 2 (some .int) :: TB) (rk 1 20) (va_Pc [.ref (ad 40)] (preM E A (fun S => wb E ad S ++ X) S)) (va_Qi (fun r u => (r, u) = (s_B_emptyTrain S)) (fun u t => va_P E.1 vwCl ((fun S => wb E ad S ++ X) u) t.heap) A) 0 0 A := by
  refine w_muI rfl (Nat.le_of_ble_eq_true rfl) rfl ?_
  intro p e s m args below meth c Q ls hx hb hml hts hown hP hK hD hS hl hend
  have hl : lv_has ls 2 [(0, .ref (ad 40))] := hl
  have hP : va_P E.1 vwCl (wb E ad S ++ X) s.heap := hP
  have hown : s.vm.findClass R_B = some m.cls := hown
  have hD : ∀ S' : St, va_D A (wb E ad S' ++ X) := hD
  refine lv_aload_n hx hb d_B_emptyTrain_0 rfl (lv_at hl 0 rfl) ?_
  refine g_B0_drivers hx hb hts hown hK hP d_B_emptyTrain_1 ?_
  refine k_vi (rest := []) (c_N_size l E ad X S 2 (Nat.le_of_ble_eq_true rfl)) mi_N_size ml_B_37 hx hb hml hts hown hK hP (rvN (Nat.le_of_ble_eq_true rfl)) hl ⟨rfl, rfl⟩ ⟨(Nat.le_of_ble_eq_true rfl), (Nat.le_of_ble_eq_true rfl)⟩ ⟨Nat.zero_le _, Nat.zero_le _⟩ rfl (Nat.le_of_ble_eq_true rfl) rfl d_B_emptyTrain_4 ?_
  refine lv_istore_n (lv' := [(1, .int (s_N_size S 2)), (0, .ref (ad 40))]) hx hb d_B_emptyTrain_7 rfl hl (by decide) rfl (fun ls hl => ?_)
  refine lv_aload_n hx hb d_B_emptyTrain_8 rfl (lv_at hl 1 rfl) ?_
  refine g_B0_drivers hx hb hts hown hK hP d_B_emptyTrain_9 ?_
  refine k_mvv (rest := []) (c_N_empty l E ad X S A 2 (Nat.le_of_ble_eq_true rfl)) mi_N_empty ml_B_70 hx hb hml hts hown hK hP hD hS (rvN (Nat.le_of_ble_eq_true rfl)) hl ⟨rfl, rfl⟩ ⟨(Nat.le_of_ble_eq_true rfl), (Nat.le_of_ble_eq_true rfl)⟩ ⟨Nat.zero_le _, Nat.zero_le _⟩ rfl (Nat.le_of_ble_eq_true rfl) rfl d_B_emptyTrain_12 (fun H locs hP hS => ?_)
  have hP : va_P E.1 vwCl (wb E ad (s_N_empty S 2) ++ X) H := hP
  refine lv_aload_n hx hb d_B_emptyTrain_15 rfl (lv_at hl 1 rfl) ?_
  refine g_B0_driven hx hb hts hown hK hP d_B_emptyTrain_16 ?_
  refine k_mvv (rest := []) (c_N_empty l E ad X (s_N_empty S 2) A 3 (Nat.le_of_ble_eq_true rfl)) mi_N_empty ml_B_70 hx hb hml hts hown hK hP hD hS (rvN (Nat.le_of_ble_eq_true rfl)) hl ⟨rfl, rfl⟩ ⟨(Nat.le_of_ble_eq_true rfl), (Nat.le_of_ble_eq_true rfl)⟩ ⟨Nat.zero_le _, Nat.zero_le _⟩ rfl (Nat.le_of_ble_eq_true rfl) rfl d_B_emptyTrain_19 (fun H locs hP hS => ?_)
  have hP : va_P E.1 vwCl (wb E ad (s_N_empty (s_N_empty S 2) 3) ++ X) H := hP
  refine lv_iload_n hx hb d_B_emptyTrain_22 rfl (lv_at hl 0 rfl) ?_
  exact hend _ _ _ _ _ _ (by rw [s_B_emptyTrain]) hP hS d_B_emptyTrain_23

def s_B_does (S : St) (a1 : Int32) (a2 : Int32) (a3 : Int32) : Int32 × St := (if a1 = 112 then (if (s_B_setPressure S a2).1 = (-1 : Int32) then ((0 : Int32), (s_B_setPressure S a2).2) else ((1 : Int32), (s_B_setPressure S a2).2)) else (if a1 = 115 then (if (s_B_setShift S a2 a3).1 = (-1000 : Int32) then ((0 : Int32), (s_B_setShift S a2 a3).2) else ((1 : Int32), (s_B_setShift S a2 a3).2)) else (if a1 = 116 then (if (s_B_addPair S a2 a3).1 < 0 then ((0 : Int32), (s_B_addPair S a2 a3).2) else ((1 : Int32), (s_B_addPair S a2 a3).2)) else (if a1 = 119 then (if (s_B_addWheel S a2).1 < 0 then ((0 : Int32), (s_B_addWheel S a2).2) else ((1 : Int32), (s_B_addWheel S a2).2)) else (if a1 = 120 then (if (s_B_emptyTrain S).1 < 0 then ((0 : Int32), (s_B_emptyTrain S).2) else ((1 : Int32), (s_B_emptyTrain S).2)) else ((0 : Int32), S))))))
theorem z_B_does (S : St) (a1 : Int32) (a2 : Int32) (a3 : Int32) : (s_B_does S a1 a2 a3).1 = 0 ∨ (s_B_does S a1 a2 a3).1 = 1 := by rw [s_B_does]; exact (ite_z1 (ite_z1 (Or.inl rfl) (Or.inr rfl)) (ite_z1 (ite_z1 (Or.inl rfl) (Or.inr rfl)) (ite_z1 (ite_z1 (Or.inl rfl) (Or.inr rfl)) (ite_z1 (ite_z1 (Or.inl rfl) (Or.inr rfl)) (ite_z1 (ite_z1 (Or.inl rfl) (Or.inr rfl)) (Or.inl rfl))))))
set_option maxRecDepth 20000 in
theorem c_B_does (l : Launch) (E : Cx) (ad : Nat → Nat) (X : va_W) (S : St) (A : Nat → Prop) (a1 : Int32) (a2 : Int32) (a3 : Int32) : Met l y_B_does (Cond.code y_B_does b_B_does 4 (some .boolean) :: TB) (rk 4 86) (va_Pc [.ref (ad 40), .int a1, .int a2, .int a3] (preM E A (fun S => wb E ad S ++ X) S)) (va_Qi (fun r u => (r, u) = (s_B_does S a1 a2 a3)) (fun u t => va_P E.1 vwCl ((fun S => wb E ad S ++ X) u) t.heap) A) 0 0 A := by
  refine w_muI rfl (Nat.le_of_ble_eq_true rfl) (k_nb (z_B_does S a1 a2 a3)) ?_
  intro p e s m args below meth c Q ls hx hb hml hts hown hP hK hD hS hl hend
  have hl : lv_has ls 4 [(0, .ref (ad 40)), (1, .int a1), (2, .int a2), (3, .int a3)] := hl
  have hP : va_P E.1 vwCl (wb E ad S ++ X) s.heap := hP
  have hown : s.vm.findClass R_B = some m.cls := hown
  have hD : ∀ S' : St, va_D A (wb E ad S' ++ X) := hD
  refine lv_iload_n hx hb d_B_does_0 rfl (lv_at hl 1 rfl) ?_
  by_cases c_1_112 : a1 = (112 : Int32)
  · refine lv_tableIn (x := a1) (off := 83) (tgt := 84) hx hb d_B_does_1 (by rw [c_1_112]; decide) (by rw [c_1_112]; decide) (by rw [c_1_112]; rfl) (by decide) ?_
    refine lv_aload_n hx hb d_B_does_84 rfl (lv_at hl 0 rfl) ?_
    refine lv_iload_n hx hb d_B_does_85 rfl (lv_at hl 2 rfl) ?_
    refine k_mvi (rest := []) (c_B_setPressure l E ad X S A a2) mi_B_setPressure ml_B_80 hx hb hml hts hown hK hP hD hS rvB0 hl ⟨rfl, rfl⟩ ⟨(Nat.le_of_ble_eq_true rfl), (Nat.le_of_ble_eq_true rfl)⟩ ⟨Nat.zero_le _, Nat.zero_le _⟩ rfl (Nat.le_of_ble_eq_true rfl) rfl d_B_does_86 (fun H locs hP hS => ?_)
    have hP : va_P E.1 vwCl (wb E ad (s_B_setPressure S a2).2 ++ X) H := hP
    refine lv_iconst (v := (-1 : Int32)) hx hb d_B_does_89 rfl ?_
    refine lv_icmp_eq (tgt := 97) hx hb d_B_does_90 (by decide) (fun c_90 => ?_) (fun c_90 => ?_)
    · refine lv_iconst (v := (0 : Int32)) hx hb d_B_does_97 rfl ?_
      exact hend _ _ _ _ _ _ (by rw [s_B_does, if_pos c_1_112, if_pos c_90]) hP hS d_B_does_98
    · refine lv_iconst (v := (1 : Int32)) hx hb d_B_does_93 rfl ?_
      refine lv_goto (tgt := 98) hx hb d_B_does_94 (by decide) ?_
      exact hend _ _ _ _ _ _ (by rw [s_B_does, if_pos c_1_112, if_neg c_90]) hP hS d_B_does_98
  by_cases c_1_115 : a1 = (115 : Int32)
  · refine lv_tableIn (x := a1) (off := 65) (tgt := 66) hx hb d_B_does_1 (by rw [c_1_115]; decide) (by rw [c_1_115]; decide) (by rw [c_1_115]; rfl) (by decide) ?_
    refine lv_aload_n hx hb d_B_does_66 rfl (lv_at hl 0 rfl) ?_
    refine lv_iload_n hx hb d_B_does_67 rfl (lv_at hl 2 rfl) ?_
    refine lv_iload_n hx hb d_B_does_68 rfl (lv_at hl 3 rfl) ?_
    refine k_mvi (rest := []) (c_B_setShift l E ad X S A a2 a3) mi_B_setShift ml_B_76 hx hb hml hts hown hK hP hD hS rvB0 hl ⟨rfl, rfl⟩ ⟨(Nat.le_of_ble_eq_true rfl), (Nat.le_of_ble_eq_true rfl)⟩ ⟨Nat.zero_le _, Nat.zero_le _⟩ rfl (Nat.le_of_ble_eq_true rfl) rfl d_B_does_69 (fun H locs hP hS => ?_)
    have hP : va_P E.1 vwCl (wb E ad (s_B_setShift S a2 a3).2 ++ X) H := hP
    refine lv_sipush (v := (-1000 : Int32)) hx hb d_B_does_72 rfl ?_
    refine lv_icmp_eq (tgt := 82) hx hb d_B_does_75 (by decide) (fun c_75 => ?_) (fun c_75 => ?_)
    · refine lv_iconst (v := (0 : Int32)) hx hb d_B_does_82 rfl ?_
      exact hend _ _ _ _ _ _ (by rw [s_B_does, if_neg c_1_112, if_pos c_1_115, if_pos c_75]) hP hS d_B_does_83
    · refine lv_iconst (v := (1 : Int32)) hx hb d_B_does_78 rfl ?_
      refine lv_goto (tgt := 83) hx hb d_B_does_79 (by decide) ?_
      exact hend _ _ _ _ _ _ (by rw [s_B_does, if_neg c_1_112, if_pos c_1_115, if_neg c_75]) hP hS d_B_does_83
  by_cases c_1_116 : a1 = (116 : Int32)
  · refine lv_tableIn (x := a1) (off := 98) (tgt := 99) hx hb d_B_does_1 (by rw [c_1_116]; decide) (by rw [c_1_116]; decide) (by rw [c_1_116]; rfl) (by decide) ?_
    refine lv_aload_n hx hb d_B_does_99 rfl (lv_at hl 0 rfl) ?_
    refine lv_iload_n hx hb d_B_does_100 rfl (lv_at hl 2 rfl) ?_
    refine lv_iload_n hx hb d_B_does_101 rfl (lv_at hl 3 rfl) ?_
    refine k_mvi (rest := []) (c_B_addPair l E ad X S A a2 a3) mi_B_addPair ml_B_83 hx hb hml hts hown hK hP hD hS rvB0 hl ⟨rfl, rfl⟩ ⟨(Nat.le_of_ble_eq_true rfl), (Nat.le_of_ble_eq_true rfl)⟩ ⟨Nat.zero_le _, Nat.zero_le _⟩ rfl (Nat.le_of_ble_eq_true rfl) rfl d_B_does_102 (fun H locs hP hS => ?_)
    have hP : va_P E.1 vwCl (wb E ad (s_B_addPair S a2 a3).2 ++ X) H := hP
    refine lv_if_lt (tgt := 112) hx hb d_B_does_105 (by decide) (fun c_105 => ?_) (fun c_105 => ?_)
    · refine lv_iconst (v := (0 : Int32)) hx hb d_B_does_112 rfl ?_
      exact hend _ _ _ _ _ _ (by rw [s_B_does, if_neg c_1_112, if_neg c_1_115, if_pos c_1_116, if_pos c_105]) hP hS d_B_does_113
    · refine lv_iconst (v := (1 : Int32)) hx hb d_B_does_108 rfl ?_
      refine lv_goto (tgt := 113) hx hb d_B_does_109 (by decide) ?_
      exact hend _ _ _ _ _ _ (by rw [s_B_does, if_neg c_1_112, if_neg c_1_115, if_pos c_1_116, if_neg c_105]) hP hS d_B_does_113
  by_cases c_1_119 : a1 = (119 : Int32)
  · refine lv_tableIn (x := a1) (off := 51) (tgt := 52) hx hb d_B_does_1 (by rw [c_1_119]; decide) (by rw [c_1_119]; decide) (by rw [c_1_119]; rfl) (by decide) ?_
    refine lv_aload_n hx hb d_B_does_52 rfl (lv_at hl 0 rfl) ?_
    refine lv_iload_n hx hb d_B_does_53 rfl (lv_at hl 2 rfl) ?_
    refine k_mvi (rest := []) (c_B_addWheel l E ad X S A a2) mi_B_addWheel ml_B_73 hx hb hml hts hown hK hP hD hS rvB0 hl ⟨rfl, rfl⟩ ⟨(Nat.le_of_ble_eq_true rfl), (Nat.le_of_ble_eq_true rfl)⟩ ⟨Nat.zero_le _, Nat.zero_le _⟩ rfl (Nat.le_of_ble_eq_true rfl) rfl d_B_does_54 (fun H locs hP hS => ?_)
    have hP : va_P E.1 vwCl (wb E ad (s_B_addWheel S a2).2 ++ X) H := hP
    refine lv_if_lt (tgt := 64) hx hb d_B_does_57 (by decide) (fun c_57 => ?_) (fun c_57 => ?_)
    · refine lv_iconst (v := (0 : Int32)) hx hb d_B_does_64 rfl ?_
      exact hend _ _ _ _ _ _ (by rw [s_B_does, if_neg c_1_112, if_neg c_1_115, if_neg c_1_116, if_pos c_1_119, if_pos c_57]) hP hS d_B_does_65
    · refine lv_iconst (v := (1 : Int32)) hx hb d_B_does_60 rfl ?_
      refine lv_goto (tgt := 65) hx hb d_B_does_61 (by decide) ?_
      exact hend _ _ _ _ _ _ (by rw [s_B_does, if_neg c_1_112, if_neg c_1_115, if_neg c_1_116, if_pos c_1_119, if_neg c_57]) hP hS d_B_does_65
  by_cases c_1_120 : a1 = (120 : Int32)
  · refine lv_tableIn (x := a1) (off := 113) (tgt := 114) hx hb d_B_does_1 (by rw [c_1_120]; decide) (by rw [c_1_120]; decide) (by rw [c_1_120]; rfl) (by decide) ?_
    refine lv_aload_n hx hb d_B_does_114 rfl (lv_at hl 0 rfl) ?_
    refine k_mvi (rest := []) (c_B_emptyTrain l E ad X S A) mi_B_emptyTrain ml_B_86 hx hb hml hts hown hK hP hD hS rvB0 hl ⟨rfl, rfl⟩ ⟨(Nat.le_of_ble_eq_true rfl), (Nat.le_of_ble_eq_true rfl)⟩ ⟨Nat.zero_le _, Nat.zero_le _⟩ rfl (Nat.le_of_ble_eq_true rfl) rfl d_B_does_115 (fun H locs hP hS => ?_)
    have hP : va_P E.1 vwCl (wb E ad (s_B_emptyTrain S).2 ++ X) H := hP
    refine lv_if_lt (tgt := 125) hx hb d_B_does_118 (by decide) (fun c_118 => ?_) (fun c_118 => ?_)
    · refine lv_iconst (v := (0 : Int32)) hx hb d_B_does_125 rfl ?_
      exact hend _ _ _ _ _ _ (by rw [s_B_does, if_neg c_1_112, if_neg c_1_115, if_neg c_1_116, if_neg c_1_119, if_pos c_1_120, if_pos c_118]) hP hS d_B_does_126
    · refine lv_iconst (v := (1 : Int32)) hx hb d_B_does_121 rfl ?_
      refine lv_goto (tgt := 126) hx hb d_B_does_122 (by decide) ?_
      exact hend _ _ _ _ _ _ (by rw [s_B_does, if_neg c_1_112, if_neg c_1_115, if_neg c_1_116, if_neg c_1_119, if_pos c_1_120, if_neg c_118]) hP hS d_B_does_126
  have kd : W p l e (rk 4 86) s m args below meth c s.heap [] 0 0 Q (F0 m 127 ls []) := by
    refine lv_iconst (v := (0 : Int32)) hx hb d_B_does_127 rfl ?_
    exact hend _ _ _ _ _ _ (by rw [s_B_does, if_neg c_1_112, if_neg c_1_115, if_neg c_1_116, if_neg c_1_119, if_neg c_1_120]) hP hS d_B_does_128
  by_cases e_113 : a1 = (113 : Int32)
  · exact lv_tableIn (x := a1) (off := 126) (tgt := 127) hx hb d_B_does_1 (by rw [e_113]; decide) (by rw [e_113]; decide) (by rw [e_113]; rfl) (by decide) kd
  by_cases e_114 : a1 = (114 : Int32)
  · exact lv_tableIn (x := a1) (off := 126) (tgt := 127) hx hb d_B_does_1 (by rw [e_114]; decide) (by rw [e_114]; decide) (by rw [e_114]; rfl) (by decide) kd
  by_cases e_117 : a1 = (117 : Int32)
  · exact lv_tableIn (x := a1) (off := 126) (tgt := 127) hx hb d_B_does_1 (by rw [e_117]; decide) (by rw [e_117]; decide) (by rw [e_117]; rfl) (by decide) kd
  by_cases e_118 : a1 = (118 : Int32)
  · exact lv_tableIn (x := a1) (off := 126) (tgt := 127) hx hb d_B_does_1 (by rw [e_118]; decide) (by rw [e_118]; decide) (by rw [e_118]; rfl) (by decide) kd
  have n_0 := lv_neT c_1_112 (a := 112) rfl
  have n_1 := lv_neT c_1_115 (a := 115) rfl
  have n_2 := lv_neT c_1_116 (a := 116) rfl
  have n_3 := lv_neT c_1_119 (a := 119) rfl
  have n_4 := lv_neT c_1_120 (a := 120) rfl
  have n_5 := lv_neT e_113 (a := 113) rfl
  have n_6 := lv_neT e_114 (a := 114) rfl
  have n_7 := lv_neT e_117 (a := 117) rfl
  have n_8 := lv_neT e_118 (a := 118) rfl
  exact lv_tableOut (x := a1) (tgt := 127) hx hb d_B_does_1 (by omega) (by decide) kd
theorem N_set_fst {S : St} {i : Nat} {x y : Int32} : (s_N_set S i x y).1 = S.1 := by
  unfold s_N_set
  (repeat' split) <;> rfl
theorem addW_13 {S : St} {a : Int32} : (s_B_addWheel S a).2.1 13 = S.1 13 := by
  unfold s_B_addWheel
  (repeat' split) <;> first | rfl | exact (N_add_ne (by decide)).trans (N_add_ne (by decide))
theorem setS_13 {S : St} {a b : Int32} : (s_B_setShift S a b).2.1 13 = S.1 13 := by
  unfold s_B_setShift
  (repeat' split) <;> first | rfl | exact congrFun N_set_fst 13
theorem setP_13 {S : St} {a : Int32} : (s_B_setPressure S a).2.1 13 = S.1 13 := by
  unfold s_B_setPressure
  (repeat' split) <;> rfl
theorem addP_13 {S : St} {a b : Int32} : (s_B_addPair S a b).2.1 13 = S.1 13 := by
  unfold s_B_addPair
  (repeat' split) <;> first | rfl | exact (N_add_ne (by decide)).trans (N_add_ne (by decide))
theorem empT_13 {S : St} : (s_B_emptyTrain S).2.1 13 = S.1 13 := by
  unfold s_B_emptyTrain
  exact (N_empty_ne (by decide)).trans (N_empty_ne (by decide))
theorem ite_k {c : Prop} {dc : Decidable c} {a b : Int32 × St} {k : Nat} {v : Int32} (ha : a.2.1 k = v) (hb : b.2.1 k = v) : (@ite (Int32 × St) c dc a b).2.1 k = v := by
  by_cases h : c
  · rw [if_pos h]; exact ha
  · rw [if_neg h]; exact hb
theorem does_13 {S : St} {a b c : Int32} : (s_B_does S a b c).2.1 13 = S.1 13 := by
  rw [s_B_does]
  exact ite_k (ite_k setP_13 setP_13) (ite_k (ite_k setS_13 setS_13) (ite_k (ite_k addP_13 addP_13) (ite_k (ite_k addW_13 addW_13) (ite_k (ite_k empT_13 empT_13) rfl))))

def s_B_become_01 (S : St) : St := (sV (s_N_become (s_N_become (s_N_become (s_N_become S 0 4) 1 5) 2 6) 3 7) 19 ((s_N_become (s_N_become (s_N_become (s_N_become S 0 4) 1 5) 2 6) 3 7).1 20))
set_option maxRecDepth 20000 in
theorem c_B_become_01 (l : Launch) (E : Cx) (ad : Nat → Nat) (X : va_W) (S : St) (A : Nat → Prop) : Met l y_B_become (Cond.code y_B_become b_B_become 2 none :: TB) (rk 2 43) (va_Pc [.ref (ad 40), .ref (ad 41)] (preM E A (fun S => wb E ad S ++ X) S)) (va_Qv (fun u => u = (s_B_become_01 S)) (fun u t => va_P E.1 vwCl ((fun S => wb E ad S ++ X) u) t.heap) A) 0 0 A := by
  refine w_muV rfl (Nat.le_of_ble_eq_true rfl) ?_
  intro p e s m args below meth c Q ls hx hb hml hts hown hP hK hD hS hl hend
  have hl : lv_has ls 2 [(0, .ref (ad 40)), (1, .ref (ad 41))] := hl
  have hP : va_P E.1 vwCl (wb E ad S ++ X) s.heap := hP
  have hown : s.vm.findClass R_B = some m.cls := hown
  have hD : ∀ S' : St, va_D A (wb E ad S' ++ X) := hD
  refine lv_aload_n hx hb d_B_become_0 rfl (lv_at hl 0 rfl) ?_
  refine g_B0_teeth hx hb hts hown hK hP d_B_become_1 ?_
  refine lv_aload_n hx hb d_B_become_4 rfl (lv_at hl 1 rfl) ?_
  refine g_B1_teeth hx hb hts hown hK hP d_B_become_5 ?_
  refine k_mvv (rest := []) (c_N_become l E ad X S A 0 (Nat.le_of_ble_eq_true rfl) 4 (Nat.le_of_ble_eq_true rfl) (by decide)) mi_N_become ml_B_33 hx hb hml hts hown hK hP hD hS (rvN (Nat.le_of_ble_eq_true rfl)) hl ⟨rfl, rfl⟩ ⟨(Nat.le_of_ble_eq_true rfl), (Nat.le_of_ble_eq_true rfl)⟩ ⟨Nat.zero_le _, Nat.zero_le _⟩ rfl (Nat.le_of_ble_eq_true rfl) rfl d_B_become_8 (fun H locs hP hS => ?_)
  have hP : va_P E.1 vwCl (wb E ad (s_N_become S 0 4) ++ X) H := hP
  refine lv_aload_n hx hb d_B_become_11 rfl (lv_at hl 0 rfl) ?_
  refine g_B0_shifts hx hb hts hown hK hP d_B_become_12 ?_
  refine lv_aload_n hx hb d_B_become_15 rfl (lv_at hl 1 rfl) ?_
  refine g_B1_shifts hx hb hts hown hK hP d_B_become_16 ?_
  refine k_mvv (rest := []) (c_N_become l E ad X (s_N_become S 0 4) A 1 (Nat.le_of_ble_eq_true rfl) 5 (Nat.le_of_ble_eq_true rfl) (by decide)) mi_N_become ml_B_33 hx hb hml hts hown hK hP hD hS (rvN (Nat.le_of_ble_eq_true rfl)) hl ⟨rfl, rfl⟩ ⟨(Nat.le_of_ble_eq_true rfl), (Nat.le_of_ble_eq_true rfl)⟩ ⟨Nat.zero_le _, Nat.zero_le _⟩ rfl (Nat.le_of_ble_eq_true rfl) rfl d_B_become_19 (fun H locs hP hS => ?_)
  have hP : va_P E.1 vwCl (wb E ad (s_N_become (s_N_become S 0 4) 1 5) ++ X) H := hP
  refine lv_aload_n hx hb d_B_become_22 rfl (lv_at hl 0 rfl) ?_
  refine g_B0_drivers hx hb hts hown hK hP d_B_become_23 ?_
  refine lv_aload_n hx hb d_B_become_26 rfl (lv_at hl 1 rfl) ?_
  refine g_B1_drivers hx hb hts hown hK hP d_B_become_27 ?_
  refine k_mvv (rest := []) (c_N_become l E ad X (s_N_become (s_N_become S 0 4) 1 5) A 2 (Nat.le_of_ble_eq_true rfl) 6 (Nat.le_of_ble_eq_true rfl) (by decide)) mi_N_become ml_B_33 hx hb hml hts hown hK hP hD hS (rvN (Nat.le_of_ble_eq_true rfl)) hl ⟨rfl, rfl⟩ ⟨(Nat.le_of_ble_eq_true rfl), (Nat.le_of_ble_eq_true rfl)⟩ ⟨Nat.zero_le _, Nat.zero_le _⟩ rfl (Nat.le_of_ble_eq_true rfl) rfl d_B_become_30 (fun H locs hP hS => ?_)
  have hP : va_P E.1 vwCl (wb E ad (s_N_become (s_N_become (s_N_become S 0 4) 1 5) 2 6) ++ X) H := hP
  refine lv_aload_n hx hb d_B_become_33 rfl (lv_at hl 0 rfl) ?_
  refine g_B0_driven hx hb hts hown hK hP d_B_become_34 ?_
  refine lv_aload_n hx hb d_B_become_37 rfl (lv_at hl 1 rfl) ?_
  refine g_B1_driven hx hb hts hown hK hP d_B_become_38 ?_
  refine k_mvv (rest := []) (c_N_become l E ad X (s_N_become (s_N_become (s_N_become S 0 4) 1 5) 2 6) A 3 (Nat.le_of_ble_eq_true rfl) 7 (Nat.le_of_ble_eq_true rfl) (by decide)) mi_N_become ml_B_33 hx hb hml hts hown hK hP hD hS (rvN (Nat.le_of_ble_eq_true rfl)) hl ⟨rfl, rfl⟩ ⟨(Nat.le_of_ble_eq_true rfl), (Nat.le_of_ble_eq_true rfl)⟩ ⟨Nat.zero_le _, Nat.zero_le _⟩ rfl (Nat.le_of_ble_eq_true rfl) rfl d_B_become_41 (fun H locs hP hS => ?_)
  have hP : va_P E.1 vwCl (wb E ad (s_N_become (s_N_become (s_N_become (s_N_become S 0 4) 1 5) 2 6) 3 7) ++ X) H := hP
  refine lv_aload_n hx hb d_B_become_44 rfl (lv_at hl 0 rfl) ?_
  refine lv_aload_n hx hb d_B_become_45 rfl (lv_at hl 1 rfl) ?_
  refine g_B1_pressure hx hb hts hown hK hP d_B_become_46 ?_
  refine p_B0_pressure hx hb hts hown hK hP hD hS d_B_become_49 (fun H locs hP hS => ?_)
  have hP : va_P E.1 vwCl (wb E ad (sV (s_N_become (s_N_become (s_N_become (s_N_become S 0 4) 1 5) 2 6) 3 7) 19 ((s_N_become (s_N_become (s_N_become (s_N_become S 0 4) 1 5) 2 6) 3 7).1 20)) ++ X) H := hP
  exact hend _ _ _ _ _ (by rw [s_B_become_01]) hP hS d_B_become_52

def s_B_become_10 (S : St) : St := (sV (s_N_become (s_N_become (s_N_become (s_N_become S 4 0) 5 1) 6 2) 7 3) 20 ((s_N_become (s_N_become (s_N_become (s_N_become S 4 0) 5 1) 6 2) 7 3).1 19))
set_option maxRecDepth 20000 in
theorem c_B_become_10 (l : Launch) (E : Cx) (ad : Nat → Nat) (X : va_W) (S : St) (A : Nat → Prop) : Met l y_B_become (Cond.code y_B_become b_B_become 2 none :: TB) (rk 2 43) (va_Pc [.ref (ad 41), .ref (ad 40)] (preM E A (fun S => wb E ad S ++ X) S)) (va_Qv (fun u => u = (s_B_become_10 S)) (fun u t => va_P E.1 vwCl ((fun S => wb E ad S ++ X) u) t.heap) A) 0 0 A := by
  refine w_muV rfl (Nat.le_of_ble_eq_true rfl) ?_
  intro p e s m args below meth c Q ls hx hb hml hts hown hP hK hD hS hl hend
  have hl : lv_has ls 2 [(0, .ref (ad 41)), (1, .ref (ad 40))] := hl
  have hP : va_P E.1 vwCl (wb E ad S ++ X) s.heap := hP
  have hown : s.vm.findClass R_B = some m.cls := hown
  have hD : ∀ S' : St, va_D A (wb E ad S' ++ X) := hD
  refine lv_aload_n hx hb d_B_become_0 rfl (lv_at hl 0 rfl) ?_
  refine g_B1_teeth hx hb hts hown hK hP d_B_become_1 ?_
  refine lv_aload_n hx hb d_B_become_4 rfl (lv_at hl 1 rfl) ?_
  refine g_B0_teeth hx hb hts hown hK hP d_B_become_5 ?_
  refine k_mvv (rest := []) (c_N_become l E ad X S A 4 (Nat.le_of_ble_eq_true rfl) 0 (Nat.le_of_ble_eq_true rfl) (by decide)) mi_N_become ml_B_33 hx hb hml hts hown hK hP hD hS (rvN (Nat.le_of_ble_eq_true rfl)) hl ⟨rfl, rfl⟩ ⟨(Nat.le_of_ble_eq_true rfl), (Nat.le_of_ble_eq_true rfl)⟩ ⟨Nat.zero_le _, Nat.zero_le _⟩ rfl (Nat.le_of_ble_eq_true rfl) rfl d_B_become_8 (fun H locs hP hS => ?_)
  have hP : va_P E.1 vwCl (wb E ad (s_N_become S 4 0) ++ X) H := hP
  refine lv_aload_n hx hb d_B_become_11 rfl (lv_at hl 0 rfl) ?_
  refine g_B1_shifts hx hb hts hown hK hP d_B_become_12 ?_
  refine lv_aload_n hx hb d_B_become_15 rfl (lv_at hl 1 rfl) ?_
  refine g_B0_shifts hx hb hts hown hK hP d_B_become_16 ?_
  refine k_mvv (rest := []) (c_N_become l E ad X (s_N_become S 4 0) A 5 (Nat.le_of_ble_eq_true rfl) 1 (Nat.le_of_ble_eq_true rfl) (by decide)) mi_N_become ml_B_33 hx hb hml hts hown hK hP hD hS (rvN (Nat.le_of_ble_eq_true rfl)) hl ⟨rfl, rfl⟩ ⟨(Nat.le_of_ble_eq_true rfl), (Nat.le_of_ble_eq_true rfl)⟩ ⟨Nat.zero_le _, Nat.zero_le _⟩ rfl (Nat.le_of_ble_eq_true rfl) rfl d_B_become_19 (fun H locs hP hS => ?_)
  have hP : va_P E.1 vwCl (wb E ad (s_N_become (s_N_become S 4 0) 5 1) ++ X) H := hP
  refine lv_aload_n hx hb d_B_become_22 rfl (lv_at hl 0 rfl) ?_
  refine g_B1_drivers hx hb hts hown hK hP d_B_become_23 ?_
  refine lv_aload_n hx hb d_B_become_26 rfl (lv_at hl 1 rfl) ?_
  refine g_B0_drivers hx hb hts hown hK hP d_B_become_27 ?_
  refine k_mvv (rest := []) (c_N_become l E ad X (s_N_become (s_N_become S 4 0) 5 1) A 6 (Nat.le_of_ble_eq_true rfl) 2 (Nat.le_of_ble_eq_true rfl) (by decide)) mi_N_become ml_B_33 hx hb hml hts hown hK hP hD hS (rvN (Nat.le_of_ble_eq_true rfl)) hl ⟨rfl, rfl⟩ ⟨(Nat.le_of_ble_eq_true rfl), (Nat.le_of_ble_eq_true rfl)⟩ ⟨Nat.zero_le _, Nat.zero_le _⟩ rfl (Nat.le_of_ble_eq_true rfl) rfl d_B_become_30 (fun H locs hP hS => ?_)
  have hP : va_P E.1 vwCl (wb E ad (s_N_become (s_N_become (s_N_become S 4 0) 5 1) 6 2) ++ X) H := hP
  refine lv_aload_n hx hb d_B_become_33 rfl (lv_at hl 0 rfl) ?_
  refine g_B1_driven hx hb hts hown hK hP d_B_become_34 ?_
  refine lv_aload_n hx hb d_B_become_37 rfl (lv_at hl 1 rfl) ?_
  refine g_B0_driven hx hb hts hown hK hP d_B_become_38 ?_
  refine k_mvv (rest := []) (c_N_become l E ad X (s_N_become (s_N_become (s_N_become S 4 0) 5 1) 6 2) A 7 (Nat.le_of_ble_eq_true rfl) 3 (Nat.le_of_ble_eq_true rfl) (by decide)) mi_N_become ml_B_33 hx hb hml hts hown hK hP hD hS (rvN (Nat.le_of_ble_eq_true rfl)) hl ⟨rfl, rfl⟩ ⟨(Nat.le_of_ble_eq_true rfl), (Nat.le_of_ble_eq_true rfl)⟩ ⟨Nat.zero_le _, Nat.zero_le _⟩ rfl (Nat.le_of_ble_eq_true rfl) rfl d_B_become_41 (fun H locs hP hS => ?_)
  have hP : va_P E.1 vwCl (wb E ad (s_N_become (s_N_become (s_N_become (s_N_become S 4 0) 5 1) 6 2) 7 3) ++ X) H := hP
  refine lv_aload_n hx hb d_B_become_44 rfl (lv_at hl 0 rfl) ?_
  refine lv_aload_n hx hb d_B_become_45 rfl (lv_at hl 1 rfl) ?_
  refine g_B0_pressure hx hb hts hown hK hP d_B_become_46 ?_
  refine p_B1_pressure hx hb hts hown hK hP hD hS d_B_become_49 (fun H locs hP hS => ?_)
  have hP : va_P E.1 vwCl (wb E ad (sV (s_N_become (s_N_become (s_N_become (s_N_become S 4 0) 5 1) 6 2) 7 3) 20 ((s_N_become (s_N_become (s_N_become (s_N_become S 4 0) 5 1) 6 2) 7 3).1 19)) ++ X) H := hP
  exact hend _ _ _ _ _ (by rw [s_B_become_10]) hP hS d_B_become_52

def s_B_become_20 (S : St) : St := (sV (s_N_become (s_N_become (s_N_become (s_N_become S 8 0) 9 1) 10 2) 11 3) 21 ((s_N_become (s_N_become (s_N_become (s_N_become S 8 0) 9 1) 10 2) 11 3).1 19))
set_option maxRecDepth 20000 in
theorem c_B_become_20 (l : Launch) (E : Cx) (ad : Nat → Nat) (X : va_W) (S : St) (A : Nat → Prop) : Met l y_B_become (Cond.code y_B_become b_B_become 2 none :: TB) (rk 2 43) (va_Pc [.ref (ad 42), .ref (ad 40)] (preM E A (fun S => wb E ad S ++ X) S)) (va_Qv (fun u => u = (s_B_become_20 S)) (fun u t => va_P E.1 vwCl ((fun S => wb E ad S ++ X) u) t.heap) A) 0 0 A := by
  refine w_muV rfl (Nat.le_of_ble_eq_true rfl) ?_
  intro p e s m args below meth c Q ls hx hb hml hts hown hP hK hD hS hl hend
  have hl : lv_has ls 2 [(0, .ref (ad 42)), (1, .ref (ad 40))] := hl
  have hP : va_P E.1 vwCl (wb E ad S ++ X) s.heap := hP
  have hown : s.vm.findClass R_B = some m.cls := hown
  have hD : ∀ S' : St, va_D A (wb E ad S' ++ X) := hD
  refine lv_aload_n hx hb d_B_become_0 rfl (lv_at hl 0 rfl) ?_
  refine g_B2_teeth hx hb hts hown hK hP d_B_become_1 ?_
  refine lv_aload_n hx hb d_B_become_4 rfl (lv_at hl 1 rfl) ?_
  refine g_B0_teeth hx hb hts hown hK hP d_B_become_5 ?_
  refine k_mvv (rest := []) (c_N_become l E ad X S A 8 (Nat.le_of_ble_eq_true rfl) 0 (Nat.le_of_ble_eq_true rfl) (by decide)) mi_N_become ml_B_33 hx hb hml hts hown hK hP hD hS (rvN (Nat.le_of_ble_eq_true rfl)) hl ⟨rfl, rfl⟩ ⟨(Nat.le_of_ble_eq_true rfl), (Nat.le_of_ble_eq_true rfl)⟩ ⟨Nat.zero_le _, Nat.zero_le _⟩ rfl (Nat.le_of_ble_eq_true rfl) rfl d_B_become_8 (fun H locs hP hS => ?_)
  have hP : va_P E.1 vwCl (wb E ad (s_N_become S 8 0) ++ X) H := hP
  refine lv_aload_n hx hb d_B_become_11 rfl (lv_at hl 0 rfl) ?_
  refine g_B2_shifts hx hb hts hown hK hP d_B_become_12 ?_
  refine lv_aload_n hx hb d_B_become_15 rfl (lv_at hl 1 rfl) ?_
  refine g_B0_shifts hx hb hts hown hK hP d_B_become_16 ?_
  refine k_mvv (rest := []) (c_N_become l E ad X (s_N_become S 8 0) A 9 (Nat.le_of_ble_eq_true rfl) 1 (Nat.le_of_ble_eq_true rfl) (by decide)) mi_N_become ml_B_33 hx hb hml hts hown hK hP hD hS (rvN (Nat.le_of_ble_eq_true rfl)) hl ⟨rfl, rfl⟩ ⟨(Nat.le_of_ble_eq_true rfl), (Nat.le_of_ble_eq_true rfl)⟩ ⟨Nat.zero_le _, Nat.zero_le _⟩ rfl (Nat.le_of_ble_eq_true rfl) rfl d_B_become_19 (fun H locs hP hS => ?_)
  have hP : va_P E.1 vwCl (wb E ad (s_N_become (s_N_become S 8 0) 9 1) ++ X) H := hP
  refine lv_aload_n hx hb d_B_become_22 rfl (lv_at hl 0 rfl) ?_
  refine g_B2_drivers hx hb hts hown hK hP d_B_become_23 ?_
  refine lv_aload_n hx hb d_B_become_26 rfl (lv_at hl 1 rfl) ?_
  refine g_B0_drivers hx hb hts hown hK hP d_B_become_27 ?_
  refine k_mvv (rest := []) (c_N_become l E ad X (s_N_become (s_N_become S 8 0) 9 1) A 10 (Nat.le_of_ble_eq_true rfl) 2 (Nat.le_of_ble_eq_true rfl) (by decide)) mi_N_become ml_B_33 hx hb hml hts hown hK hP hD hS (rvN (Nat.le_of_ble_eq_true rfl)) hl ⟨rfl, rfl⟩ ⟨(Nat.le_of_ble_eq_true rfl), (Nat.le_of_ble_eq_true rfl)⟩ ⟨Nat.zero_le _, Nat.zero_le _⟩ rfl (Nat.le_of_ble_eq_true rfl) rfl d_B_become_30 (fun H locs hP hS => ?_)
  have hP : va_P E.1 vwCl (wb E ad (s_N_become (s_N_become (s_N_become S 8 0) 9 1) 10 2) ++ X) H := hP
  refine lv_aload_n hx hb d_B_become_33 rfl (lv_at hl 0 rfl) ?_
  refine g_B2_driven hx hb hts hown hK hP d_B_become_34 ?_
  refine lv_aload_n hx hb d_B_become_37 rfl (lv_at hl 1 rfl) ?_
  refine g_B0_driven hx hb hts hown hK hP d_B_become_38 ?_
  refine k_mvv (rest := []) (c_N_become l E ad X (s_N_become (s_N_become (s_N_become S 8 0) 9 1) 10 2) A 11 (Nat.le_of_ble_eq_true rfl) 3 (Nat.le_of_ble_eq_true rfl) (by decide)) mi_N_become ml_B_33 hx hb hml hts hown hK hP hD hS (rvN (Nat.le_of_ble_eq_true rfl)) hl ⟨rfl, rfl⟩ ⟨(Nat.le_of_ble_eq_true rfl), (Nat.le_of_ble_eq_true rfl)⟩ ⟨Nat.zero_le _, Nat.zero_le _⟩ rfl (Nat.le_of_ble_eq_true rfl) rfl d_B_become_41 (fun H locs hP hS => ?_)
  have hP : va_P E.1 vwCl (wb E ad (s_N_become (s_N_become (s_N_become (s_N_become S 8 0) 9 1) 10 2) 11 3) ++ X) H := hP
  refine lv_aload_n hx hb d_B_become_44 rfl (lv_at hl 0 rfl) ?_
  refine lv_aload_n hx hb d_B_become_45 rfl (lv_at hl 1 rfl) ?_
  refine g_B0_pressure hx hb hts hown hK hP d_B_become_46 ?_
  refine p_B2_pressure hx hb hts hown hK hP hD hS d_B_become_49 (fun H locs hP hS => ?_)
  have hP : va_P E.1 vwCl (wb E ad (sV (s_N_become (s_N_become (s_N_become (s_N_become S 8 0) 9 1) 10 2) 11 3) 21 ((s_N_become (s_N_become (s_N_become (s_N_become S 8 0) 9 1) 10 2) 11 3).1 19)) ++ X) H := hP
  exact hend _ _ _ _ _ (by rw [s_B_become_20]) hP hS d_B_become_52

def s_B_become_02 (S : St) : St := (sV (s_N_become (s_N_become (s_N_become (s_N_become S 0 8) 1 9) 2 10) 3 11) 19 ((s_N_become (s_N_become (s_N_become (s_N_become S 0 8) 1 9) 2 10) 3 11).1 21))
set_option maxRecDepth 20000 in
theorem c_B_become_02 (l : Launch) (E : Cx) (ad : Nat → Nat) (X : va_W) (S : St) (A : Nat → Prop) : Met l y_B_become (Cond.code y_B_become b_B_become 2 none :: TB) (rk 2 43) (va_Pc [.ref (ad 40), .ref (ad 42)] (preM E A (fun S => wb E ad S ++ X) S)) (va_Qv (fun u => u = (s_B_become_02 S)) (fun u t => va_P E.1 vwCl ((fun S => wb E ad S ++ X) u) t.heap) A) 0 0 A := by
  refine w_muV rfl (Nat.le_of_ble_eq_true rfl) ?_
  intro p e s m args below meth c Q ls hx hb hml hts hown hP hK hD hS hl hend
  have hl : lv_has ls 2 [(0, .ref (ad 40)), (1, .ref (ad 42))] := hl
  have hP : va_P E.1 vwCl (wb E ad S ++ X) s.heap := hP
  have hown : s.vm.findClass R_B = some m.cls := hown
  have hD : ∀ S' : St, va_D A (wb E ad S' ++ X) := hD
  refine lv_aload_n hx hb d_B_become_0 rfl (lv_at hl 0 rfl) ?_
  refine g_B0_teeth hx hb hts hown hK hP d_B_become_1 ?_
  refine lv_aload_n hx hb d_B_become_4 rfl (lv_at hl 1 rfl) ?_
  refine g_B2_teeth hx hb hts hown hK hP d_B_become_5 ?_
  refine k_mvv (rest := []) (c_N_become l E ad X S A 0 (Nat.le_of_ble_eq_true rfl) 8 (Nat.le_of_ble_eq_true rfl) (by decide)) mi_N_become ml_B_33 hx hb hml hts hown hK hP hD hS (rvN (Nat.le_of_ble_eq_true rfl)) hl ⟨rfl, rfl⟩ ⟨(Nat.le_of_ble_eq_true rfl), (Nat.le_of_ble_eq_true rfl)⟩ ⟨Nat.zero_le _, Nat.zero_le _⟩ rfl (Nat.le_of_ble_eq_true rfl) rfl d_B_become_8 (fun H locs hP hS => ?_)
  have hP : va_P E.1 vwCl (wb E ad (s_N_become S 0 8) ++ X) H := hP
  refine lv_aload_n hx hb d_B_become_11 rfl (lv_at hl 0 rfl) ?_
  refine g_B0_shifts hx hb hts hown hK hP d_B_become_12 ?_
  refine lv_aload_n hx hb d_B_become_15 rfl (lv_at hl 1 rfl) ?_
  refine g_B2_shifts hx hb hts hown hK hP d_B_become_16 ?_
  refine k_mvv (rest := []) (c_N_become l E ad X (s_N_become S 0 8) A 1 (Nat.le_of_ble_eq_true rfl) 9 (Nat.le_of_ble_eq_true rfl) (by decide)) mi_N_become ml_B_33 hx hb hml hts hown hK hP hD hS (rvN (Nat.le_of_ble_eq_true rfl)) hl ⟨rfl, rfl⟩ ⟨(Nat.le_of_ble_eq_true rfl), (Nat.le_of_ble_eq_true rfl)⟩ ⟨Nat.zero_le _, Nat.zero_le _⟩ rfl (Nat.le_of_ble_eq_true rfl) rfl d_B_become_19 (fun H locs hP hS => ?_)
  have hP : va_P E.1 vwCl (wb E ad (s_N_become (s_N_become S 0 8) 1 9) ++ X) H := hP
  refine lv_aload_n hx hb d_B_become_22 rfl (lv_at hl 0 rfl) ?_
  refine g_B0_drivers hx hb hts hown hK hP d_B_become_23 ?_
  refine lv_aload_n hx hb d_B_become_26 rfl (lv_at hl 1 rfl) ?_
  refine g_B2_drivers hx hb hts hown hK hP d_B_become_27 ?_
  refine k_mvv (rest := []) (c_N_become l E ad X (s_N_become (s_N_become S 0 8) 1 9) A 2 (Nat.le_of_ble_eq_true rfl) 10 (Nat.le_of_ble_eq_true rfl) (by decide)) mi_N_become ml_B_33 hx hb hml hts hown hK hP hD hS (rvN (Nat.le_of_ble_eq_true rfl)) hl ⟨rfl, rfl⟩ ⟨(Nat.le_of_ble_eq_true rfl), (Nat.le_of_ble_eq_true rfl)⟩ ⟨Nat.zero_le _, Nat.zero_le _⟩ rfl (Nat.le_of_ble_eq_true rfl) rfl d_B_become_30 (fun H locs hP hS => ?_)
  have hP : va_P E.1 vwCl (wb E ad (s_N_become (s_N_become (s_N_become S 0 8) 1 9) 2 10) ++ X) H := hP
  refine lv_aload_n hx hb d_B_become_33 rfl (lv_at hl 0 rfl) ?_
  refine g_B0_driven hx hb hts hown hK hP d_B_become_34 ?_
  refine lv_aload_n hx hb d_B_become_37 rfl (lv_at hl 1 rfl) ?_
  refine g_B2_driven hx hb hts hown hK hP d_B_become_38 ?_
  refine k_mvv (rest := []) (c_N_become l E ad X (s_N_become (s_N_become (s_N_become S 0 8) 1 9) 2 10) A 3 (Nat.le_of_ble_eq_true rfl) 11 (Nat.le_of_ble_eq_true rfl) (by decide)) mi_N_become ml_B_33 hx hb hml hts hown hK hP hD hS (rvN (Nat.le_of_ble_eq_true rfl)) hl ⟨rfl, rfl⟩ ⟨(Nat.le_of_ble_eq_true rfl), (Nat.le_of_ble_eq_true rfl)⟩ ⟨Nat.zero_le _, Nat.zero_le _⟩ rfl (Nat.le_of_ble_eq_true rfl) rfl d_B_become_41 (fun H locs hP hS => ?_)
  have hP : va_P E.1 vwCl (wb E ad (s_N_become (s_N_become (s_N_become (s_N_become S 0 8) 1 9) 2 10) 3 11) ++ X) H := hP
  refine lv_aload_n hx hb d_B_become_44 rfl (lv_at hl 0 rfl) ?_
  refine lv_aload_n hx hb d_B_become_45 rfl (lv_at hl 1 rfl) ?_
  refine g_B2_pressure hx hb hts hown hK hP d_B_become_46 ?_
  refine p_B0_pressure hx hb hts hown hK hP hD hS d_B_become_49 (fun H locs hP hS => ?_)
  have hP : va_P E.1 vwCl (wb E ad (sV (s_N_become (s_N_become (s_N_become (s_N_become S 0 8) 1 9) 2 10) 3 11) 19 ((s_N_become (s_N_become (s_N_become (s_N_become S 0 8) 1 9) 2 10) 3 11).1 21)) ++ X) H := hP
  exact hend _ _ _ _ _ (by rw [s_B_become_02]) hP hS d_B_become_52
