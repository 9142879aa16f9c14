/-! by program (wip/p32/cls.py) -/
def s_P_wheel (S : St) (a1 : Int32) : Int32 × St := ((s_B_addWheel S a1).1, (s_B_addWheel S a1).2)
set_option maxRecDepth 20000 in
theorem c_P_wheel (l : Launch) (E : Cx) (ad : Nat → Nat) (X : va_W) (S : St) (A : Nat → Prop) (a1 : Int32) : Met l y_P_wheel (Cond.code y_P_wheel b_P_wheel 2 (some .int) :: TB) (rk 3 61) (va_Pc [.ref (ad 39), .int a1] (preM E A (fun S => wb E ad S ++ X) S)) (va_Qi (fun r u => (r, u) = (s_P_wheel S a1)) (fun u t => va_P E.1 vwCl ((fun S => wb E ad S ++ X) u) t.heap) A) 0 0 A := by
  refine w_muI rfl (Nat.le_of_ble_eq_true rfl) rfl ?_
  intro p e s m args below meth c Q ls hx hb hml hts hown hP hK hD hS hl hend
  have hl : lv_has ls 2 [(0, .ref (ad 39)), (1, .int a1)] := hl
  have hP : va_P E.1 vwCl (wb E ad S ++ X) s.heap := hP
  have hown : s.vm.findClass R_P = some m.cls := hown
  have hD : ∀ S' : St, va_D A (wb E ad S' ++ X) := hD
  refine lv_aload_n hx hb d_P_wheel_0 rfl (lv_at hl 0 rfl) ?_
  refine g_P_now hx hb hts hown hK hP d_P_wheel_1 ?_
  refine lv_iload_n hx hb d_P_wheel_4 rfl (lv_at hl 1 rfl) ?_
  refine k_mvi (rest := []) (c_B_addWheel l E ad X S A a1) mi_B_addWheel ml_P_49 hx hb hml hts hown hK hP hD hS rvB0 hl ⟨rfl, rfl⟩ ⟨(Nat.le_of_ble_eq_true rfl), (Nat.le_of_ble_eq_true rfl)⟩ ⟨Nat.zero_le _, Nat.zero_le _⟩ rfl (Nat.le_of_ble_eq_true rfl) rfl d_P_wheel_5 (fun H locs hP hS => ?_)
  have hP : va_P E.1 vwCl (wb E ad (s_B_addWheel S a1).2 ++ X) H := hP
  exact hend _ _ _ _ _ _ (by rw [s_P_wheel]) hP hS d_P_wheel_8

def s_P_shift (S : St) (a1 : Int32) (a2 : Int32) : Int32 × St := ((s_B_setShift S a1 a2).1, (s_B_setShift S a1 a2).2)
set_option maxRecDepth 20000 in
theorem c_P_shift (l : Launch) (E : Cx) (ad : Nat → Nat) (X : va_W) (S : St) (A : Nat → Prop) (a1 : Int32) (a2 : Int32) : Met l y_P_shift (Cond.code y_P_shift b_P_shift 3 (some .int) :: TB) (rk 2 45) (va_Pc [.ref (ad 39), .int a1, .int a2] (preM E A (fun S => wb E ad S ++ X) S)) (va_Qi (fun r u => (r, u) = (s_P_shift S a1 a2)) (fun u t => va_P E.1 vwCl ((fun S => wb E ad S ++ X) u) t.heap) A) 0 0 A := by
  refine w_muI rfl (Nat.le_of_ble_eq_true rfl) rfl ?_
  intro p e s m args below meth c Q ls hx hb hml hts hown hP hK hD hS hl hend
  have hl : lv_has ls 3 [(0, .ref (ad 39)), (1, .int a1), (2, .int a2)] := hl
  have hP : va_P E.1 vwCl (wb E ad S ++ X) s.heap := hP
  have hown : s.vm.findClass R_P = some m.cls := hown
  have hD : ∀ S' : St, va_D A (wb E ad S' ++ X) := hD
  refine lv_aload_n hx hb d_P_shift_0 rfl (lv_at hl 0 rfl) ?_
  refine g_P_now hx hb hts hown hK hP d_P_shift_1 ?_
  refine lv_iload_n hx hb d_P_shift_4 rfl (lv_at hl 1 rfl) ?_
  refine lv_iload_n hx hb d_P_shift_5 rfl (lv_at hl 2 rfl) ?_
  refine k_mvi (rest := []) (c_B_setShift l E ad X S A a1 a2) mi_B_setShift ml_P_53 hx hb hml hts hown hK hP hD hS rvB0 hl ⟨rfl, rfl⟩ ⟨(Nat.le_of_ble_eq_true rfl), (Nat.le_of_ble_eq_true rfl)⟩ ⟨Nat.zero_le _, Nat.zero_le _⟩ rfl (Nat.le_of_ble_eq_true rfl) rfl d_P_shift_6 (fun H locs hP hS => ?_)
  have hP : va_P E.1 vwCl (wb E ad (s_B_setShift S a1 a2).2 ++ X) H := hP
  exact hend _ _ _ _ _ _ (by rw [s_P_shift]) hP hS d_P_shift_9

def s_P_pressure (S : St) (a1 : Int32) : Int32 × St := ((s_B_setPressure S a1).1, (s_B_setPressure S a1).2)
set_option maxRecDepth 20000 in
theorem c_P_pressure (l : Launch) (E : Cx) (ad : Nat → Nat) (X : va_W) (S : St) (A : Nat → Prop) (a1 : Int32) : Met l y_P_pressure (Cond.code y_P_pressure b_P_pressure 2 (some .int) :: TB) (rk 1 22) (va_Pc [.ref (ad 39), .int a1] (preM E A (fun S => wb E ad S ++ X) S)) (va_Qi (fun r u => (r, u) = (s_P_pressure S a1)) (fun u t => va_P E.1 vwCl ((fun S => wb E ad S ++ X) u) t.heap) A) 0 0 A := by
  refine w_muI rfl (Nat.le_of_ble_eq_true rfl) rfl ?_
  intro p e s m args below meth c Q ls hx hb hml hts hown hP hK hD hS hl hend
  have hl : lv_has ls 2 [(0, .ref (ad 39)), (1, .int a1)] := hl
  have hP : va_P E.1 vwCl (wb E ad S ++ X) s.heap := hP
  have hown : s.vm.findClass R_P = some m.cls := hown
  have hD : ∀ S' : St, va_D A (wb E ad S' ++ X) := hD
  refine lv_aload_n hx hb d_P_pressure_0 rfl (lv_at hl 0 rfl) ?_
  refine g_P_now hx hb hts hown hK hP d_P_pressure_1 ?_
  refine lv_iload_n hx hb d_P_pressure_4 rfl (lv_at hl 1 rfl) ?_
  refine k_mvi (rest := []) (c_B_setPressure l E ad X S A a1) mi_B_setPressure ml_P_57 hx hb hml hts hown hK hP hD hS rvB0 hl ⟨rfl, rfl⟩ ⟨(Nat.le_of_ble_eq_true rfl), (Nat.le_of_ble_eq_true rfl)⟩ ⟨Nat.zero_le _, Nat.zero_le _⟩ rfl (Nat.le_of_ble_eq_true rfl) rfl d_P_pressure_5 (fun H locs hP hS => ?_)
  have hP : va_P E.1 vwCl (wb E ad (s_B_setPressure S a1).2 ++ X) H := hP
  exact hend _ _ _ _ _ _ (by rw [s_P_pressure]) hP hS d_P_pressure_8

def s_P_pair (S : St) (a1 : Int32) (a2 : Int32) : Int32 × St := ((s_B_addPair S a1 a2).1, (s_B_addPair S a1 a2).2)
set_option maxRecDepth 20000 in
theorem c_P_pair (l : Launch) (E : Cx) (ad : Nat → Nat) (X : va_W) (S : St) (A : Nat → Prop) (a1 : Int32) (a2 : Int32) : Met l y_P_pair (Cond.code y_P_pair b_P_pair 3 (some .int) :: TB) (rk 4 86) (va_Pc [.ref (ad 39), .int a1, .int a2] (preM E A (fun S => wb E ad S ++ X) S)) (va_Qi (fun r u => (r, u) = (s_P_pair S a1 a2)) (fun u t => va_P E.1 vwCl ((fun S => wb E ad S ++ X) u) t.heap) A) 0 0 A := by
  refine w_muI rfl (Nat.le_of_ble_eq_true rfl) rfl ?_
  intro p e s m args below meth c Q ls hx hb hml hts hown hP hK hD hS hl hend
  have hl : lv_has ls 3 [(0, .ref (ad 39)), (1, .int a1), (2, .int a2)] := hl
  have hP : va_P E.1 vwCl (wb E ad S ++ X) s.heap := hP
  have hown : s.vm.findClass R_P = some m.cls := hown
  have hD : ∀ S' : St, va_D A (wb E ad S' ++ X) := hD
  refine lv_aload_n hx hb d_P_pair_0 rfl (lv_at hl 0 rfl) ?_
  refine g_P_now hx hb hts hown hK hP d_P_pair_1 ?_
  refine lv_iload_n hx hb d_P_pair_4 rfl (lv_at hl 1 rfl) ?_
  refine lv_iload_n hx hb d_P_pair_5 rfl (lv_at hl 2 rfl) ?_
  refine k_mvi (rest := []) (c_B_addPair l E ad X S A a1 a2) mi_B_addPair ml_P_119 hx hb hml hts hown hK hP hD hS rvB0 hl ⟨rfl, rfl⟩ ⟨(Nat.le_of_ble_eq_true rfl), (Nat.le_of_ble_eq_true rfl)⟩ ⟨Nat.zero_le _, Nat.zero_le _⟩ rfl (Nat.le_of_ble_eq_true rfl) rfl d_P_pair_6 (fun H locs hP hS => ?_)
  have hP : va_P E.1 vwCl (wb E ad (s_B_addPair S a1 a2).2 ++ X) H := hP
  exact hend _ _ _ _ _ _ (by rw [s_P_pair]) hP hS d_P_pair_9

def s_P_clear (S : St) : Int32 × St := ((s_B_emptyTrain S).1, (s_B_emptyTrain S).2)
set_option maxRecDepth 20000 in
theorem c_P_clear (l : Launch) (E : Cx) (ad : Nat → Nat) (X : va_W) (S : St) (A : Nat → Prop) : Met l y_P_clear (Cond.code y_P_clear b_P_clear 1 (some .int) :: TB) (rk 2 41) (va_Pc [.ref (ad 39)] (preM E A (fun S => wb E ad S ++ X) S)) (va_Qi (fun r u => (r, u) = (s_P_clear S)) (fun u t => va_P E.1 vwCl ((fun S => wb E ad S ++ X) u) t.heap) A) 0 0 A := by
  refine w_muI rfl (Nat.le_of_ble_eq_true rfl) rfl ?_
  intro p e s m args below meth c Q ls hx hb hml hts hown hP hK hD hS hl hend
  have hl : lv_has ls 1 [(0, .ref (ad 39))] := hl
  have hP : va_P E.1 vwCl (wb E ad S ++ X) s.heap := hP
  have hown : s.vm.findClass R_P = some m.cls := hown
  have hD : ∀ S' : St, va_D A (wb E ad S' ++ X) := hD
  refine lv_aload_n hx hb d_P_clear_0 rfl (lv_at hl 0 rfl) ?_
  refine g_P_now hx hb hts hown hK hP d_P_clear_1 ?_
  refine k_mvi (rest := []) (c_B_emptyTrain l E ad X S A) mi_B_emptyTrain ml_P_122 hx hb hml hts hown hK hP hD hS rvB0 hl ⟨rfl, rfl⟩ ⟨(Nat.le_of_ble_eq_true rfl), (Nat.le_of_ble_eq_true rfl)⟩ ⟨Nat.zero_le _, Nat.zero_le _⟩ rfl (Nat.le_of_ble_eq_true rfl) rfl d_P_clear_4 (fun H locs hP hS => ?_)
  have hP : va_P E.1 vwCl (wb E ad (s_B_emptyTrain S).2 ++ X) H := hP
  exact hend _ _ _ _ _ _ (by rw [s_P_clear]) hP hS d_P_clear_7

def s_P_feed (S : St) (a1 : Int32) : Int32 × St := ((s_X_append S a1).1, (s_X_append S a1).2)
set_option maxRecDepth 20000 in
theorem c_P_feed (l : Launch) (E : Cx) (ad : Nat → Nat) (X : va_W) (S : St) (A : Nat → Prop) (a1 : Int32) : Met l y_P_feed (Cond.code y_P_feed b_P_feed 2 (some .int) :: TB) (rk 2 42) (va_Pc [.ref (ad 39), .int a1] (preM E A (fun S => wb E ad S ++ X) S)) (va_Qi (fun r u => (r, u) = (s_P_feed S a1)) (fun u t => va_P E.1 vwCl ((fun S => wb E ad S ++ X) u) t.heap) A) 0 0 A := by
  refine w_muI rfl (Nat.le_of_ble_eq_true rfl) rfl ?_
  intro p e s m args below meth c Q ls hx hb hml hts hown hP hK hD hS hl hend
  have hl : lv_has ls 2 [(0, .ref (ad 39)), (1, .int a1)] := hl
  have hP : va_P E.1 vwCl (wb E ad S ++ X) s.heap := hP
  have hown : s.vm.findClass R_P = some m.cls := hown
  have hD : ∀ S' : St, va_D A (wb E ad S' ++ X) := hD
  refine lv_aload_n hx hb d_P_feed_0 rfl (lv_at hl 0 rfl) ?_
  refine g_P_tape hx hb hts hown hK hP d_P_feed_1 ?_
  refine lv_iload_n hx hb d_P_feed_4 rfl (lv_at hl 1 rfl) ?_
  refine k_mvi (rest := []) (c_X_append l E ad X S A a1) mi_X_append ml_P_171 hx hb hml hts hown hK hP hD hS rvX hl ⟨rfl, rfl⟩ ⟨(Nat.le_of_ble_eq_true rfl), (Nat.le_of_ble_eq_true rfl)⟩ ⟨Nat.zero_le _, Nat.zero_le _⟩ rfl (Nat.le_of_ble_eq_true rfl) rfl d_P_feed_5 (fun H locs hP hS => ?_)
  have hP : va_P E.1 vwCl (wb E ad (s_X_append S a1).2 ++ X) H := hP
  exact hend _ _ _ _ _ _ (by rw [s_P_feed]) hP hS d_P_feed_8

def s_P_of (S : St) (a1 : Int32) (a2 : Int32) : Int32 := (if (s_B_hasWheel S a1) = 0 then (-1000 : Int32) else (s_B_told S a1 a2))
set_option maxRecDepth 20000 in
theorem c_P_of (l : Launch) (E : Cx) (ad : Nat → Nat) (X : va_W) (S : St) (a1 : Int32) (a2 : Int32) : Met l y_P_of (Cond.code y_P_of b_P_of 3 (some .int) :: TB) (rk 4 86) (va_Pc [.ref (ad 39), .int a1, .int a2] (preR E (wb E ad S ++ X))) (vp_Si (fun r => r = (s_P_of S a1 a2))) 0 0 (fun _ => False) := by
  refine w_roI rfl (Nat.le_of_ble_eq_true rfl) rfl ?_
  intro p e s m args below meth c Q ls hx hb hml hts hown hP hK hl hend
  have hl : lv_has ls 3 [(0, .ref (ad 39)), (1, .int a1), (2, .int a2)] := hl
  have hP : va_P E.1 vwCl (wb E ad S ++ X) s.heap := hP
  have hown : s.vm.findClass R_P = some m.cls := hown
  refine lv_aload_n hx hb d_P_of_0 rfl (lv_at hl 0 rfl) ?_
  refine g_P_now hx hb hts hown hK hP d_P_of_1 ?_
  refine lv_iload_n hx hb d_P_of_4 rfl (lv_at hl 1 rfl) ?_
  refine k_vi (rest := []) (c_B_hasWheel l E ad X S a1) mi_B_hasWheel ml_P_60 hx hb hml hts hown hK hP rvB0 hl ⟨rfl, rfl⟩ ⟨(Nat.le_of_ble_eq_true rfl), (Nat.le_of_ble_eq_true rfl)⟩ ⟨Nat.zero_le _, Nat.zero_le _⟩ rfl (Nat.le_of_ble_eq_true rfl) rfl d_P_of_5 ?_
  refine lv_if_eq (tgt := 23) hx hb d_P_of_8 (by decide) (fun c_8 => ?_) (fun c_8 => ?_)
  · refine lv_sipush (v := (-1000 : Int32)) hx hb d_P_of_23 rfl ?_
    exact hend _ _ _ (by rw [s_P_of, if_pos c_8]) d_P_of_26
  · refine lv_aload_n hx hb d_P_of_11 rfl (lv_at hl 0 rfl) ?_
    refine g_P_now hx hb hts hown hK hP d_P_of_12 ?_
    refine lv_iload_n hx hb d_P_of_15 rfl (lv_at hl 1 rfl) ?_
    refine lv_iload_n hx hb d_P_of_16 rfl (lv_at hl 2 rfl) ?_
    refine k_vi (rest := []) (c_B_told l E ad X S a1 a2) mi_B_told ml_P_64 hx hb hml hts hown hK hP rvB0 hl ⟨rfl, rfl⟩ ⟨(Nat.le_of_ble_eq_true rfl), (Nat.le_of_ble_eq_true rfl)⟩ ⟨Nat.zero_le _, Nat.zero_le _⟩ rfl (Nat.le_of_ble_eq_true rfl) rfl d_P_of_17 ?_
    refine lv_goto (tgt := 26) hx hb d_P_of_20 (by decide) ?_
    exact hend _ _ _ (by rw [s_P_of, if_neg c_8]) d_P_of_26

def s_P_fewest (S : St) (a1 : Int32) : Int32 := (if (s_P_isShift a1) = 0 then (-1 : Int32) else (s_B_fewestTeeth S a1))
set_option maxRecDepth 20000 in
theorem c_P_fewest (l : Launch) (E : Cx) (ad : Nat → Nat) (X : va_W) (S : St) (a1 : Int32) : Met l y_P_fewest (Cond.code y_P_fewest b_P_fewest 2 (some .int) :: TB) (rk 3 64) (va_Pc [.ref (ad 39), .int a1] (preR E (wb E ad S ++ X))) (vp_Si (fun r => r = (s_P_fewest S a1))) 0 0 (fun _ => False) := by
  refine w_roI rfl (Nat.le_of_ble_eq_true rfl) rfl ?_
  intro p e s m args below meth c Q ls hx hb hml hts hown hP hK hl hend
  have hl : lv_has ls 2 [(0, .ref (ad 39)), (1, .int a1)] := hl
  have hP : va_P E.1 vwCl (wb E ad S ++ X) s.heap := hP
  have hown : s.vm.findClass R_P = some m.cls := hown
  refine lv_iload_n hx hb d_P_fewest_0 rfl (lv_at hl 1 rfl) ?_
  refine k_si (rest := []) (c_P_isShift l E a1) mi_P_isShift ml_P_67 hx hb hml hts hown hK va_nil hl ⟨rfl, rfl⟩ ⟨(Nat.le_of_ble_eq_true rfl), (Nat.le_of_ble_eq_true rfl)⟩ ⟨Nat.zero_le _, Nat.zero_le _⟩ rfl (Nat.le_of_ble_eq_true rfl) rfl d_P_fewest_1 ?_
  refine lv_if_eq (tgt := 18) hx hb d_P_fewest_4 (by decide) (fun c_4 => ?_) (fun c_4 => ?_)
  · refine lv_iconst (v := (-1 : Int32)) hx hb d_P_fewest_18 rfl ?_
    exact hend _ _ _ (by rw [s_P_fewest, if_pos c_4]) d_P_fewest_19
  · refine lv_aload_n hx hb d_P_fewest_7 rfl (lv_at hl 0 rfl) ?_
    refine g_P_now hx hb hts hown hK hP d_P_fewest_8 ?_
    refine lv_iload_n hx hb d_P_fewest_11 rfl (lv_at hl 1 rfl) ?_
    refine k_vi (rest := []) (c_B_fewestTeeth l E ad X S a1) mi_B_fewestTeeth ml_P_70 hx hb hml hts hown hK hP rvB0 hl ⟨rfl, rfl⟩ ⟨(Nat.le_of_ble_eq_true rfl), (Nat.le_of_ble_eq_true rfl)⟩ ⟨Nat.zero_le _, Nat.zero_le _⟩ rfl (Nat.le_of_ble_eq_true rfl) rfl d_P_fewest_12 ?_
    refine lv_goto (tgt := 19) hx hb d_P_fewest_15 (by decide) ?_
    exact hend _ _ _ (by rw [s_P_fewest, if_neg c_4]) d_P_fewest_19

def s_P_distance (S : St) (a1 : Int32) (a2 : Int32) (a3 : Int32) : Int64 := (if (s_P_isPart a3) = 0 then (-9223372036854775808 : Int64) else (if (s_B_canPair S a1 a2) = 0 then (-9223372036854775808 : Int64) else (if (s_B_clashes S a1 a2) = 0 then (s_P_partOf ((s_B_hundredths S a1 a2).toInt64) (100 : Int64) a3) else (-9223372036854775807 : Int64))))
set_option maxRecDepth 20000 in
theorem c_P_distance (l : Launch) (E : Cx) (ad : Nat → Nat) (X : va_W) (S : St) (a1 : Int32) (a2 : Int32) (a3 : Int32) : Met l y_P_distance (Cond.code y_P_distance b_P_distance 4 (some .long) :: TB) (rk 4 86) (va_Pc [.ref (ad 39), .int a1, .int a2, .int a3] (preR E (wb E ad S ++ X))) (vp_Sl (fun r => r = (s_P_distance S a1 a2 a3))) 0 0 (fun _ => False) := by
  refine w_roL rfl (Nat.le_of_ble_eq_true rfl) ?_
  intro p e s m args below meth c Q ls hx hb hml hts hown hP hK hl hend
  have hl : lv_has ls 4 [(0, .ref (ad 39)), (1, .int a1), (2, .int a2), (3, .int a3)] := hl
  have hP : va_P E.1 vwCl (wb E ad S ++ X) s.heap := hP
  have hown : s.vm.findClass R_P = some m.cls := hown
  refine lv_iload_n hx hb d_P_distance_0 rfl (lv_at hl 3 rfl) ?_
  refine k_si (rest := []) (c_P_isPart l E a3) mi_P_isPart ml_P_73 hx hb hml hts hown hK va_nil hl ⟨rfl, rfl⟩ ⟨(Nat.le_of_ble_eq_true rfl), (Nat.le_of_ble_eq_true rfl)⟩ ⟨Nat.zero_le _, Nat.zero_le _⟩ rfl (Nat.le_of_ble_eq_true rfl) rfl d_P_distance_1 ?_
  refine lv_if_eq (tgt := 19) hx hb d_P_distance_4 (by decide) (fun c_4 => ?_) (fun c_4 => ?_)
  · refine lv_ldc2 (v := (-9223372036854775808 : Int64)) hx hb hown (hts _ kl_P_80) d_P_distance_19 ?_
    exact hend _ _ _ (by rw [s_P_distance, if_pos c_4]) d_P_distance_22
  · refine lv_aload_n hx hb d_P_distance_7 rfl (lv_at hl 0 rfl) ?_
    refine g_P_now hx hb hts hown hK hP d_P_distance_8 ?_
    refine lv_iload_n hx hb d_P_distance_11 rfl (lv_at hl 1 rfl) ?_
    refine lv_iload_n hx hb d_P_distance_12 rfl (lv_at hl 2 rfl) ?_
    refine k_vi (rest := []) (c_B_canPair l E ad X S a1 a2) mi_B_canPair ml_P_76 hx hb hml hts hown hK hP rvB0 hl ⟨rfl, rfl⟩ ⟨(Nat.le_of_ble_eq_true rfl), (Nat.le_of_ble_eq_true rfl)⟩ ⟨Nat.zero_le _, Nat.zero_le _⟩ rfl (Nat.le_of_ble_eq_true rfl) rfl d_P_distance_13 ?_
    refine lv_if_ne (tgt := 23) hx hb d_P_distance_16 (by decide) (fun c_16 => ?_) (fun c_16 => ?_)
    · refine lv_aload_n hx hb d_P_distance_23 rfl (lv_at hl 0 rfl) ?_
      refine g_P_now hx hb hts hown hK hP d_P_distance_24 ?_
      refine lv_iload_n hx hb d_P_distance_27 rfl (lv_at hl 1 rfl) ?_
      refine lv_iload_n hx hb d_P_distance_28 rfl (lv_at hl 2 rfl) ?_
      refine k_vi (rest := []) (c_B_clashes l E ad X S a1 a2) mi_B_clashes ml_P_82 hx hb hml hts hown hK hP rvB0 hl ⟨rfl, rfl⟩ ⟨(Nat.le_of_ble_eq_true rfl), (Nat.le_of_ble_eq_true rfl)⟩ ⟨Nat.zero_le _, Nat.zero_le _⟩ rfl (Nat.le_of_ble_eq_true rfl) rfl d_P_distance_29 ?_
      refine lv_if_eq (tgt := 41) hx hb d_P_distance_32 (by decide) (fun c_32 => ?_) (fun c_32 => ?_)
      · refine lv_aload_n hx hb d_P_distance_41 rfl (lv_at hl 0 rfl) ?_
        refine g_P_now hx hb hts hown hK hP d_P_distance_42 ?_
        refine lv_iload_n hx hb d_P_distance_45 rfl (lv_at hl 1 rfl) ?_
        refine lv_iload_n hx hb d_P_distance_46 rfl (lv_at hl 2 rfl) ?_
        refine k_vi (rest := []) (c_B_hundredths l E ad X S a1 a2) mi_B_hundredths ml_P_87 hx hb hml hts hown hK hP rvB0 hl ⟨rfl, rfl⟩ ⟨(Nat.le_of_ble_eq_true rfl), (Nat.le_of_ble_eq_true rfl)⟩ ⟨Nat.zero_le _, Nat.zero_le _⟩ rfl (Nat.le_of_ble_eq_true rfl) rfl d_P_distance_47 ?_
        refine lv_i2l hx hb d_P_distance_50 rfl ?_
        refine lv_ldc2 (v := (100 : Int64)) hx hb hown (hts _ kl_P_90) d_P_distance_51 ?_
        refine lv_iload_n hx hb d_P_distance_54 rfl (lv_at hl 3 rfl) ?_
        refine k_sl (rest := []) (c_P_partOf l E ((s_B_hundredths S a1 a2).toInt64) (100 : Int64) a3) mi_P_partOf ml_P_92 hx hb hml hts hown hK va_nil hl ⟨rfl, rfl⟩ ⟨(Nat.le_of_ble_eq_true rfl), (Nat.le_of_ble_eq_true rfl)⟩ ⟨Nat.zero_le _, Nat.zero_le _⟩ rfl (Nat.le_of_ble_eq_true rfl) rfl d_P_distance_55 ?_
        exact hend _ _ _ (by rw [s_P_distance, if_neg c_4, if_neg c_16, if_pos c_32]) d_P_distance_58
      · refine lv_ldc2 (v := (-9223372036854775807 : Int64)) hx hb hown (hts _ kl_P_85) d_P_distance_35 ?_
        refine lv_goto (tgt := 58) hx hb d_P_distance_38 (by decide) ?_
        exact hend _ _ _ (by rw [s_P_distance, if_neg c_4, if_neg c_16, if_neg c_32]) d_P_distance_58
    · refine lv_ldc2 (v := (-9223372036854775808 : Int64)) hx hb hown (hts _ kl_P_80) d_P_distance_19 ?_
      exact hend _ _ _ (by rw [s_P_distance, if_neg c_4, if_pos c_16]) d_P_distance_22

def s_P_ratio (S : St) (a1 : Int32) (a2 : Int32) (a3 : Int32) : Int64 := (if (s_P_isPart a3) = 0 then (-9223372036854775808 : Int64) else (if (s_B_canPair S a1 a2) = 0 then (-9223372036854775808 : Int64) else (if (s_B_clashes S a1 a2) = 0 then (s_P_partOf (s_B_above S a1 a2) (s_B_below S a1 a2) a3) else (-9223372036854775807 : Int64))))
set_option maxRecDepth 20000 in
theorem c_P_ratio (l : Launch) (E : Cx) (ad : Nat → Nat) (X : va_W) (S : St) (a1 : Int32) (a2 : Int32) (a3 : Int32) : Met l y_P_ratio (Cond.code y_P_ratio b_P_ratio 4 (some .long) :: TB) (rk 4 87) (va_Pc [.ref (ad 39), .int a1, .int a2, .int a3] (preR E (wb E ad S ++ X))) (vp_Sl (fun r => r = (s_P_ratio S a1 a2 a3))) 0 0 (fun _ => False) := by
  refine w_roL rfl (Nat.le_of_ble_eq_true rfl) ?_
  intro p e s m args below meth c Q ls hx hb hml hts hown hP hK hl hend
  have hl : lv_has ls 4 [(0, .ref (ad 39)), (1, .int a1), (2, .int a2), (3, .int a3)] := hl
  have hP : va_P E.1 vwCl (wb E ad S ++ X) s.heap := hP
  have hown : s.vm.findClass R_P = some m.cls := hown
  refine lv_iload_n hx hb d_P_ratio_0 rfl (lv_at hl 3 rfl) ?_
  refine k_si (rest := []) (c_P_isPart l E a3) mi_P_isPart ml_P_73 hx hb hml hts hown hK va_nil hl ⟨rfl, rfl⟩ ⟨(Nat.le_of_ble_eq_true rfl), (Nat.le_of_ble_eq_true rfl)⟩ ⟨Nat.zero_le _, Nat.zero_le _⟩ rfl (Nat.le_of_ble_eq_true rfl) rfl d_P_ratio_1 ?_
  refine lv_if_eq (tgt := 19) hx hb d_P_ratio_4 (by decide) (fun c_4 => ?_) (fun c_4 => ?_)
  · refine lv_ldc2 (v := (-9223372036854775808 : Int64)) hx hb hown (hts _ kl_P_80) d_P_ratio_19 ?_
    exact hend _ _ _ (by rw [s_P_ratio, if_pos c_4]) d_P_ratio_22
  · refine lv_aload_n hx hb d_P_ratio_7 rfl (lv_at hl 0 rfl) ?_
    refine g_P_now hx hb hts hown hK hP d_P_ratio_8 ?_
    refine lv_iload_n hx hb d_P_ratio_11 rfl (lv_at hl 1 rfl) ?_
    refine lv_iload_n hx hb d_P_ratio_12 rfl (lv_at hl 2 rfl) ?_
    refine k_vi (rest := []) (c_B_canPair l E ad X S a1 a2) mi_B_canPair ml_P_76 hx hb hml hts hown hK hP rvB0 hl ⟨rfl, rfl⟩ ⟨(Nat.le_of_ble_eq_true rfl), (Nat.le_of_ble_eq_true rfl)⟩ ⟨Nat.zero_le _, Nat.zero_le _⟩ rfl (Nat.le_of_ble_eq_true rfl) rfl d_P_ratio_13 ?_
    refine lv_if_ne (tgt := 23) hx hb d_P_ratio_16 (by decide) (fun c_16 => ?_) (fun c_16 => ?_)
    · refine lv_aload_n hx hb d_P_ratio_23 rfl (lv_at hl 0 rfl) ?_
      refine g_P_now hx hb hts hown hK hP d_P_ratio_24 ?_
      refine lv_iload_n hx hb d_P_ratio_27 rfl (lv_at hl 1 rfl) ?_
      refine lv_iload_n hx hb d_P_ratio_28 rfl (lv_at hl 2 rfl) ?_
      refine k_vi (rest := []) (c_B_clashes l E ad X S a1 a2) mi_B_clashes ml_P_82 hx hb hml hts hown hK hP rvB0 hl ⟨rfl, rfl⟩ ⟨(Nat.le_of_ble_eq_true rfl), (Nat.le_of_ble_eq_true rfl)⟩ ⟨Nat.zero_le _, Nat.zero_le _⟩ rfl (Nat.le_of_ble_eq_true rfl) rfl d_P_ratio_29 ?_
      refine lv_if_eq (tgt := 41) hx hb d_P_ratio_32 (by decide) (fun c_32 => ?_) (fun c_32 => ?_)
      · refine lv_aload_n hx hb d_P_ratio_41 rfl (lv_at hl 0 rfl) ?_
        refine g_P_now hx hb hts hown hK hP d_P_ratio_42 ?_
        refine lv_iload_n hx hb d_P_ratio_45 rfl (lv_at hl 1 rfl) ?_
        refine lv_iload_n hx hb d_P_ratio_46 rfl (lv_at hl 2 rfl) ?_
        refine k_vl (rest := []) (c_B_above l E ad X S a1 a2) mi_B_above ml_P_96 hx hb hml hts hown hK hP rvB0 hl ⟨rfl, rfl⟩ ⟨(Nat.le_of_ble_eq_true rfl), (Nat.le_of_ble_eq_true rfl)⟩ ⟨Nat.zero_le _, Nat.zero_le _⟩ rfl (Nat.le_of_ble_eq_true rfl) rfl d_P_ratio_47 ?_
        refine lv_aload_n hx hb d_P_ratio_50 rfl (lv_at hl 0 rfl) ?_
        refine g_P_now hx hb hts hown hK hP d_P_ratio_51 ?_
        refine lv_iload_n hx hb d_P_ratio_54 rfl (lv_at hl 1 rfl) ?_
        refine lv_iload_n hx hb d_P_ratio_55 rfl (lv_at hl 2 rfl) ?_
        refine k_vl (rest := [.long (s_B_above S a1 a2)]) (c_B_below l E ad X S a1 a2) mi_B_below ml_P_100 hx hb hml hts hown hK hP rvB0 hl ⟨rfl, rfl⟩ ⟨(Nat.le_of_ble_eq_true rfl), (Nat.le_of_ble_eq_true rfl)⟩ ⟨Nat.zero_le _, Nat.zero_le _⟩ rfl (Nat.le_of_ble_eq_true rfl) rfl d_P_ratio_56 ?_
        refine lv_iload_n hx hb d_P_ratio_59 rfl (lv_at hl 3 rfl) ?_
        refine k_sl (rest := []) (c_P_partOf l E (s_B_above S a1 a2) (s_B_below S a1 a2) a3) mi_P_partOf ml_P_92 hx hb hml hts hown hK va_nil hl ⟨rfl, rfl⟩ ⟨(Nat.le_of_ble_eq_true rfl), (Nat.le_of_ble_eq_true rfl)⟩ ⟨Nat.zero_le _, Nat.zero_le _⟩ rfl (Nat.le_of_ble_eq_true rfl) rfl d_P_ratio_60 ?_
        exact hend _ _ _ (by rw [s_P_ratio, if_neg c_4, if_neg c_16, if_pos c_32]) d_P_ratio_63
      · refine lv_ldc2 (v := (-9223372036854775807 : Int64)) hx hb hown (hts _ kl_P_85) d_P_ratio_35 ?_
        refine lv_goto (tgt := 63) hx hb d_P_ratio_38 (by decide) ?_
        exact hend _ _ _ (by rw [s_P_ratio, if_neg c_4, if_neg c_16, if_neg c_32]) d_P_ratio_63
    · refine lv_ldc2 (v := (-9223372036854775808 : Int64)) hx hb hown (hts _ kl_P_80) d_P_ratio_19 ?_
      exact hend _ _ _ (by rw [s_P_ratio, if_neg c_4, if_pos c_16]) d_P_ratio_22

def s_P_contact (S : St) (a1 : Int32) (a2 : Int32) (a3 : Int32) : Int64 := (if a3 < 0 then (-9223372036854775808 : Int64) else (if (1 : Int32) < a3 then (-9223372036854775808 : Int64) else (if (s_B_canPair S a1 a2) = 0 then (-9223372036854775808 : Int64) else (if (s_B_hasRing S a1 a2) = 0 then (if a3 = 0 then (s_B_lowContact S a1 a2) else (s_B_highContact S a1 a2)) else (-9223372036854775808 : Int64)))))
set_option maxRecDepth 20000 in
theorem c_P_contact (l : Launch) (E : Cx) (ad : Nat → Nat) (X : va_W) (S : St) (a1 : Int32) (a2 : Int32) (a3 : Int32) : Met l y_P_contact (Cond.code y_P_contact b_P_contact 4 (some .long) :: TB) (rk 5 121) (va_Pc [.ref (ad 39), .int a1, .int a2, .int a3] (preR E (wb E ad S ++ X))) (vp_Sl (fun r => r = (s_P_contact S a1 a2 a3))) 0 0 (fun _ => False) := by
  refine w_roL rfl (Nat.le_of_ble_eq_true rfl) ?_
  intro p e s m args below meth c Q ls hx hb hml hts hown hP hK hl hend
  have hl : lv_has ls 4 [(0, .ref (ad 39)), (1, .int a1), (2, .int a2), (3, .int a3)] := hl
  have hP : va_P E.1 vwCl (wb E ad S ++ X) s.heap := hP
  have hown : s.vm.findClass R_P = some m.cls := hown
  refine lv_iload_n hx hb d_P_contact_0 rfl (lv_at hl 3 rfl) ?_
  refine lv_if_lt (tgt := 33) hx hb d_P_contact_1 (by decide) (fun c_1 => ?_) (fun c_1 => ?_)
  · refine lv_ldc2 (v := (-9223372036854775808 : Int64)) hx hb hown (hts _ kl_P_80) d_P_contact_33 ?_
    exact hend _ _ _ (by rw [s_P_contact, if_pos c_1]) d_P_contact_36
  · refine lv_iload_n hx hb d_P_contact_4 rfl (lv_at hl 3 rfl) ?_
    refine lv_iconst (v := (1 : Int32)) hx hb d_P_contact_5 rfl ?_
    refine lv_icmp_gt (tgt := 33) hx hb d_P_contact_6 (by decide) (fun c_6 => ?_) (fun c_6 => ?_)
    · refine lv_ldc2 (v := (-9223372036854775808 : Int64)) hx hb hown (hts _ kl_P_80) d_P_contact_33 ?_
      exact hend _ _ _ (by rw [s_P_contact, if_neg c_1, if_pos c_6]) d_P_contact_36
    · refine lv_aload_n hx hb d_P_contact_9 rfl (lv_at hl 0 rfl) ?_
      refine g_P_now hx hb hts hown hK hP d_P_contact_10 ?_
      refine lv_iload_n hx hb d_P_contact_13 rfl (lv_at hl 1 rfl) ?_
      refine lv_iload_n hx hb d_P_contact_14 rfl (lv_at hl 2 rfl) ?_
      refine k_vi (rest := []) (c_B_canPair l E ad X S a1 a2) mi_B_canPair ml_P_76 hx hb hml hts hown hK hP rvB0 hl ⟨rfl, rfl⟩ ⟨(Nat.le_of_ble_eq_true rfl), (Nat.le_of_ble_eq_true rfl)⟩ ⟨Nat.zero_le _, Nat.zero_le _⟩ rfl (Nat.le_of_ble_eq_true rfl) rfl d_P_contact_15 ?_
      refine lv_if_eq (tgt := 33) hx hb d_P_contact_18 (by decide) (fun c_18 => ?_) (fun c_18 => ?_)
      · refine lv_ldc2 (v := (-9223372036854775808 : Int64)) hx hb hown (hts _ kl_P_80) d_P_contact_33 ?_
        exact hend _ _ _ (by rw [s_P_contact, if_neg c_1, if_neg c_6, if_pos c_18]) d_P_contact_36
      · refine lv_aload_n hx hb d_P_contact_21 rfl (lv_at hl 0 rfl) ?_
        refine g_P_now hx hb hts hown hK hP d_P_contact_22 ?_
        refine lv_iload_n hx hb d_P_contact_25 rfl (lv_at hl 1 rfl) ?_
        refine lv_iload_n hx hb d_P_contact_26 rfl (lv_at hl 2 rfl) ?_
        refine k_vi (rest := []) (c_B_hasRing l E ad X S a1 a2) mi_B_hasRing ml_P_103 hx hb hml hts hown hK hP rvB0 hl ⟨rfl, rfl⟩ ⟨(Nat.le_of_ble_eq_true rfl), (Nat.le_of_ble_eq_true rfl)⟩ ⟨Nat.zero_le _, Nat.zero_le _⟩ rfl (Nat.le_of_ble_eq_true rfl) rfl d_P_contact_27 ?_
        refine lv_if_eq (tgt := 37) hx hb d_P_contact_30 (by decide) (fun c_30 => ?_) (fun c_30 => ?_)
        · refine lv_iload_n hx hb d_P_contact_37 rfl (lv_at hl 3 rfl) ?_
          refine lv_if_ne (tgt := 53) hx hb d_P_contact_38 (by decide) (fun c_38 => ?_) (fun c_38 => ?_)
          · refine lv_aload_n hx hb d_P_contact_53 rfl (lv_at hl 0 rfl) ?_
            refine g_P_now hx hb hts hown hK hP d_P_contact_54 ?_
            refine lv_iload_n hx hb d_P_contact_57 rfl (lv_at hl 1 rfl) ?_
            refine lv_iload_n hx hb d_P_contact_58 rfl (lv_at hl 2 rfl) ?_
            refine k_vl (rest := []) (c_B_highContact l E ad X S a1 a2) mi_B_highContact ml_P_109 hx hb hml hts hown hK hP rvB0 hl ⟨rfl, rfl⟩ ⟨(Nat.le_of_ble_eq_true rfl), (Nat.le_of_ble_eq_true rfl)⟩ ⟨Nat.zero_le _, Nat.zero_le _⟩ rfl (Nat.le_of_ble_eq_true rfl) rfl d_P_contact_59 ?_
            exact hend _ _ _ (by rw [s_P_contact, if_neg c_1, if_neg c_6, if_neg c_18, if_pos c_30, if_neg c_38]) d_P_contact_62
          · refine lv_aload_n hx hb d_P_contact_41 rfl (lv_at hl 0 rfl) ?_
            refine g_P_now hx hb hts hown hK hP d_P_contact_42 ?_
            refine lv_iload_n hx hb d_P_contact_45 rfl (lv_at hl 1 rfl) ?_
            refine lv_iload_n hx hb d_P_contact_46 rfl (lv_at hl 2 rfl) ?_
            refine k_vl (rest := []) (c_B_lowContact l E ad X S a1 a2) mi_B_lowContact ml_P_106 hx hb hml hts hown hK hP rvB0 hl ⟨rfl, rfl⟩ ⟨(Nat.le_of_ble_eq_true rfl), (Nat.le_of_ble_eq_true rfl)⟩ ⟨Nat.zero_le _, Nat.zero_le _⟩ rfl (Nat.le_of_ble_eq_true rfl) rfl d_P_contact_47 ?_
            refine lv_goto (tgt := 62) hx hb d_P_contact_50 (by decide) ?_
            exact hend _ _ _ (by rw [s_P_contact, if_neg c_1, if_neg c_6, if_neg c_18, if_pos c_30, if_pos c_38]) d_P_contact_62
        · refine lv_ldc2 (v := (-9223372036854775808 : Int64)) hx hb hown (hts _ kl_P_80) d_P_contact_33 ?_
          exact hend _ _ _ (by rw [s_P_contact, if_neg c_1, if_neg c_6, if_neg c_18, if_neg c_30]) d_P_contact_36

def s_P_shiftFor (S : St) (a1 : Int32) (a2 : Int32) (a3 : Int32) (a4 : Int32) : Int32 := (if (s_B_canPair S a1 a2) = 0 then (-1000 : Int32) else (if a3 < (1 : Int32) then (-1000 : Int32) else (if (9999 : Int32) < a3 then (-1000 : Int32) else (if a4 < (1 : Int32) then (-1000 : Int32) else (if a4 ≤ (9999 : Int32) then (if (s_B_clashes S a1 a2) = 0 then (s_B_shiftAt S a1 a2 a3 a4) else (-1002 : Int32)) else (-1000 : Int32))))))
set_option maxRecDepth 20000 in
theorem c_P_shiftFor (l : Launch) (E : Cx) (ad : Nat → Nat) (X : va_W) (S : St) (a1 : Int32) (a2 : Int32) (a3 : Int32) (a4 : Int32) : Met l y_P_shiftFor (Cond.code y_P_shiftFor b_P_shiftFor 5 (some .int) :: TB) (rk 4 86) (va_Pc [.ref (ad 39), .int a1, .int a2, .int a3, .int a4] (preR E (wb E ad S ++ X))) (vp_Si (fun r => r = (s_P_shiftFor S a1 a2 a3 a4))) 0 0 (fun _ => False) := by
  refine w_roI rfl (Nat.le_of_ble_eq_true rfl) rfl ?_
  intro p e s m args below meth c Q ls hx hb hml hts hown hP hK hl hend
  have hl : lv_has ls 5 [(0, .ref (ad 39)), (1, .int a1), (2, .int a2), (3, .int a3), (4, .int a4)] := hl
  have hP : va_P E.1 vwCl (wb E ad S ++ X) s.heap := hP
  have hown : s.vm.findClass R_P = some m.cls := hown
  refine lv_aload_n hx hb d_P_shiftFor_0 rfl (lv_at hl 0 rfl) ?_
  refine g_P_now hx hb hts hown hK hP d_P_shiftFor_1 ?_
  refine lv_iload_n hx hb d_P_shiftFor_4 rfl (lv_at hl 1 rfl) ?_
  refine lv_iload_n hx hb d_P_shiftFor_5 rfl (lv_at hl 2 rfl) ?_
  refine k_vi (rest := []) (c_B_canPair l E ad X S a1 a2) mi_B_canPair ml_P_76 hx hb hml hts hown hK hP rvB0 hl ⟨rfl, rfl⟩ ⟨(Nat.le_of_ble_eq_true rfl), (Nat.le_of_ble_eq_true rfl)⟩ ⟨Nat.zero_le _, Nat.zero_le _⟩ rfl (Nat.le_of_ble_eq_true rfl) rfl d_P_shiftFor_6 ?_
  refine lv_if_eq (tgt := 38) hx hb d_P_shiftFor_9 (by decide) (fun c_9 => ?_) (fun c_9 => ?_)
  · refine lv_sipush (v := (-1000 : Int32)) hx hb d_P_shiftFor_38 rfl ?_
    exact hend _ _ _ (by rw [s_P_shiftFor, if_pos c_9]) d_P_shiftFor_41
  · refine lv_iload_n hx hb d_P_shiftFor_12 rfl (lv_at hl 3 rfl) ?_
    refine lv_iconst (v := (1 : Int32)) hx hb d_P_shiftFor_13 rfl ?_
    refine lv_icmp_lt (tgt := 38) hx hb d_P_shiftFor_14 (by decide) (fun c_14 => ?_) (fun c_14 => ?_)
    · refine lv_sipush (v := (-1000 : Int32)) hx hb d_P_shiftFor_38 rfl ?_
      exact hend _ _ _ (by rw [s_P_shiftFor, if_neg c_9, if_pos c_14]) d_P_shiftFor_41
    · refine lv_iload_n hx hb d_P_shiftFor_17 rfl (lv_at hl 3 rfl) ?_
      refine lv_sipush (v := (9999 : Int32)) hx hb d_P_shiftFor_18 rfl ?_
      refine lv_icmp_gt (tgt := 38) hx hb d_P_shiftFor_21 (by decide) (fun c_21 => ?_) (fun c_21 => ?_)
      · refine lv_sipush (v := (-1000 : Int32)) hx hb d_P_shiftFor_38 rfl ?_
        exact hend _ _ _ (by rw [s_P_shiftFor, if_neg c_9, if_neg c_14, if_pos c_21]) d_P_shiftFor_41
      · refine lv_iload hx hb d_P_shiftFor_24 (lv_at hl 4 rfl) ?_
        refine lv_iconst (v := (1 : Int32)) hx hb d_P_shiftFor_26 rfl ?_
        refine lv_icmp_lt (tgt := 38) hx hb d_P_shiftFor_27 (by decide) (fun c_27 => ?_) (fun c_27 => ?_)
        · refine lv_sipush (v := (-1000 : Int32)) hx hb d_P_shiftFor_38 rfl ?_
          exact hend _ _ _ (by rw [s_P_shiftFor, if_neg c_9, if_neg c_14, if_neg c_21, if_pos c_27]) d_P_shiftFor_41
        · refine lv_iload hx hb d_P_shiftFor_30 (lv_at hl 4 rfl) ?_
          refine lv_sipush (v := (9999 : Int32)) hx hb d_P_shiftFor_32 rfl ?_
          refine lv_icmp_le (tgt := 42) hx hb d_P_shiftFor_35 (by decide) (fun c_35 => ?_) (fun c_35 => ?_)
          · refine lv_aload_n hx hb d_P_shiftFor_42 rfl (lv_at hl 0 rfl) ?_
            refine g_P_now hx hb hts hown hK hP d_P_shiftFor_43 ?_
            refine lv_iload_n hx hb d_P_shiftFor_46 rfl (lv_at hl 1 rfl) ?_
            refine lv_iload_n hx hb d_P_shiftFor_47 rfl (lv_at hl 2 rfl) ?_
            refine k_vi (rest := []) (c_B_clashes l E ad X S a1 a2) mi_B_clashes ml_P_82 hx hb hml hts hown hK hP rvB0 hl ⟨rfl, rfl⟩ ⟨(Nat.le_of_ble_eq_true rfl), (Nat.le_of_ble_eq_true rfl)⟩ ⟨Nat.zero_le _, Nat.zero_le _⟩ rfl (Nat.le_of_ble_eq_true rfl) rfl d_P_shiftFor_48 ?_
            refine lv_if_eq (tgt := 60) hx hb d_P_shiftFor_51 (by decide) (fun c_51 => ?_) (fun c_51 => ?_)
            · refine lv_aload_n hx hb d_P_shiftFor_60 rfl (lv_at hl 0 rfl) ?_
              refine g_P_now hx hb hts hown hK hP d_P_shiftFor_61 ?_
              refine lv_iload_n hx hb d_P_shiftFor_64 rfl (lv_at hl 1 rfl) ?_
              refine lv_iload_n hx hb d_P_shiftFor_65 rfl (lv_at hl 2 rfl) ?_
              refine lv_iload_n hx hb d_P_shiftFor_66 rfl (lv_at hl 3 rfl) ?_
              refine lv_iload hx hb d_P_shiftFor_67 (lv_at hl 4 rfl) ?_
              refine k_vi (rest := []) (c_B_shiftAt l E ad X S a1 a2 a3 a4) mi_B_shiftAt ml_P_112 hx hb hml hts hown hK hP rvB0 hl ⟨rfl, rfl⟩ ⟨(Nat.le_of_ble_eq_true rfl), (Nat.le_of_ble_eq_true rfl)⟩ ⟨Nat.zero_le _, Nat.zero_le _⟩ rfl (Nat.le_of_ble_eq_true rfl) rfl d_P_shiftFor_69 ?_
              exact hend _ _ _ (by rw [s_P_shiftFor, if_neg c_9, if_neg c_14, if_neg c_21, if_neg c_27, if_pos c_35, if_pos c_51]) d_P_shiftFor_72
            · refine lv_sipush (v := (-1002 : Int32)) hx hb d_P_shiftFor_54 rfl ?_
              refine lv_goto (tgt := 72) hx hb d_P_shiftFor_57 (by decide) ?_
              exact hend _ _ _ (by rw [s_P_shiftFor, if_neg c_9, if_neg c_14, if_neg c_21, if_neg c_27, if_pos c_35, if_neg c_51]) d_P_shiftFor_72
          · refine lv_sipush (v := (-1000 : Int32)) hx hb d_P_shiftFor_38 rfl ?_
            exact hend _ _ _ (by rw [s_P_shiftFor, if_neg c_9, if_neg c_14, if_neg c_21, if_neg c_27, if_neg c_35]) d_P_shiftFor_41

def s_P_wheels (S : St) (a1 : Int32) : Int32 := (if a1 < 0 then (-1 : Int32) else (if a1 ≤ (3 : Int32) then (s_B_wheelsThatAre S a1) else (-1 : Int32)))
set_option maxRecDepth 20000 in
theorem c_P_wheels (l : Launch) (E : Cx) (ad : Nat → Nat) (X : va_W) (S : St) (a1 : Int32) : Met l y_P_wheels (Cond.code y_P_wheels b_P_wheels 2 (some .int) :: TB) (rk 5 108) (va_Pc [.ref (ad 39), .int a1] (preR E (wb E ad S ++ X))) (vp_Si (fun r => r = (s_P_wheels S a1))) 0 0 (fun _ => False) := by
  refine w_roI rfl (Nat.le_of_ble_eq_true rfl) rfl ?_
  intro p e s m args below meth c Q ls hx hb hml hts hown hP hK hl hend
  have hl : lv_has ls 2 [(0, .ref (ad 39)), (1, .int a1)] := hl
  have hP : va_P E.1 vwCl (wb E ad S ++ X) s.heap := hP
  have hown : s.vm.findClass R_P = some m.cls := hown
  refine lv_iload_n hx hb d_P_wheels_0 rfl (lv_at hl 1 rfl) ?_
  refine lv_if_lt (tgt := 9) hx hb d_P_wheels_1 (by decide) (fun c_1 => ?_) (fun c_1 => ?_)
  · refine lv_iconst (v := (-1 : Int32)) hx hb d_P_wheels_9 rfl ?_
    refine lv_goto (tgt := 21) hx hb d_P_wheels_10 (by decide) ?_
    exact hend _ _ _ (by rw [s_P_wheels, if_pos c_1]) d_P_wheels_21
  · refine lv_iload_n hx hb d_P_wheels_4 rfl (lv_at hl 1 rfl) ?_
    refine lv_iconst (v := (3 : Int32)) hx hb d_P_wheels_5 rfl ?_
    refine lv_icmp_le (tgt := 13) hx hb d_P_wheels_6 (by decide) (fun c_6 => ?_) (fun c_6 => ?_)
    · refine lv_aload_n hx hb d_P_wheels_13 rfl (lv_at hl 0 rfl) ?_
      refine g_P_now hx hb hts hown hK hP d_P_wheels_14 ?_
      refine lv_iload_n hx hb d_P_wheels_17 rfl (lv_at hl 1 rfl) ?_
      refine k_vi (rest := []) (c_B_wheelsThatAre l E ad X S a1) mi_B_wheelsThatAre ml_P_116 hx hb hml hts hown hK hP rvB0 hl ⟨rfl, rfl⟩ ⟨(Nat.le_of_ble_eq_true rfl), (Nat.le_of_ble_eq_true rfl)⟩ ⟨Nat.zero_le _, Nat.zero_le _⟩ rfl (Nat.le_of_ble_eq_true rfl) rfl d_P_wheels_18 ?_
      exact hend _ _ _ (by rw [s_P_wheels, if_neg c_1, if_pos c_6]) d_P_wheels_21
    · refine lv_iconst (v := (-1 : Int32)) hx hb d_P_wheels_9 rfl ?_
      refine lv_goto (tgt := 21) hx hb d_P_wheels_10 (by decide) ?_
      exact hend _ _ _ (by rw [s_P_wheels, if_neg c_1, if_neg c_6]) d_P_wheels_21

def s_P_train (S : St) (a1 : Int32) : Int64 := (if (s_P_isPart a1) = 0 then (-9223372036854775808 : Int64) else (if (s_B_pairsInTrain S) = 0 then (-9223372036854775808 : Int64) else (if (s_B_firstClash S) < 0 then (s_B_trainRatio S a1) else (-9223372036854775807 : Int64))))
set_option maxRecDepth 20000 in
theorem c_P_train (l : Launch) (E : Cx) (ad : Nat → Nat) (X : va_W) (S : St) (a1 : Int32) : Met l y_P_train (Cond.code y_P_train b_P_train 2 (some .long) :: TB) (rk 5 113) (va_Pc [.ref (ad 39), .int a1] (preR E (wb E ad S ++ X))) (vp_Sl (fun r => r = (s_P_train S a1))) 0 0 (fun _ => False) := by
  refine w_roL rfl (Nat.le_of_ble_eq_true rfl) ?_
  intro p e s m args below meth c Q ls hx hb hml hts hown hP hK hl hend
  have hl : lv_has ls 2 [(0, .ref (ad 39)), (1, .int a1)] := hl
  have hP : va_P E.1 vwCl (wb E ad S ++ X) s.heap := hP
  have hown : s.vm.findClass R_P = some m.cls := hown
  refine lv_iload_n hx hb d_P_train_0 rfl (lv_at hl 1 rfl) ?_
  refine k_si (rest := []) (c_P_isPart l E a1) mi_P_isPart ml_P_73 hx hb hml hts hown hK va_nil hl ⟨rfl, rfl⟩ ⟨(Nat.le_of_ble_eq_true rfl), (Nat.le_of_ble_eq_true rfl)⟩ ⟨Nat.zero_le _, Nat.zero_le _⟩ rfl (Nat.le_of_ble_eq_true rfl) rfl d_P_train_1 ?_
  refine lv_if_eq (tgt := 17) hx hb d_P_train_4 (by decide) (fun c_4 => ?_) (fun c_4 => ?_)
  · refine lv_ldc2 (v := (-9223372036854775808 : Int64)) hx hb hown (hts _ kl_P_80) d_P_train_17 ?_
    exact hend _ _ _ (by rw [s_P_train, if_pos c_4]) d_P_train_20
  · refine lv_aload_n hx hb d_P_train_7 rfl (lv_at hl 0 rfl) ?_
    refine g_P_now hx hb hts hown hK hP d_P_train_8 ?_
    refine k_vi (rest := []) (c_B_pairsInTrain l E ad X S) mi_B_pairsInTrain ml_P_126 hx hb hml hts hown hK hP rvB0 hl ⟨rfl, rfl⟩ ⟨(Nat.le_of_ble_eq_true rfl), (Nat.le_of_ble_eq_true rfl)⟩ ⟨Nat.zero_le _, Nat.zero_le _⟩ rfl (Nat.le_of_ble_eq_true rfl) rfl d_P_train_11 ?_
    refine lv_if_ne (tgt := 21) hx hb d_P_train_14 (by decide) (fun c_14 => ?_) (fun c_14 => ?_)
    · refine lv_aload_n hx hb d_P_train_21 rfl (lv_at hl 0 rfl) ?_
      refine g_P_now hx hb hts hown hK hP d_P_train_22 ?_
      refine k_vi (rest := []) (c_B_firstClash l E ad X S) mi_B_firstClash ml_P_129 hx hb hml hts hown hK hP rvB0 hl ⟨rfl, rfl⟩ ⟨(Nat.le_of_ble_eq_true rfl), (Nat.le_of_ble_eq_true rfl)⟩ ⟨Nat.zero_le _, Nat.zero_le _⟩ rfl (Nat.le_of_ble_eq_true rfl) rfl d_P_train_25 ?_
      refine lv_if_lt (tgt := 37) hx hb d_P_train_28 (by decide) (fun c_28 => ?_) (fun c_28 => ?_)
      · refine lv_aload_n hx hb d_P_train_37 rfl (lv_at hl 0 rfl) ?_
        refine g_P_now hx hb hts hown hK hP d_P_train_38 ?_
        refine lv_iload_n hx hb d_P_train_41 rfl (lv_at hl 1 rfl) ?_
        refine k_vl (rest := []) (c_B_trainRatio l E ad X S a1) mi_B_trainRatio ml_P_132 hx hb hml hts hown hK hP rvB0 hl ⟨rfl, rfl⟩ ⟨(Nat.le_of_ble_eq_true rfl), (Nat.le_of_ble_eq_true rfl)⟩ ⟨Nat.zero_le _, Nat.zero_le _⟩ rfl (Nat.le_of_ble_eq_true rfl) rfl d_P_train_42 ?_
        exact hend _ _ _ (by rw [s_P_train, if_neg c_4, if_neg c_14, if_pos c_28]) d_P_train_45
      · refine lv_ldc2 (v := (-9223372036854775807 : Int64)) hx hb hown (hts _ kl_P_85) d_P_train_31 ?_
        refine lv_goto (tgt := 45) hx hb d_P_train_34 (by decide) ?_
        exact hend _ _ _ (by rw [s_P_train, if_neg c_4, if_neg c_14, if_neg c_28]) d_P_train_45
    · refine lv_ldc2 (v := (-9223372036854775808 : Int64)) hx hb hown (hts _ kl_P_80) d_P_train_17 ?_
      exact hend _ _ _ (by rw [s_P_train, if_neg c_4, if_pos c_14]) d_P_train_20

def s_P_faulty (S : St) : Int32 := (s_B_firstClash S)
set_option maxRecDepth 20000 in
theorem c_P_faulty (l : Launch) (E : Cx) (ad : Nat → Nat) (X : va_W) (S : St) : Met l y_P_faulty (Cond.code y_P_faulty b_P_faulty 1 (some .int) :: TB) (rk 5 107) (va_Pc [.ref (ad 39)] (preR E (wb E ad S ++ X))) (vp_Si (fun r => r = (s_P_faulty S))) 0 0 (fun _ => False) := by
  refine w_roI rfl (Nat.le_of_ble_eq_true rfl) rfl ?_
  intro p e s m args below meth c Q ls hx hb hml hts hown hP hK hl hend
  have hl : lv_has ls 1 [(0, .ref (ad 39))] := hl
  have hP : va_P E.1 vwCl (wb E ad S ++ X) s.heap := hP
  have hown : s.vm.findClass R_P = some m.cls := hown
  refine lv_aload_n hx hb d_P_faulty_0 rfl (lv_at hl 0 rfl) ?_
  refine g_P_now hx hb hts hown hK hP d_P_faulty_1 ?_
  refine k_vi (rest := []) (c_B_firstClash l E ad X S) mi_B_firstClash ml_P_129 hx hb hml hts hown hK hP rvB0 hl ⟨rfl, rfl⟩ ⟨(Nat.le_of_ble_eq_true rfl), (Nat.le_of_ble_eq_true rfl)⟩ ⟨Nat.zero_le _, Nat.zero_le _⟩ rfl (Nat.le_of_ble_eq_true rfl) rfl d_P_faulty_4 ?_
  exact hend _ _ _ (by rw [s_P_faulty]) d_P_faulty_7

def s_P_closest (S : St) (a1 : Int32) : Int64 := (if a1 < 0 then (-9223372036854775808 : Int64) else (if (2 : Int32) < a1 then (-9223372036854775808 : Int64) else (if (s_B_pairsInTrain S) = 0 then (-9223372036854775808 : Int64) else (if (s_B_firstClash S) < 0 then (if a1 = 0 then ((s_B_nearestPair S).toInt64) else (s_P_partOf ((s_B_hundredthsInTrain S (s_B_nearestPair S)).toInt64) (100 : Int64) (a1 - (1 : Int32)))) else (-9223372036854775807 : Int64)))))
set_option maxRecDepth 20000 in
theorem c_P_closest (l : Launch) (E : Cx) (ad : Nat → Nat) (X : va_W) (S : St) (a1 : Int32) : Met l y_P_closest (Cond.code y_P_closest b_P_closest 3 (some .long) :: TB) (rk 5 107) (va_Pc [.ref (ad 39), .int a1] (preR E (wb E ad S ++ X))) (vp_Sl (fun r => r = (s_P_closest S a1))) 0 0 (fun _ => False) := by
  refine w_roL rfl (Nat.le_of_ble_eq_true rfl) ?_
  intro p e s m args below meth c Q ls hx hb hml hts hown hP hK hl hend
  have hl : lv_has ls 3 [(0, .ref (ad 39)), (1, .int a1)] := hl
  have hP : va_P E.1 vwCl (wb E ad S ++ X) s.heap := hP
  have hown : s.vm.findClass R_P = some m.cls := hown
  refine lv_iload_n hx hb d_P_closest_0 rfl (lv_at hl 1 rfl) ?_
  refine lv_if_lt (tgt := 19) hx hb d_P_closest_1 (by decide) (fun c_1 => ?_) (fun c_1 => ?_)
  · refine lv_ldc2 (v := (-9223372036854775808 : Int64)) hx hb hown (hts _ kl_P_80) d_P_closest_19 ?_
    exact hend _ _ _ (by rw [s_P_closest, if_pos c_1]) d_P_closest_22
  · refine lv_iload_n hx hb d_P_closest_4 rfl (lv_at hl 1 rfl) ?_
    refine lv_iconst (v := (2 : Int32)) hx hb d_P_closest_5 rfl ?_
    refine lv_icmp_gt (tgt := 19) hx hb d_P_closest_6 (by decide) (fun c_6 => ?_) (fun c_6 => ?_)
    · refine lv_ldc2 (v := (-9223372036854775808 : Int64)) hx hb hown (hts _ kl_P_80) d_P_closest_19 ?_
      exact hend _ _ _ (by rw [s_P_closest, if_neg c_1, if_pos c_6]) d_P_closest_22
    · refine lv_aload_n hx hb d_P_closest_9 rfl (lv_at hl 0 rfl) ?_
      refine g_P_now hx hb hts hown hK hP d_P_closest_10 ?_
      refine k_vi (rest := []) (c_B_pairsInTrain l E ad X S) mi_B_pairsInTrain ml_P_126 hx hb hml hts hown hK hP rvB0 hl ⟨rfl, rfl⟩ ⟨(Nat.le_of_ble_eq_true rfl), (Nat.le_of_ble_eq_true rfl)⟩ ⟨Nat.zero_le _, Nat.zero_le _⟩ rfl (Nat.le_of_ble_eq_true rfl) rfl d_P_closest_13 ?_
      refine lv_if_ne (tgt := 23) hx hb d_P_closest_16 (by decide) (fun c_16 => ?_) (fun c_16 => ?_)
      · refine lv_aload_n hx hb d_P_closest_23 rfl (lv_at hl 0 rfl) ?_
        refine g_P_now hx hb hts hown hK hP d_P_closest_24 ?_
        refine k_vi (rest := []) (c_B_firstClash l E ad X S) mi_B_firstClash ml_P_129 hx hb hml hts hown hK hP rvB0 hl ⟨rfl, rfl⟩ ⟨(Nat.le_of_ble_eq_true rfl), (Nat.le_of_ble_eq_true rfl)⟩ ⟨Nat.zero_le _, Nat.zero_le _⟩ rfl (Nat.le_of_ble_eq_true rfl) rfl d_P_closest_27 ?_
        refine lv_if_lt (tgt := 37) hx hb d_P_closest_30 (by decide) (fun c_30 => ?_) (fun c_30 => ?_)
        · refine lv_aload_n hx hb d_P_closest_37 rfl (lv_at hl 0 rfl) ?_
          refine g_P_now hx hb hts hown hK hP d_P_closest_38 ?_
          refine k_vi (rest := []) (c_B_nearestPair l E ad X S) mi_B_nearestPair ml_P_136 hx hb hml hts hown hK hP rvB0 hl ⟨rfl, rfl⟩ ⟨(Nat.le_of_ble_eq_true rfl), (Nat.le_of_ble_eq_true rfl)⟩ ⟨Nat.zero_le _, Nat.zero_le _⟩ rfl (Nat.le_of_ble_eq_true rfl) rfl d_P_closest_41 ?_
          refine lv_istore_n (lv' := [(2, .int (s_B_nearestPair S)), (0, .ref (ad 39)), (1, .int a1)]) hx hb d_P_closest_44 rfl hl (by decide) rfl (fun ls hl => ?_)
          refine lv_iload_n hx hb d_P_closest_45 rfl (lv_at hl 2 rfl) ?_
          refine lv_if_ne (tgt := 54) hx hb d_P_closest_46 (by decide) (fun c_46 => ?_) (fun c_46 => ?_)
          · refine lv_aload_n hx hb d_P_closest_54 rfl (lv_at hl 1 rfl) ?_
            refine g_P_now hx hb hts hown hK hP d_P_closest_55 ?_
            refine lv_iload_n hx hb d_P_closest_58 rfl (lv_at hl 0 rfl) ?_
            refine k_vi (rest := []) (c_B_hundredthsInTrain l E ad X S (s_B_nearestPair S)) mi_B_hundredthsInTrain ml_P_139 hx hb hml hts hown hK hP rvB0 hl ⟨rfl, rfl⟩ ⟨(Nat.le_of_ble_eq_true rfl), (Nat.le_of_ble_eq_true rfl)⟩ ⟨Nat.zero_le _, Nat.zero_le _⟩ rfl (Nat.le_of_ble_eq_true rfl) rfl d_P_closest_59 ?_
            refine lv_i2l hx hb d_P_closest_62 rfl ?_
            refine lv_ldc2 (v := (100 : Int64)) hx hb hown (hts _ kl_P_90) d_P_closest_63 ?_
            refine lv_iload_n hx hb d_P_closest_66 rfl (lv_at hl 2 rfl) ?_
            refine lv_iconst (v := (1 : Int32)) hx hb d_P_closest_67 rfl ?_
            refine lv_isub hx hb d_P_closest_68 ?_
            refine k_sl (rest := []) (c_P_partOf l E ((s_B_hundredthsInTrain S (s_B_nearestPair S)).toInt64) (100 : Int64) (a1 - (1 : Int32))) mi_P_partOf ml_P_92 hx hb hml hts hown hK va_nil hl ⟨rfl, rfl⟩ ⟨(Nat.le_of_ble_eq_true rfl), (Nat.le_of_ble_eq_true rfl)⟩ ⟨Nat.zero_le _, Nat.zero_le _⟩ rfl (Nat.le_of_ble_eq_true rfl) rfl d_P_closest_69 ?_
            exact hend _ _ _ (by rw [s_P_closest, if_neg c_1, if_neg c_6, if_neg c_16, if_pos c_30, if_neg c_46]) d_P_closest_72
          · refine lv_iload_n hx hb d_P_closest_49 rfl (lv_at hl 0 rfl) ?_
            refine lv_i2l hx hb d_P_closest_50 rfl ?_
            refine lv_goto (tgt := 72) hx hb d_P_closest_51 (by decide) ?_
            exact hend _ _ _ (by rw [s_P_closest, if_neg c_1, if_neg c_6, if_neg c_16, if_pos c_30, if_pos c_46]) d_P_closest_72
        · refine lv_ldc2 (v := (-9223372036854775807 : Int64)) hx hb hown (hts _ kl_P_85) d_P_closest_33 ?_
          exact hend _ _ _ (by rw [s_P_closest, if_neg c_1, if_neg c_6, if_neg c_16, if_neg c_30]) d_P_closest_36
      · refine lv_ldc2 (v := (-9223372036854775808 : Int64)) hx hb hown (hts _ kl_P_80) d_P_closest_19 ?_
        exact hend _ _ _ (by rw [s_P_closest, if_neg c_1, if_neg c_6, if_pos c_16]) d_P_closest_22

def s_P_together (S : St) (a1 : Int32) (a2 : Int32) (a3 : Int32) : Int32 := (if (s_P_isOutward a1) = 0 then (-1000 : Int32) else (if (s_P_isOutward a2) = 0 then (-1000 : Int32) else (if a3 < (1 : Int32) then (-1000 : Int32) else (if a3 ≤ (8 : Int32) then (if (s_T_divides a1 a2 a3) = 0 then (if (s_T_touch a1 a2 a3) = 0 then (-1 : Int32) else (-3 : Int32)) else (if (s_T_touch a1 a2 a3) = 0 then (1 : Int32) else (-2 : Int32))) else (-1000 : Int32)))))
set_option maxRecDepth 20000 in
theorem c_P_together (l : Launch) (E : Cx) (ad : Nat → Nat) (X : va_W) (S : St) (a1 : Int32) (a2 : Int32) (a3 : Int32) : Met l y_P_together (Cond.code y_P_together b_P_together 6 (some .int) :: TB) (rk 2 43) (va_Pc [.ref (ad 39), .int a1, .int a2, .int a3] (preR E (wb E ad S ++ X))) (vp_Si (fun r => r = (s_P_together S a1 a2 a3))) 0 0 (fun _ => False) := by
  refine w_roI rfl (Nat.le_of_ble_eq_true rfl) rfl ?_
  intro p e s m args below meth c Q ls hx hb hml hts hown hP hK hl hend
  have hl : lv_has ls 6 [(0, .ref (ad 39)), (1, .int a1), (2, .int a2), (3, .int a3)] := hl
  have hP : va_P E.1 vwCl (wb E ad S ++ X) s.heap := hP
  have hown : s.vm.findClass R_P = some m.cls := hown
  refine lv_iload_n hx hb d_P_together_0 rfl (lv_at hl 1 rfl) ?_
  refine k_si (rest := []) (c_P_isOutward l E a1) mi_P_isOutward ml_P_142 hx hb hml hts hown hK va_nil hl ⟨rfl, rfl⟩ ⟨(Nat.le_of_ble_eq_true rfl), (Nat.le_of_ble_eq_true rfl)⟩ ⟨Nat.zero_le _, Nat.zero_le _⟩ rfl (Nat.le_of_ble_eq_true rfl) rfl d_P_together_1 ?_
  refine lv_if_eq (tgt := 25) hx hb d_P_together_4 (by decide) (fun c_4 => ?_) (fun c_4 => ?_)
  · refine lv_sipush (v := (-1000 : Int32)) hx hb d_P_together_25 rfl ?_
    exact hend _ _ _ (by rw [s_P_together, if_pos c_4]) d_P_together_28
  · refine lv_iload_n hx hb d_P_together_7 rfl (lv_at hl 2 rfl) ?_
    refine k_si (rest := []) (c_P_isOutward l E a2) mi_P_isOutward ml_P_142 hx hb hml hts hown hK va_nil hl ⟨rfl, rfl⟩ ⟨(Nat.le_of_ble_eq_true rfl), (Nat.le_of_ble_eq_true rfl)⟩ ⟨Nat.zero_le _, Nat.zero_le _⟩ rfl (Nat.le_of_ble_eq_true rfl) rfl d_P_together_8 ?_
    refine lv_if_eq (tgt := 25) hx hb d_P_together_11 (by decide) (fun c_11 => ?_) (fun c_11 => ?_)
    · refine lv_sipush (v := (-1000 : Int32)) hx hb d_P_together_25 rfl ?_
      exact hend _ _ _ (by rw [s_P_together, if_neg c_4, if_pos c_11]) d_P_together_28
    · refine lv_iload_n hx hb d_P_together_14 rfl (lv_at hl 3 rfl) ?_
      refine lv_iconst (v := (1 : Int32)) hx hb d_P_together_15 rfl ?_
      refine lv_icmp_lt (tgt := 25) hx hb d_P_together_16 (by decide) (fun c_16 => ?_) (fun c_16 => ?_)
      · refine lv_sipush (v := (-1000 : Int32)) hx hb d_P_together_25 rfl ?_
        exact hend _ _ _ (by rw [s_P_together, if_neg c_4, if_neg c_11, if_pos c_16]) d_P_together_28
      · refine lv_iload_n hx hb d_P_together_19 rfl (lv_at hl 3 rfl) ?_
        refine lv_bipush (v := (8 : Int32)) hx hb d_P_together_20 rfl ?_
        refine lv_icmp_le (tgt := 29) hx hb d_P_together_22 (by decide) (fun c_22 => ?_) (fun c_22 => ?_)
        · refine lv_iload_n hx hb d_P_together_29 rfl (lv_at hl 1 rfl) ?_
          refine lv_iload_n hx hb d_P_together_30 rfl (lv_at hl 2 rfl) ?_
          refine lv_iload_n hx hb d_P_together_31 rfl (lv_at hl 3 rfl) ?_
          refine k_si (rest := []) (c_T_divides l E a1 a2 a3) mi_T_divides ml_P_145 hx hb hml hts hown hK va_nil hl ⟨rfl, rfl⟩ ⟨(Nat.le_of_ble_eq_true rfl), (Nat.le_of_ble_eq_true rfl)⟩ ⟨Nat.zero_le _, Nat.zero_le _⟩ rfl (Nat.le_of_ble_eq_true rfl) rfl d_P_together_32 ?_
          refine lv_istore (lv' := [(4, .int (s_T_divides a1 a2 a3)), (0, .ref (ad 39)), (1, .int a1), (2, .int a2), (3, .int a3)]) hx hb d_P_together_35 hl (by decide) rfl (fun ls hl => ?_)
          refine lv_iload_n hx hb d_P_together_37 rfl (lv_at hl 2 rfl) ?_
          refine lv_iload_n hx hb d_P_together_38 rfl (lv_at hl 3 rfl) ?_
          refine lv_iload_n hx hb d_P_together_39 rfl (lv_at hl 4 rfl) ?_
          refine k_si (rest := []) (c_T_touch l E a1 a2 a3) mi_T_touch ml_P_151 hx hb hml hts hown hK va_nil hl ⟨rfl, rfl⟩ ⟨(Nat.le_of_ble_eq_true rfl), (Nat.le_of_ble_eq_true rfl)⟩ ⟨Nat.zero_le _, Nat.zero_le _⟩ rfl (Nat.le_of_ble_eq_true rfl) rfl d_P_together_40 ?_
          refine lv_istore (lv' := [(5, .int (s_T_touch a1 a2 a3)), (4, .int (s_T_divides a1 a2 a3)), (0, .ref (ad 39)), (1, .int a1), (2, .int a2), (3, .int a3)]) hx hb d_P_together_43 hl (by decide) rfl (fun ls hl => ?_)
          refine lv_iload hx hb d_P_together_45 (lv_at hl 1 rfl) ?_
          refine lv_if_eq (tgt := 62) hx hb d_P_together_47 (by decide) (fun c_47 => ?_) (fun c_47 => ?_)
          · refine lv_iload hx hb d_P_together_62 (lv_at hl 0 rfl) ?_
            refine lv_if_eq (tgt := 72) hx hb d_P_together_64 (by decide) (fun c_64 => ?_) (fun c_64 => ?_)
            · refine lv_iconst (v := (-1 : Int32)) hx hb d_P_together_72 rfl ?_
              exact hend _ _ _ (by rw [s_P_together, if_neg c_4, if_neg c_11, if_neg c_16, if_pos c_22, if_pos c_47, if_pos c_64]) d_P_together_73
            · refine lv_bipush (v := (-3 : Int32)) hx hb d_P_together_67 rfl ?_
              refine lv_goto (tgt := 73) hx hb d_P_together_69 (by decide) ?_
              exact hend _ _ _ (by rw [s_P_together, if_neg c_4, if_neg c_11, if_neg c_16, if_pos c_22, if_pos c_47, if_neg c_64]) d_P_together_73
          · refine lv_iload hx hb d_P_together_50 (lv_at hl 0 rfl) ?_
            refine lv_if_eq (tgt := 60) hx hb d_P_together_52 (by decide) (fun c_52 => ?_) (fun c_52 => ?_)
            · refine lv_iconst (v := (1 : Int32)) hx hb d_P_together_60 rfl ?_
              exact hend _ _ _ (by rw [s_P_together, if_neg c_4, if_neg c_11, if_neg c_16, if_pos c_22, if_neg c_47, if_pos c_52]) d_P_together_61
            · refine lv_bipush (v := (-2 : Int32)) hx hb d_P_together_55 rfl ?_
              refine lv_goto (tgt := 61) hx hb d_P_together_57 (by decide) ?_
              exact hend _ _ _ (by rw [s_P_together, if_neg c_4, if_neg c_11, if_neg c_16, if_pos c_22, if_neg c_47, if_neg c_52]) d_P_together_61
        · refine lv_sipush (v := (-1000 : Int32)) hx hb d_P_together_25 rfl ?_
          exact hend _ _ _ (by rw [s_P_together, if_neg c_4, if_neg c_11, if_neg c_16, if_neg c_22]) d_P_together_28

def s_P_most (S : St) (a1 : Int32) (a2 : Int32) : Int32 := (if (s_P_isOutward a1) = 0 then (-1 : Int32) else (if (s_P_isOutward a2) = 0 then (-1 : Int32) else (s_T_mostPlanets a1 a2)))
set_option maxRecDepth 20000 in
theorem c_P_most (l : Launch) (E : Cx) (ad : Nat → Nat) (X : va_W) (S : St) (a1 : Int32) (a2 : Int32) : Met l y_P_most (Cond.code y_P_most b_P_most 3 (some .int) :: TB) (rk 4 87) (va_Pc [.ref (ad 39), .int a1, .int a2] (preR E (wb E ad S ++ X))) (vp_Si (fun r => r = (s_P_most S a1 a2))) 0 0 (fun _ => False) := by
  refine w_roI rfl (Nat.le_of_ble_eq_true rfl) rfl ?_
  intro p e s m args below meth c Q ls hx hb hml hts hown hP hK hl hend
  have hl : lv_has ls 3 [(0, .ref (ad 39)), (1, .int a1), (2, .int a2)] := hl
  have hP : va_P E.1 vwCl (wb E ad S ++ X) s.heap := hP
  have hown : s.vm.findClass R_P = some m.cls := hown
  refine lv_iload_n hx hb d_P_most_0 rfl (lv_at hl 1 rfl) ?_
  refine k_si (rest := []) (c_P_isOutward l E a1) mi_P_isOutward ml_P_142 hx hb hml hts hown hK va_nil hl ⟨rfl, rfl⟩ ⟨(Nat.le_of_ble_eq_true rfl), (Nat.le_of_ble_eq_true rfl)⟩ ⟨Nat.zero_le _, Nat.zero_le _⟩ rfl (Nat.le_of_ble_eq_true rfl) rfl d_P_most_1 ?_
  refine lv_if_eq (tgt := 22) hx hb d_P_most_4 (by decide) (fun c_4 => ?_) (fun c_4 => ?_)
  · refine lv_iconst (v := (-1 : Int32)) hx hb d_P_most_22 rfl ?_
    exact hend _ _ _ (by rw [s_P_most, if_pos c_4]) d_P_most_23
  · refine lv_iload_n hx hb d_P_most_7 rfl (lv_at hl 2 rfl) ?_
    refine k_si (rest := []) (c_P_isOutward l E a2) mi_P_isOutward ml_P_142 hx hb hml hts hown hK va_nil hl ⟨rfl, rfl⟩ ⟨(Nat.le_of_ble_eq_true rfl), (Nat.le_of_ble_eq_true rfl)⟩ ⟨Nat.zero_le _, Nat.zero_le _⟩ rfl (Nat.le_of_ble_eq_true rfl) rfl d_P_most_8 ?_
    refine lv_if_eq (tgt := 22) hx hb d_P_most_11 (by decide) (fun c_11 => ?_) (fun c_11 => ?_)
    · refine lv_iconst (v := (-1 : Int32)) hx hb d_P_most_22 rfl ?_
      exact hend _ _ _ (by rw [s_P_most, if_neg c_4, if_pos c_11]) d_P_most_23
    · refine lv_iload_n hx hb d_P_most_14 rfl (lv_at hl 1 rfl) ?_
      refine lv_iload_n hx hb d_P_most_15 rfl (lv_at hl 2 rfl) ?_
      refine k_si (rest := []) (c_T_mostPlanets l E a1 a2) mi_T_mostPlanets ml_P_154 hx hb hml hts hown hK va_nil hl ⟨rfl, rfl⟩ ⟨(Nat.le_of_ble_eq_true rfl), (Nat.le_of_ble_eq_true rfl)⟩ ⟨Nat.zero_le _, Nat.zero_le _⟩ rfl (Nat.le_of_ble_eq_true rfl) rfl d_P_most_16 ?_
      refine lv_goto (tgt := 23) hx hb d_P_most_19 (by decide) ?_
      exact hend _ _ _ (by rw [s_P_most, if_neg c_4, if_neg c_11]) d_P_most_23

def s_P_planets_b52 (S : St) (x1 : Int32) (x2 : Int32) (x3 : Int32) (x4 : Int32) (x5 : Int32) (x6 : Int32) (t0 : Int32) : Int64 := (if x6 = 0 then (-9223372036854775808 : Int64) else (if t0 = 0 then (-9223372036854775808 : Int64) else (if (s_P_isPart x5) = 0 then (-9223372036854775808 : Int64) else (s_T_ratioPart x1 x2 x3 x4 x5))))
def s_P_planets_b51 (S : St) (x1 : Int32) (x2 : Int32) (x3 : Int32) (x4 : Int32) (x5 : Int32) (x6 : Int32) : Int64 := (s_P_planets_b52 S x1 x2 x3 x4 x5 x6 (0 : Int32))
def s_P_planets_b19 (S : St) (x1 : Int32) (x2 : Int32) (x3 : Int32) (x4 : Int32) (x5 : Int32) (t0 : Int32) : Int64 := (if x3 < 0 then (s_P_planets_b51 S x1 x2 x3 x4 x5 t0) else (if (2 : Int32) < x3 then (s_P_planets_b51 S x1 x2 x3 x4 x5 t0) else (if x4 < 0 then (s_P_planets_b51 S x1 x2 x3 x4 x5 t0) else (if (2 : Int32) < x4 then (s_P_planets_b51 S x1 x2 x3 x4 x5 t0) else (if x3 = x4 then (s_P_planets_b51 S x1 x2 x3 x4 x5 t0) else (s_P_planets_b52 S x1 x2 x3 x4 x5 t0 (1 : Int32)))))))
def s_P_planets_b18 (S : St) (x1 : Int32) (x2 : Int32) (x3 : Int32) (x4 : Int32) (x5 : Int32) : Int64 := (s_P_planets_b19 S x1 x2 x3 x4 x5 (0 : Int32))
def s_P_planets (S : St) (a1 : Int32) (a2 : Int32) (a3 : Int32) (a4 : Int32) (a5 : Int32) : Int64 := (if (s_P_isOutward a1) = 0 then (s_P_planets_b18 S a1 a2 a3 a4 a5) else (if (s_P_isOutward a2) = 0 then (s_P_planets_b18 S a1 a2 a3 a4 a5) else (s_P_planets_b19 S a1 a2 a3 a4 a5 (1 : Int32))))
set_option maxRecDepth 20000 in
theorem c_P_planets (l : Launch) (E : Cx) (ad : Nat → Nat) (X : va_W) (S : St) (a1 : Int32) (a2 : Int32) (a3 : Int32) (a4 : Int32) (a5 : Int32) : Met l y_P_planets (Cond.code y_P_planets b_P_planets 8 (some .long) :: TB) (rk 3 85) (va_Pc [.ref (ad 39), .int a1, .int a2, .int a3, .int a4, .int a5] (preR E (wb E ad S ++ X))) (vp_Sl (fun r => r = (s_P_planets S a1 a2 a3 a4 a5))) 0 0 (fun _ => False) := by
  refine w_roL rfl (Nat.le_of_ble_eq_true rfl) ?_
  intro p e s m args below meth c Q ls hx hb hml hts hown hP hK hl hend
  have hl : lv_has ls 8 [(0, .ref (ad 39)), (1, .int a1), (2, .int a2), (3, .int a3), (4, .int a4), (5, .int a5)] := hl
  have hP : va_P E.1 vwCl (wb E ad S ++ X) s.heap := hP
  have hown : s.vm.findClass R_P = some m.cls := hown
  have b52 : ∀ (x1 : Int32) (x2 : Int32) (x3 : Int32) (x4 : Int32) (x5 : Int32) (x6 : Int32) (t0 : Int32), ∀ (ls : Array Slot), lv_has ls 8 [(1, .int x1), (2, .int x2), (3, .int x3), (4, .int x4), (5, .int x5), (6, .int x6)] → (s_P_planets S a1 a2 a3 a4 a5) = s_P_planets_b52 S x1 x2 x3 x4 x5 x6 t0 → W p l e (rk 3 85) s m args below meth c s.heap [] 0 0 Q (F0 m 52 ls [.int t0]) := by
    intro x1 x2 x3 x4 x5 x6 t0 ls hl hq
    refine lv_istore (lv' := [(7, .int t0), (1, .int x1), (2, .int x2), (3, .int x3), (4, .int x4), (5, .int x5), (6, .int x6)]) hx hb d_P_planets_52 hl (by decide) rfl (fun ls hl => ?_)
    refine lv_iload hx hb d_P_planets_54 (lv_at hl 6 rfl) ?_
    refine lv_if_eq (tgt := 85) hx hb d_P_planets_56 (by decide) (fun c_56 => ?_) (fun c_56 => ?_)
    · refine lv_ldc2 (v := (-9223372036854775808 : Int64)) hx hb hown (hts _ kl_P_80) d_P_planets_85 ?_
      exact hend _ _ _ (by rw [hq, s_P_planets_b52, if_pos c_56]) d_P_planets_88
    · refine lv_iload hx hb d_P_planets_59 (lv_at hl 0 rfl) ?_
      refine lv_if_eq (tgt := 85) hx hb d_P_planets_61 (by decide) (fun c_61 => ?_) (fun c_61 => ?_)
      · refine lv_ldc2 (v := (-9223372036854775808 : Int64)) hx hb hown (hts _ kl_P_80) d_P_planets_85 ?_
        exact hend _ _ _ (by rw [hq, s_P_planets_b52, if_neg c_56, if_pos c_61]) d_P_planets_88
      · refine lv_iload hx hb d_P_planets_64 (lv_at hl 5 rfl) ?_
        refine k_si (rest := []) (c_P_isPart l E x5) mi_P_isPart ml_P_73 hx hb hml hts hown hK va_nil hl ⟨rfl, rfl⟩ ⟨(Nat.le_of_ble_eq_true rfl), (Nat.le_of_ble_eq_true rfl)⟩ ⟨Nat.zero_le _, Nat.zero_le _⟩ rfl (Nat.le_of_ble_eq_true rfl) rfl d_P_planets_66 ?_
        refine lv_if_eq (tgt := 85) hx hb d_P_planets_69 (by decide) (fun c_69 => ?_) (fun c_69 => ?_)
        · refine lv_ldc2 (v := (-9223372036854775808 : Int64)) hx hb hown (hts _ kl_P_80) d_P_planets_85 ?_
          exact hend _ _ _ (by rw [hq, s_P_planets_b52, if_neg c_56, if_neg c_61, if_pos c_69]) d_P_planets_88
        · refine lv_iload_n hx hb d_P_planets_72 rfl (lv_at hl 1 rfl) ?_
          refine lv_iload_n hx hb d_P_planets_73 rfl (lv_at hl 2 rfl) ?_
          refine lv_iload_n hx hb d_P_planets_74 rfl (lv_at hl 3 rfl) ?_
          refine lv_iload hx hb d_P_planets_75 (lv_at hl 4 rfl) ?_
          refine lv_iload hx hb d_P_planets_77 (lv_at hl 5 rfl) ?_
          refine k_sl (rest := []) (c_T_ratioPart l E x1 x2 x3 x4 x5) mi_T_ratioPart ml_P_157 hx hb hml hts hown hK va_nil hl ⟨rfl, rfl⟩ ⟨(Nat.le_of_ble_eq_true rfl), (Nat.le_of_ble_eq_true rfl)⟩ ⟨Nat.zero_le _, Nat.zero_le _⟩ rfl (Nat.le_of_ble_eq_true rfl) rfl d_P_planets_79 ?_
          refine lv_goto (tgt := 88) hx hb d_P_planets_82 (by decide) ?_
          exact hend _ _ _ (by rw [hq, s_P_planets_b52, if_neg c_56, if_neg c_61, if_neg c_69]) d_P_planets_88
  have b51 : ∀ (x1 : Int32) (x2 : Int32) (x3 : Int32) (x4 : Int32) (x5 : Int32) (x6 : Int32), ∀ (ls : Array Slot), lv_has ls 8 [(1, .int x1), (2, .int x2), (3, .int x3), (4, .int x4), (5, .int x5), (6, .int x6)] → (s_P_planets S a1 a2 a3 a4 a5) = s_P_planets_b51 S x1 x2 x3 x4 x5 x6 → W p l e (rk 3 85) s m args below meth c s.heap [] 0 0 Q (F0 m 51 ls []) := by
    intro x1 x2 x3 x4 x5 x6 ls hl hq
    refine lv_iconst (v := (0 : Int32)) hx hb d_P_planets_51 rfl ?_
    exact b52 x1 x2 x3 x4 x5 x6 (0 : Int32) ls (lv_sub hl [0, 1, 2, 3, 4, 5] rfl) (by rw [hq, s_P_planets_b51])
  have b19 : ∀ (x1 : Int32) (x2 : Int32) (x3 : Int32) (x4 : Int32) (x5 : Int32) (t0 : Int32), ∀ (ls : Array Slot), lv_has ls 8 [(1, .int x1), (2, .int x2), (3, .int x3), (4, .int x4), (5, .int x5)] → (s_P_planets S a1 a2 a3 a4 a5) = s_P_planets_b19 S x1 x2 x3 x4 x5 t0 → W p l e (rk 3 85) s m args below meth c s.heap [] 0 0 Q (F0 m 19 ls [.int t0]) := by
    intro x1 x2 x3 x4 x5 t0 ls hl hq
    refine lv_istore (lv' := [(6, .int t0), (1, .int x1), (2, .int x2), (3, .int x3), (4, .int x4), (5, .int x5)]) hx hb d_P_planets_19 hl (by decide) rfl (fun ls hl => ?_)
    refine lv_iload_n hx hb d_P_planets_21 rfl (lv_at hl 3 rfl) ?_
    refine lv_if_lt (tgt := 51) hx hb d_P_planets_22 (by decide) (fun c_22 => ?_) (fun c_22 => ?_)
    · exact b51 x1 x2 x3 x4 x5 t0 ls (lv_sub hl [1, 2, 3, 4, 5, 0] rfl) (by rw [hq, s_P_planets_b19, if_pos c_22])
    · refine lv_iload_n hx hb d_P_planets_25 rfl (lv_at hl 3 rfl) ?_
      refine lv_iconst (v := (2 : Int32)) hx hb d_P_planets_26 rfl ?_
      refine lv_icmp_gt (tgt := 51) hx hb d_P_planets_27 (by decide) (fun c_27 => ?_) (fun c_27 => ?_)
      · exact b51 x1 x2 x3 x4 x5 t0 ls (lv_sub hl [1, 2, 3, 4, 5, 0] rfl) (by rw [hq, s_P_planets_b19, if_neg c_22, if_pos c_27])
      · refine lv_iload hx hb d_P_planets_30 (lv_at hl 4 rfl) ?_
        refine lv_if_lt (tgt := 51) hx hb d_P_planets_32 (by decide) (fun c_32 => ?_) (fun c_32 => ?_)
        · exact b51 x1 x2 x3 x4 x5 t0 ls (lv_sub hl [1, 2, 3, 4, 5, 0] rfl) (by rw [hq, s_P_planets_b19, if_neg c_22, if_neg c_27, if_pos c_32])
        · refine lv_iload hx hb d_P_planets_35 (lv_at hl 4 rfl) ?_
          refine lv_iconst (v := (2 : Int32)) hx hb d_P_planets_37 rfl ?_
          refine lv_icmp_gt (tgt := 51) hx hb d_P_planets_38 (by decide) (fun c_38 => ?_) (fun c_38 => ?_)
          · exact b51 x1 x2 x3 x4 x5 t0 ls (lv_sub hl [1, 2, 3, 4, 5, 0] rfl) (by rw [hq, s_P_planets_b19, if_neg c_22, if_neg c_27, if_neg c_32, if_pos c_38])
          · refine lv_iload_n hx hb d_P_planets_41 rfl (lv_at hl 3 rfl) ?_
            refine lv_iload hx hb d_P_planets_42 (lv_at hl 4 rfl) ?_
            refine lv_icmp_eq (tgt := 51) hx hb d_P_planets_44 (by decide) (fun c_44 => ?_) (fun c_44 => ?_)
            · exact b51 x1 x2 x3 x4 x5 t0 ls (lv_sub hl [1, 2, 3, 4, 5, 0] rfl) (by rw [hq, s_P_planets_b19, if_neg c_22, if_neg c_27, if_neg c_32, if_neg c_38, if_pos c_44])
            · refine lv_iconst (v := (1 : Int32)) hx hb d_P_planets_47 rfl ?_
              refine lv_goto (tgt := 52) hx hb d_P_planets_48 (by decide) ?_
              exact b52 x1 x2 x3 x4 x5 t0 (1 : Int32) ls (lv_sub hl [1, 2, 3, 4, 5, 0] rfl) (by rw [hq, s_P_planets_b19, if_neg c_22, if_neg c_27, if_neg c_32, if_neg c_38, if_neg c_44])
  have b18 : ∀ (x1 : Int32) (x2 : Int32) (x3 : Int32) (x4 : Int32) (x5 : Int32), ∀ (ls : Array Slot), lv_has ls 8 [(1, .int x1), (2, .int x2), (3, .int x3), (4, .int x4), (5, .int x5)] → (s_P_planets S a1 a2 a3 a4 a5) = s_P_planets_b18 S x1 x2 x3 x4 x5 → W p l e (rk 3 85) s m args below meth c s.heap [] 0 0 Q (F0 m 18 ls []) := by
    intro x1 x2 x3 x4 x5 ls hl hq
    refine lv_iconst (v := (0 : Int32)) hx hb d_P_planets_18 rfl ?_
    exact b19 x1 x2 x3 x4 x5 (0 : Int32) ls (lv_sub hl [0, 1, 2, 3, 4] rfl) (by rw [hq, s_P_planets_b18])
  refine lv_iload_n hx hb d_P_planets_0 rfl (lv_at hl 1 rfl) ?_
  refine k_si (rest := []) (c_P_isOutward l E a1) mi_P_isOutward ml_P_142 hx hb hml hts hown hK va_nil hl ⟨rfl, rfl⟩ ⟨(Nat.le_of_ble_eq_true rfl), (Nat.le_of_ble_eq_true rfl)⟩ ⟨Nat.zero_le _, Nat.zero_le _⟩ rfl (Nat.le_of_ble_eq_true rfl) rfl d_P_planets_1 ?_
  refine lv_if_eq (tgt := 18) hx hb d_P_planets_4 (by decide) (fun c_4 => ?_) (fun c_4 => ?_)
  · exact b18 a1 a2 a3 a4 a5 ls (lv_sub hl [1, 2, 3, 4, 5] rfl) (by rw [s_P_planets, if_pos c_4])
  · refine lv_iload_n hx hb d_P_planets_7 rfl (lv_at hl 2 rfl) ?_
    refine k_si (rest := []) (c_P_isOutward l E a2) mi_P_isOutward ml_P_142 hx hb hml hts hown hK va_nil hl ⟨rfl, rfl⟩ ⟨(Nat.le_of_ble_eq_true rfl), (Nat.le_of_ble_eq_true rfl)⟩ ⟨Nat.zero_le _, Nat.zero_le _⟩ rfl (Nat.le_of_ble_eq_true rfl) rfl d_P_planets_8 ?_
    refine lv_if_eq (tgt := 18) hx hb d_P_planets_11 (by decide) (fun c_11 => ?_) (fun c_11 => ?_)
    · exact b18 a1 a2 a3 a4 a5 ls (lv_sub hl [1, 2, 3, 4, 5] rfl) (by rw [s_P_planets, if_neg c_4, if_pos c_11])
    · refine lv_iconst (v := (1 : Int32)) hx hb d_P_planets_14 rfl ?_
      refine lv_goto (tgt := 19) hx hb d_P_planets_15 (by decide) ?_
      exact b19 a1 a2 a3 a4 a5 (1 : Int32) ls (lv_sub hl [1, 2, 3, 4, 5] rfl) (by rw [s_P_planets, if_neg c_4, if_neg c_11])

def s_P_count (S : St) (a1 : Int32) : Int32 := (if a1 = 0 then (s_B_size S) else (if a1 = 1 then (s_B_pairsInTrain S) else (if a1 = 2 then (s_X_length S) else (if a1 = 3 then (s_B_pressureNow S) else (if a1 = 4 then (s_B_outwardTeeth S) else (-1 : Int32))))))
set_option maxRecDepth 20000 in
theorem c_P_count (l : Launch) (E : Cx) (ad : Nat → Nat) (X : va_W) (S : St) (a1 : Int32) : Met l y_P_count (Cond.code y_P_count b_P_count 2 (some .int) :: TB) (rk 2 43) (va_Pc [.ref (ad 39), .int a1] (preR E (wb E ad S ++ X))) (vp_Si (fun r => r = (s_P_count S a1))) 0 0 (fun _ => False) := by
  refine w_roI rfl (Nat.le_of_ble_eq_true rfl) rfl ?_
  intro p e s m args below meth c Q ls hx hb hml hts hown hP hK hl hend
  have hl : lv_has ls 2 [(0, .ref (ad 39)), (1, .int a1)] := hl
  have hP : va_P E.1 vwCl (wb E ad S ++ X) s.heap := hP
  have hown : s.vm.findClass R_P = some m.cls := hown
  refine lv_iload_n hx hb d_P_count_0 rfl (lv_at hl 1 rfl) ?_
  by_cases c_1_0 : a1 = (0 : Int32)
  · refine lv_tableIn (x := a1) (off := 35) (tgt := 36) hx hb d_P_count_1 (by rw [c_1_0]; decide) (by rw [c_1_0]; decide) (by rw [c_1_0]; rfl) (by decide) ?_
    refine lv_aload_n hx hb d_P_count_36 rfl (lv_at hl 0 rfl) ?_
    refine g_P_now hx hb hts hown hK hP d_P_count_37 ?_
    refine k_vi (rest := []) (c_B_size l E ad X S) mi_B_size ml_P_226 hx hb hml hts hown hK hP rvB0 hl ⟨rfl, rfl⟩ ⟨(Nat.le_of_ble_eq_true rfl), (Nat.le_of_ble_eq_true rfl)⟩ ⟨Nat.zero_le _, Nat.zero_le _⟩ rfl (Nat.le_of_ble_eq_true rfl) rfl d_P_count_40 ?_
    exact hend _ _ _ (by rw [s_P_count, if_pos c_1_0]) d_P_count_43
  by_cases c_1_1 : a1 = (1 : Int32)
  · refine lv_tableIn (x := a1) (off := 43) (tgt := 44) hx hb d_P_count_1 (by rw [c_1_1]; decide) (by rw [c_1_1]; decide) (by rw [c_1_1]; rfl) (by decide) ?_
    refine lv_aload_n hx hb d_P_count_44 rfl (lv_at hl 0 rfl) ?_
    refine g_P_now hx hb hts hown hK hP d_P_count_45 ?_
    refine k_vi (rest := []) (c_B_pairsInTrain l E ad X S) mi_B_pairsInTrain ml_P_126 hx hb hml hts hown hK hP rvB0 hl ⟨rfl, rfl⟩ ⟨(Nat.le_of_ble_eq_true rfl), (Nat.le_of_ble_eq_true rfl)⟩ ⟨Nat.zero_le _, Nat.zero_le _⟩ rfl (Nat.le_of_ble_eq_true rfl) rfl d_P_count_48 ?_
    exact hend _ _ _ (by rw [s_P_count, if_neg c_1_0, if_pos c_1_1]) d_P_count_51
  by_cases c_1_2 : a1 = (2 : Int32)
  · refine lv_tableIn (x := a1) (off := 51) (tgt := 52) hx hb d_P_count_1 (by rw [c_1_2]; decide) (by rw [c_1_2]; decide) (by rw [c_1_2]; rfl) (by decide) ?_
    refine lv_aload_n hx hb d_P_count_52 rfl (lv_at hl 0 rfl) ?_
    refine g_P_tape hx hb hts hown hK hP d_P_count_53 ?_
    refine k_vi (rest := []) (c_X_length l E ad X S) mi_X_length ml_P_235 hx hb hml hts hown hK hP rvX hl ⟨rfl, rfl⟩ ⟨(Nat.le_of_ble_eq_true rfl), (Nat.le_of_ble_eq_true rfl)⟩ ⟨Nat.zero_le _, Nat.zero_le _⟩ rfl (Nat.le_of_ble_eq_true rfl) rfl d_P_count_56 ?_
    exact hend _ _ _ (by rw [s_P_count, if_neg c_1_0, if_neg c_1_1, if_pos c_1_2]) d_P_count_59
  by_cases c_1_3 : a1 = (3 : Int32)
  · refine lv_tableIn (x := a1) (off := 59) (tgt := 60) hx hb d_P_count_1 (by rw [c_1_3]; decide) (by rw [c_1_3]; decide) (by rw [c_1_3]; rfl) (by decide) ?_
    refine lv_aload_n hx hb d_P_count_60 rfl (lv_at hl 0 rfl) ?_
    refine g_P_now hx hb hts hown hK hP d_P_count_61 ?_
    refine k_vi (rest := []) (c_B_pressureNow l E ad X S) mi_B_pressureNow ml_P_238 hx hb hml hts hown hK hP rvB0 hl ⟨rfl, rfl⟩ ⟨(Nat.le_of_ble_eq_true rfl), (Nat.le_of_ble_eq_true rfl)⟩ ⟨Nat.zero_le _, Nat.zero_le _⟩ rfl (Nat.le_of_ble_eq_true rfl) rfl d_P_count_64 ?_
    exact hend _ _ _ (by rw [s_P_count, if_neg c_1_0, if_neg c_1_1, if_neg c_1_2, if_pos c_1_3]) d_P_count_67
  by_cases c_1_4 : a1 = (4 : Int32)
  · refine lv_tableIn (x := a1) (off := 67) (tgt := 68) hx hb d_P_count_1 (by rw [c_1_4]; decide) (by rw [c_1_4]; decide) (by rw [c_1_4]; rfl) (by decide) ?_
    refine lv_aload_n hx hb d_P_count_68 rfl (lv_at hl 0 rfl) ?_
    refine g_P_now hx hb hts hown hK hP d_P_count_69 ?_
    refine k_vi (rest := []) (c_B_outwardTeeth l E ad X S) mi_B_outwardTeeth ml_P_241 hx hb hml hts hown hK hP rvB0 hl ⟨rfl, rfl⟩ ⟨(Nat.le_of_ble_eq_true rfl), (Nat.le_of_ble_eq_true rfl)⟩ ⟨Nat.zero_le _, Nat.zero_le _⟩ rfl (Nat.le_of_ble_eq_true rfl) rfl d_P_count_72 ?_
    exact hend _ _ _ (by rw [s_P_count, if_neg c_1_0, if_neg c_1_1, if_neg c_1_2, if_neg c_1_3, if_pos c_1_4]) d_P_count_75
  have kd : W p l e (rk 2 43) s m args below meth c s.heap [] 0 0 Q (F0 m 76 ls []) := by
    refine lv_iconst (v := (-1 : Int32)) hx hb d_P_count_76 rfl ?_
    exact hend _ _ _ (by rw [s_P_count, if_neg c_1_0, if_neg c_1_1, if_neg c_1_2, if_neg c_1_3, if_neg c_1_4]) d_P_count_77
  have n_0 := lv_neT c_1_0 (a := 0) rfl
  have n_1 := lv_neT c_1_1 (a := 1) rfl
  have n_2 := lv_neT c_1_2 (a := 2) rfl
  have n_3 := lv_neT c_1_3 (a := 3) rfl
  have n_4 := lv_neT c_1_4 (a := 4) rfl
  exact lv_tableOut (x := a1) (tgt := 76) hx hb d_P_count_1 (by omega) (by decide) kd
