/-! by program (wip/p32/cls.py) -/
def s_B_size (S : St) : Int32 := (s_N_size S 0)
set_option maxRecDepth 20000 in
theorem c_B_size (l : Launch) (E : Cx) (ad : Nat → Nat) (X : va_W) (S : St) : Met l y_B_size (Cond.code y_B_size b_B_size 1 (some .int) :: TB) (rk 1 20) (va_Pc [.ref (ad 40)] (preR E (wb E ad S ++ X))) (vp_Si (fun r => r = (s_B_size S))) 0 0 (fun _ => False) := by
  refine w_roI rfl (Nat.le_of_ble_eq_true rfl) rfl ?_
  intro p e s m args below meth c Q ls hx hb hml hts hown hP hK hl hend
  have hl : lv_has ls 1 [(0, .ref (ad 40))] := hl
  have hP : va_P E.1 vwCl (wb E ad S ++ X) s.heap := hP
  have hown : s.vm.findClass R_B = some m.cls := hown
  refine lv_aload_n hx hb d_B_size_0 rfl (lv_at hl 0 rfl) ?_
  refine g_B0_teeth hx hb hts hown hK hP d_B_size_1 ?_
  refine k_vi (rest := []) (c_N_size l E ad X S 0 (Nat.le_of_ble_eq_true rfl)) mi_N_size ml_B_37 hx hb hml hts hown hK hP (rvN (Nat.le_of_ble_eq_true rfl)) hl ⟨rfl, rfl⟩ ⟨(Nat.le_of_ble_eq_true rfl), (Nat.le_of_ble_eq_true rfl)⟩ ⟨Nat.zero_le _, Nat.zero_le _⟩ rfl (Nat.le_of_ble_eq_true rfl) rfl d_B_size_4 ?_
  exact hend _ _ _ (by rw [s_B_size]) d_B_size_7

def s_B_hasWheel (S : St) (a1 : Int32) : Int32 := (s_N_has S 0 a1)
theorem z_B_hasWheel (S : St) (a1 : Int32) : (s_B_hasWheel S a1) = 0 ∨ (s_B_hasWheel S a1) = 1 := by rw [s_B_hasWheel]; exact (z_N_has S 0 a1)
set_option maxRecDepth 20000 in
theorem c_B_hasWheel (l : Launch) (E : Cx) (ad : Nat → Nat) (X : va_W) (S : St) (a1 : Int32) : Met l y_B_hasWheel (Cond.code y_B_hasWheel b_B_hasWheel 2 (some .boolean) :: TB) (rk 1 21) (va_Pc [.ref (ad 40), .int a1] (preR E (wb E ad S ++ X))) (vp_Si (fun r => r = (s_B_hasWheel S a1))) 0 0 (fun _ => False) := by
  refine w_roI rfl (Nat.le_of_ble_eq_true rfl) (k_nb (z_B_hasWheel S a1)) ?_
  intro p e s m args below meth c Q ls hx hb hml hts hown hP hK hl hend
  have hl : lv_has ls 2 [(0, .ref (ad 40)), (1, .int a1)] := hl
  have hP : va_P E.1 vwCl (wb E ad S ++ X) s.heap := hP
  have hown : s.vm.findClass R_B = some m.cls := hown
  refine lv_aload_n hx hb d_B_hasWheel_0 rfl (lv_at hl 0 rfl) ?_
  refine g_B0_teeth hx hb hts hown hK hP d_B_hasWheel_1 ?_
  refine lv_iload_n hx hb d_B_hasWheel_4 rfl (lv_at hl 1 rfl) ?_
  refine k_vi (rest := []) (c_N_has l E ad X S 0 (Nat.le_of_ble_eq_true rfl) a1) mi_N_has ml_B_41 hx hb hml hts hown hK hP (rvN (Nat.le_of_ble_eq_true rfl)) hl ⟨rfl, rfl⟩ ⟨(Nat.le_of_ble_eq_true rfl), (Nat.le_of_ble_eq_true rfl)⟩ ⟨Nat.zero_le _, Nat.zero_le _⟩ rfl (Nat.le_of_ble_eq_true rfl) rfl d_B_hasWheel_5 ?_
  exact hend _ _ _ (by rw [s_B_hasWheel]) d_B_hasWheel_8

def s_B_teethOf (S : St) (a1 : Int32) : Int32 := (s_N_at S 0 a1)
set_option maxRecDepth 20000 in
theorem c_B_teethOf (l : Launch) (E : Cx) (ad : Nat → Nat) (X : va_W) (S : St) (a1 : Int32) : Met l y_B_teethOf (Cond.code y_B_teethOf b_B_teethOf 2 (some .int) :: TB) (rk 1 21) (va_Pc [.ref (ad 40), .int a1] (preR E (wb E ad S ++ X))) (vp_Si (fun r => r = (s_B_teethOf S a1))) 0 0 (fun _ => False) := by
  refine w_roI rfl (Nat.le_of_ble_eq_true rfl) rfl ?_
  intro p e s m args below meth c Q ls hx hb hml hts hown hP hK hl hend
  have hl : lv_has ls 2 [(0, .ref (ad 40)), (1, .int a1)] := hl
  have hP : va_P E.1 vwCl (wb E ad S ++ X) s.heap := hP
  have hown : s.vm.findClass R_B = some m.cls := hown
  refine lv_aload_n hx hb d_B_teethOf_0 rfl (lv_at hl 0 rfl) ?_
  refine g_B0_teeth hx hb hts hown hK hP d_B_teethOf_1 ?_
  refine lv_iload_n hx hb d_B_teethOf_4 rfl (lv_at hl 1 rfl) ?_
  refine k_vi (rest := []) (c_N_at l E ad X S 0 (Nat.le_of_ble_eq_true rfl) a1) mi_N_at ml_B_45 hx hb hml hts hown hK hP (rvN (Nat.le_of_ble_eq_true rfl)) hl ⟨rfl, rfl⟩ ⟨(Nat.le_of_ble_eq_true rfl), (Nat.le_of_ble_eq_true rfl)⟩ ⟨Nat.zero_le _, Nat.zero_le _⟩ rfl (Nat.le_of_ble_eq_true rfl) rfl d_B_teethOf_5 ?_
  exact hend _ _ _ (by rw [s_B_teethOf]) d_B_teethOf_8

def s_B_pressureNow (S : St) : Int32 := (S.1 19)
set_option maxRecDepth 20000 in
theorem c_B_pressureNow (l : Launch) (E : Cx) (ad : Nat → Nat) (X : va_W) (S : St) : Met l y_B_pressureNow (Cond.code y_B_pressureNow b_B_pressureNow 1 (some .int) :: TB) (rk 0 0) (va_Pc [.ref (ad 40)] (preR E (wb E ad S ++ X))) (vp_Si (fun r => r = (s_B_pressureNow S))) 0 0 (fun _ => False) := by
  refine w_roI rfl (Nat.le_of_ble_eq_true rfl) rfl ?_
  intro p e s m args below meth c Q ls hx hb hml hts hown hP hK hl hend
  have hl : lv_has ls 1 [(0, .ref (ad 40))] := hl
  have hP : va_P E.1 vwCl (wb E ad S ++ X) s.heap := hP
  have hown : s.vm.findClass R_B = some m.cls := hown
  refine lv_aload_n hx hb d_B_pressureNow_0 rfl (lv_at hl 0 rfl) ?_
  refine g_B0_pressure hx hb hts hown hK hP d_B_pressureNow_1 ?_
  exact hend _ _ _ (by rw [s_B_pressureNow]) d_B_pressureNow_4

def s_B_pairsInTrain (S : St) : Int32 := (s_N_size S 2)
set_option maxRecDepth 20000 in
theorem c_B_pairsInTrain (l : Launch) (E : Cx) (ad : Nat → Nat) (X : va_W) (S : St) : Met l y_B_pairsInTrain (Cond.code y_B_pairsInTrain b_B_pairsInTrain 1 (some .int) :: TB) (rk 1 20) (va_Pc [.ref (ad 40)] (preR E (wb E ad S ++ X))) (vp_Si (fun r => r = (s_B_pairsInTrain S))) 0 0 (fun _ => False) := by
  refine w_roI rfl (Nat.le_of_ble_eq_true rfl) rfl ?_
  intro p e s m args below meth c Q ls hx hb hml hts hown hP hK hl hend
  have hl : lv_has ls 1 [(0, .ref (ad 40))] := hl
  have hP : va_P E.1 vwCl (wb E ad S ++ X) s.heap := hP
  have hown : s.vm.findClass R_B = some m.cls := hown
  refine lv_aload_n hx hb d_B_pairsInTrain_0 rfl (lv_at hl 0 rfl) ?_
  refine g_B0_drivers hx hb hts hown hK hP d_B_pairsInTrain_1 ?_
  refine k_vi (rest := []) (c_N_size l E ad X S 2 (Nat.le_of_ble_eq_true rfl)) mi_N_size ml_B_37 hx hb hml hts hown hK hP (rvN (Nat.le_of_ble_eq_true rfl)) hl ⟨rfl, rfl⟩ ⟨(Nat.le_of_ble_eq_true rfl), (Nat.le_of_ble_eq_true rfl)⟩ ⟨Nat.zero_le _, Nat.zero_le _⟩ rfl (Nat.le_of_ble_eq_true rfl) rfl d_B_pairsInTrain_4 ?_
  exact hend _ _ _ (by rw [s_B_pairsInTrain]) d_B_pairsInTrain_7

def s_B_square (S : St) : Int32 := (if (S.1 19) = 0 then (627 : Int32) else (if (S.1 19) = 1 then (1170 : Int32) else (1786 : Int32)))
set_option maxRecDepth 20000 in
theorem c_B_square (l : Launch) (E : Cx) (ad : Nat → Nat) (X : va_W) (S : St) : Met l y_B_square (Cond.code y_B_square b_B_square 1 (some .int) :: TB) (rk 0 0) (va_Pc [.ref (ad 40)] (preR E (wb E ad S ++ X))) (vp_Si (fun r => r = (s_B_square S))) 0 0 (fun _ => False) := by
  refine w_roI rfl (Nat.le_of_ble_eq_true rfl) rfl ?_
  intro p e s m args below meth c Q ls hx hb hml hts hown hP hK hl hend
  have hl : lv_has ls 1 [(0, .ref (ad 40))] := hl
  have hP : va_P E.1 vwCl (wb E ad S ++ X) s.heap := hP
  have hown : s.vm.findClass R_B = some m.cls := hown
  refine lv_aload_n hx hb d_B_square_0 rfl (lv_at hl 0 rfl) ?_
  refine g_B0_pressure hx hb hts hown hK hP d_B_square_1 ?_
  by_cases c_4_0 : (S.1 19) = (0 : Int32)
  · refine lv_lookup (x := (S.1 19)) (off := 28) (tgt := 32) hx hb d_B_square_4 (by decide) (by rw [c_4_0]; rfl) (by decide) ?_
    refine lv_sipush (v := (627 : Int32)) hx hb d_B_square_32 rfl ?_
    exact hend _ _ _ (by rw [s_B_square, if_pos c_4_0]) d_B_square_35
  by_cases c_4_1 : (S.1 19) = (1 : Int32)
  · refine lv_lookup (x := (S.1 19)) (off := 32) (tgt := 36) hx hb d_B_square_4 (by decide) (by rw [c_4_1]; rfl) (by decide) ?_
    refine lv_sipush (v := (1170 : Int32)) hx hb d_B_square_36 rfl ?_
    exact hend _ _ _ (by rw [s_B_square, if_neg c_4_0, if_pos c_4_1]) d_B_square_39
  refine lv_lookup (x := (S.1 19)) (off := 36) (tgt := 40) hx hb d_B_square_4 (by decide) (by show Op.lookupswitch.offset [(0, 28), (1, 32)] 36 _ = _; rw [lv_osw (a := 0) (k := 0) c_4_0 (by decide), lv_osw (a := 1) (k := 1) c_4_1 (by decide), Op.lookupswitch.offset_nil]) (by decide) ?_
  refine lv_sipush (v := (1786 : Int32)) hx hb d_B_square_40 rfl ?_
  exact hend _ _ _ (by rw [s_B_square, if_neg c_4_0, if_neg c_4_1]) d_B_square_43

def s_B_isRing (S : St) (a1 : Int32) : Int32 := (if 0 ≤ (s_N_at S 0 a1) then (0 : Int32) else (1 : Int32))
theorem z_B_isRing (S : St) (a1 : Int32) : (s_B_isRing S a1) = 0 ∨ (s_B_isRing S a1) = 1 := by rw [s_B_isRing]; exact (ite_z (Or.inl rfl) (Or.inr rfl))
set_option maxRecDepth 20000 in
theorem c_B_isRing (l : Launch) (E : Cx) (ad : Nat → Nat) (X : va_W) (S : St) (a1 : Int32) : Met l y_B_isRing (Cond.code y_B_isRing b_B_isRing 2 (some .boolean) :: TB) (rk 1 21) (va_Pc [.ref (ad 40), .int a1] (preR E (wb E ad S ++ X))) (vp_Si (fun r => r = (s_B_isRing S a1))) 0 0 (fun _ => False) := by
  refine w_roI rfl (Nat.le_of_ble_eq_true rfl) (k_nb (z_B_isRing S a1)) ?_
  intro p e s m args below meth c Q ls hx hb hml hts hown hP hK hl hend
  have hl : lv_has ls 2 [(0, .ref (ad 40)), (1, .int a1)] := hl
  have hP : va_P E.1 vwCl (wb E ad S ++ X) s.heap := hP
  have hown : s.vm.findClass R_B = some m.cls := hown
  refine lv_aload_n hx hb d_B_isRing_0 rfl (lv_at hl 0 rfl) ?_
  refine g_B0_teeth hx hb hts hown hK hP d_B_isRing_1 ?_
  refine lv_iload_n hx hb d_B_isRing_4 rfl (lv_at hl 1 rfl) ?_
  refine k_vi (rest := []) (c_N_at l E ad X S 0 (Nat.le_of_ble_eq_true rfl) a1) mi_N_at ml_B_45 hx hb hml hts hown hK hP (rvN (Nat.le_of_ble_eq_true rfl)) hl ⟨rfl, rfl⟩ ⟨(Nat.le_of_ble_eq_true rfl), (Nat.le_of_ble_eq_true rfl)⟩ ⟨Nat.zero_le _, Nat.zero_le _⟩ rfl (Nat.le_of_ble_eq_true rfl) rfl d_B_isRing_5 ?_
  refine lv_if_ge (tgt := 15) hx hb d_B_isRing_8 (by decide) (fun c_8 => ?_) (fun c_8 => ?_)
  · refine lv_iconst (v := (0 : Int32)) hx hb d_B_isRing_15 rfl ?_
    exact hend _ _ _ (by rw [s_B_isRing, if_pos c_8]) d_B_isRing_16
  · refine lv_iconst (v := (1 : Int32)) hx hb d_B_isRing_11 rfl ?_
    refine lv_goto (tgt := 16) hx hb d_B_isRing_12 (by decide) ?_
    exact hend _ _ _ (by rw [s_B_isRing, if_neg c_8]) d_B_isRing_16

def s_B_keepsLimit (S : St) (a1 : Int32) (a2 : Int32) : Int32 := (if (a1 * (s_B_square S)) < ((200 : Int32) * ((100 : Int32) - a2)) then (0 : Int32) else (1 : Int32))
theorem z_B_keepsLimit (S : St) (a1 : Int32) (a2 : Int32) : (s_B_keepsLimit S a1 a2) = 0 ∨ (s_B_keepsLimit S a1 a2) = 1 := by rw [s_B_keepsLimit]; exact (ite_z (Or.inl rfl) (Or.inr rfl))
set_option maxRecDepth 20000 in
theorem c_B_keepsLimit (l : Launch) (E : Cx) (ad : Nat → Nat) (X : va_W) (S : St) (a1 : Int32) (a2 : Int32) : Met l y_B_keepsLimit (Cond.code y_B_keepsLimit b_B_keepsLimit 3 (some .boolean) :: TB) (rk 1 20) (va_Pc [.ref (ad 40), .int a1, .int a2] (preR E (wb E ad S ++ X))) (vp_Si (fun r => r = (s_B_keepsLimit S a1 a2))) 0 0 (fun _ => False) := by
  refine w_roI rfl (Nat.le_of_ble_eq_true rfl) (k_nb (z_B_keepsLimit S a1 a2)) ?_
  intro p e s m args below meth c Q ls hx hb hml hts hown hP hK hl hend
  have hl : lv_has ls 3 [(0, .ref (ad 40)), (1, .int a1), (2, .int a2)] := hl
  have hP : va_P E.1 vwCl (wb E ad S ++ X) s.heap := hP
  have hown : s.vm.findClass R_B = some m.cls := hown
  refine lv_iload_n hx hb d_B_keepsLimit_0 rfl (lv_at hl 1 rfl) ?_
  refine lv_aload_n hx hb d_B_keepsLimit_1 rfl (lv_at hl 0 rfl) ?_
  refine k_vi (rest := [.int a1]) (c_B_square l E ad X S) mi_B_square ml_B_101 hx hb hml hts hown hK hP rvB0 hl ⟨rfl, rfl⟩ ⟨(Nat.le_of_ble_eq_true rfl), (Nat.le_of_ble_eq_true rfl)⟩ ⟨Nat.zero_le _, Nat.zero_le _⟩ rfl (Nat.le_of_ble_eq_true rfl) rfl d_B_keepsLimit_2 ?_
  refine lv_imul hx hb d_B_keepsLimit_5 ?_
  refine lv_sipush (v := (200 : Int32)) hx hb d_B_keepsLimit_6 rfl ?_
  refine lv_bipush (v := (100 : Int32)) hx hb d_B_keepsLimit_9 rfl ?_
  refine lv_iload_n hx hb d_B_keepsLimit_11 rfl (lv_at hl 2 rfl) ?_
  refine lv_isub hx hb d_B_keepsLimit_12 ?_
  refine lv_imul hx hb d_B_keepsLimit_13 ?_
  refine lv_icmp_lt (tgt := 21) hx hb d_B_keepsLimit_14 (by decide) (fun c_14 => ?_) (fun c_14 => ?_)
  · refine lv_iconst (v := (0 : Int32)) hx hb d_B_keepsLimit_21 rfl ?_
    exact hend _ _ _ (by rw [s_B_keepsLimit, if_pos c_14]) d_B_keepsLimit_22
  · refine lv_iconst (v := (1 : Int32)) hx hb d_B_keepsLimit_17 rfl ?_
    refine lv_goto (tgt := 22) hx hb d_B_keepsLimit_18 (by decide) ?_
    exact hend _ _ _ (by rw [s_B_keepsLimit, if_neg c_14]) d_B_keepsLimit_22

def s_B_isUndercut (S : St) (a1 : Int32) : Int32 := (if (s_B_isRing S a1) = 0 then (if (s_B_keepsLimit S (s_N_at S 0 a1) (s_N_at S 1 a1)) = 0 then (1 : Int32) else (0 : Int32)) else (0 : Int32))
theorem z_B_isUndercut (S : St) (a1 : Int32) : (s_B_isUndercut S a1) = 0 ∨ (s_B_isUndercut S a1) = 1 := by rw [s_B_isUndercut]; exact (ite_z (ite_z (Or.inr rfl) (Or.inl rfl)) (Or.inl rfl))
set_option maxRecDepth 20000 in
theorem c_B_isUndercut (l : Launch) (E : Cx) (ad : Nat → Nat) (X : va_W) (S : St) (a1 : Int32) : Met l y_B_isUndercut (Cond.code y_B_isUndercut b_B_isUndercut 2 (some .boolean) :: TB) (rk 2 42) (va_Pc [.ref (ad 40), .int a1] (preR E (wb E ad S ++ X))) (vp_Si (fun r => r = (s_B_isUndercut S a1))) 0 0 (fun _ => False) := by
  refine w_roI rfl (Nat.le_of_ble_eq_true rfl) (k_nb (z_B_isUndercut S a1)) ?_
  intro p e s m args below meth c Q ls hx hb hml hts hown hP hK hl hend
  have hl : lv_has ls 2 [(0, .ref (ad 40)), (1, .int a1)] := hl
  have hP : va_P E.1 vwCl (wb E ad S ++ X) s.heap := hP
  have hown : s.vm.findClass R_B = some m.cls := hown
  refine lv_aload_n hx hb d_B_isUndercut_0 rfl (lv_at hl 0 rfl) ?_
  refine lv_iload_n hx hb d_B_isUndercut_1 rfl (lv_at hl 1 rfl) ?_
  refine k_vi (rest := []) (c_B_isRing l E ad X S a1) mi_B_isRing ml_B_104 hx hb hml hts hown hK hP rvB0 hl ⟨rfl, rfl⟩ ⟨(Nat.le_of_ble_eq_true rfl), (Nat.le_of_ble_eq_true rfl)⟩ ⟨Nat.zero_le _, Nat.zero_le _⟩ rfl (Nat.le_of_ble_eq_true rfl) rfl d_B_isUndercut_2 ?_
  refine lv_if_ne (tgt := 35) hx hb d_B_isUndercut_5 (by decide) (fun c_5 => ?_) (fun c_5 => ?_)
  · refine lv_iconst (v := (0 : Int32)) hx hb d_B_isUndercut_35 rfl ?_
    exact hend _ _ _ (by rw [s_B_isUndercut, if_neg c_5]) d_B_isUndercut_36
  · refine lv_aload_n hx hb d_B_isUndercut_8 rfl (lv_at hl 0 rfl) ?_
    refine lv_aload_n hx hb d_B_isUndercut_9 rfl (lv_at hl 0 rfl) ?_
    refine g_B0_teeth hx hb hts hown hK hP d_B_isUndercut_10 ?_
    refine lv_iload_n hx hb d_B_isUndercut_13 rfl (lv_at hl 1 rfl) ?_
    refine k_vi (rest := [.ref (ad 40)]) (c_N_at l E ad X S 0 (Nat.le_of_ble_eq_true rfl) a1) mi_N_at ml_B_45 hx hb hml hts hown hK hP (rvN (Nat.le_of_ble_eq_true rfl)) hl ⟨rfl, rfl⟩ ⟨(Nat.le_of_ble_eq_true rfl), (Nat.le_of_ble_eq_true rfl)⟩ ⟨Nat.zero_le _, Nat.zero_le _⟩ rfl (Nat.le_of_ble_eq_true rfl) rfl d_B_isUndercut_14 ?_
    refine lv_aload_n hx hb d_B_isUndercut_17 rfl (lv_at hl 0 rfl) ?_
    refine g_B0_shifts hx hb hts hown hK hP d_B_isUndercut_18 ?_
    refine lv_iload_n hx hb d_B_isUndercut_21 rfl (lv_at hl 1 rfl) ?_
    refine k_vi (rest := [.int (s_N_at S 0 a1), .ref (ad 40)]) (c_N_at l E ad X S 1 (Nat.le_of_ble_eq_true rfl) a1) mi_N_at ml_B_45 hx hb hml hts hown hK hP (rvN (Nat.le_of_ble_eq_true rfl)) hl ⟨rfl, rfl⟩ ⟨(Nat.le_of_ble_eq_true rfl), (Nat.le_of_ble_eq_true rfl)⟩ ⟨Nat.zero_le _, Nat.zero_le _⟩ rfl (Nat.le_of_ble_eq_true rfl) rfl d_B_isUndercut_22 ?_
    refine k_vi (rest := []) (c_B_keepsLimit l E ad X S (s_N_at S 0 a1) (s_N_at S 1 a1)) mi_B_keepsLimit ml_B_107 hx hb hml hts hown hK hP rvB0 hl ⟨rfl, rfl⟩ ⟨(Nat.le_of_ble_eq_true rfl), (Nat.le_of_ble_eq_true rfl)⟩ ⟨Nat.zero_le _, Nat.zero_le _⟩ rfl (Nat.le_of_ble_eq_true rfl) rfl d_B_isUndercut_25 ?_
    refine lv_if_ne (tgt := 35) hx hb d_B_isUndercut_28 (by decide) (fun c_28 => ?_) (fun c_28 => ?_)
    · refine lv_iconst (v := (0 : Int32)) hx hb d_B_isUndercut_35 rfl ?_
      exact hend _ _ _ (by rw [s_B_isUndercut, if_pos c_5, if_neg c_28]) d_B_isUndercut_36
    · refine lv_iconst (v := (1 : Int32)) hx hb d_B_isUndercut_31 rfl ?_
      refine lv_goto (tgt := 36) hx hb d_B_isUndercut_32 (by decide) ?_
      exact hend _ _ _ (by rw [s_B_isUndercut, if_pos c_5, if_pos c_28]) d_B_isUndercut_36

def s_B_isPointed (S : St) (a1 : Int32) : Int32 := (if (s_B_isRing S a1) = 0 then (if (s_N_at S 1 a1) ≤ (((5 : Int32) * (s_N_at S 0 a1)) - (10 : Int32)) then (0 : Int32) else (1 : Int32)) else (0 : Int32))
theorem z_B_isPointed (S : St) (a1 : Int32) : (s_B_isPointed S a1) = 0 ∨ (s_B_isPointed S a1) = 1 := by rw [s_B_isPointed]; exact (ite_z (ite_z (Or.inl rfl) (Or.inr rfl)) (Or.inl rfl))
set_option maxRecDepth 20000 in
theorem c_B_isPointed (l : Launch) (E : Cx) (ad : Nat → Nat) (X : va_W) (S : St) (a1 : Int32) : Met l y_B_isPointed (Cond.code y_B_isPointed b_B_isPointed 2 (some .boolean) :: TB) (rk 2 42) (va_Pc [.ref (ad 40), .int a1] (preR E (wb E ad S ++ X))) (vp_Si (fun r => r = (s_B_isPointed S a1))) 0 0 (fun _ => False) := by
  refine w_roI rfl (Nat.le_of_ble_eq_true rfl) (k_nb (z_B_isPointed S a1)) ?_
  intro p e s m args below meth c Q ls hx hb hml hts hown hP hK hl hend
  have hl : lv_has ls 2 [(0, .ref (ad 40)), (1, .int a1)] := hl
  have hP : va_P E.1 vwCl (wb E ad S ++ X) s.heap := hP
  have hown : s.vm.findClass R_B = some m.cls := hown
  refine lv_aload_n hx hb d_B_isPointed_0 rfl (lv_at hl 0 rfl) ?_
  refine lv_iload_n hx hb d_B_isPointed_1 rfl (lv_at hl 1 rfl) ?_
  refine k_vi (rest := []) (c_B_isRing l E ad X S a1) mi_B_isRing ml_B_104 hx hb hml hts hown hK hP rvB0 hl ⟨rfl, rfl⟩ ⟨(Nat.le_of_ble_eq_true rfl), (Nat.le_of_ble_eq_true rfl)⟩ ⟨Nat.zero_le _, Nat.zero_le _⟩ rfl (Nat.le_of_ble_eq_true rfl) rfl d_B_isPointed_2 ?_
  refine lv_if_ne (tgt := 36) hx hb d_B_isPointed_5 (by decide) (fun c_5 => ?_) (fun c_5 => ?_)
  · refine lv_iconst (v := (0 : Int32)) hx hb d_B_isPointed_36 rfl ?_
    exact hend _ _ _ (by rw [s_B_isPointed, if_neg c_5]) d_B_isPointed_37
  · refine lv_aload_n hx hb d_B_isPointed_8 rfl (lv_at hl 0 rfl) ?_
    refine g_B0_shifts hx hb hts hown hK hP d_B_isPointed_9 ?_
    refine lv_iload_n hx hb d_B_isPointed_12 rfl (lv_at hl 1 rfl) ?_
    refine k_vi (rest := []) (c_N_at l E ad X S 1 (Nat.le_of_ble_eq_true rfl) a1) mi_N_at ml_B_45 hx hb hml hts hown hK hP (rvN (Nat.le_of_ble_eq_true rfl)) hl ⟨rfl, rfl⟩ ⟨(Nat.le_of_ble_eq_true rfl), (Nat.le_of_ble_eq_true rfl)⟩ ⟨Nat.zero_le _, Nat.zero_le _⟩ rfl (Nat.le_of_ble_eq_true rfl) rfl d_B_isPointed_13 ?_
    refine lv_iconst (v := (5 : Int32)) hx hb d_B_isPointed_16 rfl ?_
    refine lv_aload_n hx hb d_B_isPointed_17 rfl (lv_at hl 0 rfl) ?_
    refine g_B0_teeth hx hb hts hown hK hP d_B_isPointed_18 ?_
    refine lv_iload_n hx hb d_B_isPointed_21 rfl (lv_at hl 1 rfl) ?_
    refine k_vi (rest := [.int (5 : Int32), .int (s_N_at S 1 a1)]) (c_N_at l E ad X S 0 (Nat.le_of_ble_eq_true rfl) a1) mi_N_at ml_B_45 hx hb hml hts hown hK hP (rvN (Nat.le_of_ble_eq_true rfl)) hl ⟨rfl, rfl⟩ ⟨(Nat.le_of_ble_eq_true rfl), (Nat.le_of_ble_eq_true rfl)⟩ ⟨Nat.zero_le _, Nat.zero_le _⟩ rfl (Nat.le_of_ble_eq_true rfl) rfl d_B_isPointed_22 ?_
    refine lv_imul hx hb d_B_isPointed_25 ?_
    refine lv_bipush (v := (10 : Int32)) hx hb d_B_isPointed_26 rfl ?_
    refine lv_isub hx hb d_B_isPointed_28 ?_
    refine lv_icmp_le (tgt := 36) hx hb d_B_isPointed_29 (by decide) (fun c_29 => ?_) (fun c_29 => ?_)
    · refine lv_iconst (v := (0 : Int32)) hx hb d_B_isPointed_36 rfl ?_
      exact hend _ _ _ (by rw [s_B_isPointed, if_pos c_5, if_pos c_29]) d_B_isPointed_37
    · refine lv_iconst (v := (1 : Int32)) hx hb d_B_isPointed_32 rfl ?_
      refine lv_goto (tgt := 37) hx hb d_B_isPointed_33 (by decide) ?_
      exact hend _ _ _ (by rw [s_B_isPointed, if_pos c_5, if_neg c_29]) d_B_isPointed_37

def s_B_leastShift_b15 (S : St) : Nat → Int32 → Int32 → Int32
  | 0, _, _ => 0
  | n + 1, x1, x2 => (if (100 : Int32) < x2 then (-1001 : Int32) else (if (s_B_keepsLimit S (s_N_at S 0 x1) x2) = 0 then (s_B_leastShift_b15 S n x1 (x2 + 1)) else x2))
def s_B_leastShift (S : St) (a1 : Int32) : Int32 := (if (s_B_isRing S a1) = 0 then (s_B_leastShift_b15 S (152) a1 (-50 : Int32)) else (-1001 : Int32))
set_option maxRecDepth 20000 in
theorem c_B_leastShift (l : Launch) (E : Cx) (ad : Nat → Nat) (X : va_W) (S : St) (a1 : Int32) : Met l y_B_leastShift (Cond.code y_B_leastShift b_B_leastShift 3 (some .int) :: TB) (rk 2 42) (va_Pc [.ref (ad 40), .int a1] (preR E (wb E ad S ++ X))) (vp_Si (fun r => r = (s_B_leastShift S a1))) 0 0 (fun _ => False) := by
  refine w_roI rfl (Nat.le_of_ble_eq_true rfl) rfl ?_
  intro p e s m args below meth c Q ls hx hb hml hts hown hP hK hl hend
  have hl : lv_has ls 3 [(0, .ref (ad 40)), (1, .int a1)] := hl
  have hP : va_P E.1 vwCl (wb E ad S ++ X) s.heap := hP
  have hown : s.vm.findClass R_B = some m.cls := hown
  have b15 : ∀ (n : Nat) (x1 : Int32) (x2 : Int32), (UE n 100 x2) → ∀ (ls : Array Slot), lv_has ls 3 [(0, .ref (ad 40)), (1, .int x1), (2, .int x2)] → (s_B_leastShift S a1) = s_B_leastShift_b15 S n x1 x2 → W p l e (rk 2 42) s m args below meth c s.heap [] 0 0 Q (F0 m 15 ls []) := by
    intro n15
    induction n15 with
    | zero => intro x1 x2 hv; exact absurd hv (UE_z)
    | succ n15 ih15 =>
      intro x1 x2 hv ls hl hq
      refine lv_iload_n hx hb d_B_leastShift_15 rfl (lv_at hl 2 rfl) ?_
      refine lv_bipush (v := (100 : Int32)) hx hb d_B_leastShift_16 rfl ?_
      refine lv_icmp_gt (tgt := 45) hx hb d_B_leastShift_18 (by decide) (fun c_18 => ?_) (fun c_18 => ?_)
      · refine lv_sipush (v := (-1001 : Int32)) hx hb d_B_leastShift_45 rfl ?_
        exact hend _ _ _ (by rw [hq, s_B_leastShift_b15, if_pos c_18]) d_B_leastShift_48
      · refine lv_aload_n hx hb d_B_leastShift_21 rfl (lv_at hl 0 rfl) ?_
        refine lv_aload_n hx hb d_B_leastShift_22 rfl (lv_at hl 0 rfl) ?_
        refine g_B0_teeth hx hb hts hown hK hP d_B_leastShift_23 ?_
        refine lv_iload_n hx hb d_B_leastShift_26 rfl (lv_at hl 1 rfl) ?_
        refine k_vi (rest := [.ref (ad 40)]) (c_N_at l E ad X S 0 (Nat.le_of_ble_eq_true rfl) x1) mi_N_at ml_B_45 hx hb hml hts hown hK hP (rvN (Nat.le_of_ble_eq_true rfl)) hl ⟨rfl, rfl⟩ ⟨(Nat.le_of_ble_eq_true rfl), (Nat.le_of_ble_eq_true rfl)⟩ ⟨Nat.zero_le _, Nat.zero_le _⟩ rfl (Nat.le_of_ble_eq_true rfl) rfl d_B_leastShift_27 ?_
        refine lv_iload_n hx hb d_B_leastShift_30 rfl (lv_at hl 2 rfl) ?_
        refine k_vi (rest := []) (c_B_keepsLimit l E ad X S (s_N_at S 0 x1) x2) mi_B_keepsLimit ml_B_107 hx hb hml hts hown hK hP rvB0 hl ⟨rfl, rfl⟩ ⟨(Nat.le_of_ble_eq_true rfl), (Nat.le_of_ble_eq_true rfl)⟩ ⟨Nat.zero_le _, Nat.zero_le _⟩ rfl (Nat.le_of_ble_eq_true rfl) rfl d_B_leastShift_31 ?_
        refine lv_if_eq (tgt := 39) hx hb d_B_leastShift_34 (by decide) (fun c_34 => ?_) (fun c_34 => ?_)
        · refine lv_iinc (v := (x2 + 1)) (lv' := [(2, .int (x2 + 1)), (0, .ref (ad 40)), (1, .int x1)]) hx hb d_B_leastShift_39 hl (k := 2) rfl rfl (by decide) rfl (fun ls hl => ?_)
          refine lv_goto (tgt := 15) hx hb d_B_leastShift_42 (by decide) ?_
          exact ih15 x1 (x2 + 1) (UE_up hv c_18) ls (lv_sub hl [1, 2, 0] rfl) (by rw [hq, s_B_leastShift_b15, if_neg c_18, if_pos c_34])
        · refine lv_iload_n hx hb d_B_leastShift_37 rfl (lv_at hl 2 rfl) ?_
          exact hend _ _ _ (by rw [hq, s_B_leastShift_b15, if_neg c_18, if_neg c_34]) d_B_leastShift_38
  refine lv_aload_n hx hb d_B_leastShift_0 rfl (lv_at hl 0 rfl) ?_
  refine lv_iload_n hx hb d_B_leastShift_1 rfl (lv_at hl 1 rfl) ?_
  refine k_vi (rest := []) (c_B_isRing l E ad X S a1) mi_B_isRing ml_B_104 hx hb hml hts hown hK hP rvB0 hl ⟨rfl, rfl⟩ ⟨(Nat.le_of_ble_eq_true rfl), (Nat.le_of_ble_eq_true rfl)⟩ ⟨Nat.zero_le _, Nat.zero_le _⟩ rfl (Nat.le_of_ble_eq_true rfl) rfl d_B_leastShift_2 ?_
  refine lv_if_eq (tgt := 12) hx hb d_B_leastShift_5 (by decide) (fun c_5 => ?_) (fun c_5 => ?_)
  · refine lv_bipush (v := (-50 : Int32)) hx hb d_B_leastShift_12 rfl ?_
    refine lv_istore_n (lv' := [(2, .int (-50 : Int32)), (0, .ref (ad 40)), (1, .int a1)]) hx hb d_B_leastShift_14 rfl hl (by decide) rfl (fun ls hl => ?_)
    exact b15 (152) a1 (-50 : Int32) (UE_in' (by decide) (by decide) (by decide)) ls (lv_sub hl [1, 2, 0] rfl) (by rw [s_B_leastShift, if_pos c_5])
  · refine lv_sipush (v := (-1001 : Int32)) hx hb d_B_leastShift_8 rfl ?_
    exact hend _ _ _ (by rw [s_B_leastShift, if_neg c_5]) d_B_leastShift_11

def s_B_pairsWith_b4 (S : St) : Nat → Int32 → Int32 → Int32 → Int32
  | 0, _, _, _ => 0
  | n + 1, x1, x2, x3 => (if (s_N_size S 2) ≤ x3 then x2 else (if (s_N_at S 2 x3) = x1 then (s_B_pairsWith_b4 S n x1 (x2 + 1) (x3 + 1)) else (if (s_N_at S 3 x3) = x1 then (s_B_pairsWith_b4 S n x1 (x2 + 1) (x3 + 1)) else (s_B_pairsWith_b4 S n x1 x2 (x3 + 1)))))
def s_B_pairsWith (S : St) (a1 : Int32) : Int32 := (s_B_pairsWith_b4 S ((S.1 2).toInt.toNat + 1) a1 (0 : Int32) (0 : Int32))
set_option maxRecDepth 20000 in
theorem c_B_pairsWith (l : Launch) (E : Cx) (ad : Nat → Nat) (X : va_W) (S : St) (a1 : Int32) : Met l y_B_pairsWith (Cond.code y_B_pairsWith b_B_pairsWith 4 (some .int) :: TB) (rk 1 21) (va_Pc [.ref (ad 40), .int a1] (preR E (wb E ad S ++ X))) (vp_Si (fun r => r = (s_B_pairsWith S a1))) 0 0 (fun _ => False) := by
  refine w_roI rfl (Nat.le_of_ble_eq_true rfl) rfl ?_
  intro p e s m args below meth c Q ls hx hb hml hts hown hP hK hl hend
  have hl : lv_has ls 4 [(0, .ref (ad 40)), (1, .int a1)] := hl
  have hP : va_P E.1 vwCl (wb E ad S ++ X) s.heap := hP
  have hown : s.vm.findClass R_B = some m.cls := hown
  have b4 : ∀ (n : Nat) (x1 : Int32) (x2 : Int32) (x3 : Int32), (UP n (S.1 2) x3) → ∀ (ls : Array Slot), lv_has ls 4 [(0, .ref (ad 40)), (1, .int x1), (2, .int x2), (3, .int x3)] → (s_B_pairsWith S a1) = s_B_pairsWith_b4 S n x1 x2 x3 → W p l e (rk 1 21) s m args below meth c s.heap [] 0 0 Q (F0 m 4 ls []) := by
    intro n4
    induction n4 with
    | zero => intro x1 x2 x3 hv; exact absurd hv (UP_z)
    | succ n4 ih4 =>
      intro x1 x2 x3 hv ls hl hq
      refine lv_iload_n hx hb d_B_pairsWith_4 rfl (lv_at hl 3 rfl) ?_
      refine lv_aload_n hx hb d_B_pairsWith_5 rfl (lv_at hl 0 rfl) ?_
      refine g_B0_drivers hx hb hts hown hK hP d_B_pairsWith_6 ?_
      refine k_vi (rest := [.int x3]) (c_N_size l E ad X S 2 (Nat.le_of_ble_eq_true rfl)) mi_N_size ml_B_37 hx hb hml hts hown hK hP (rvN (Nat.le_of_ble_eq_true rfl)) hl ⟨rfl, rfl⟩ ⟨(Nat.le_of_ble_eq_true rfl), (Nat.le_of_ble_eq_true rfl)⟩ ⟨Nat.zero_le _, Nat.zero_le _⟩ rfl (Nat.le_of_ble_eq_true rfl) rfl d_B_pairsWith_9 ?_
      refine lv_icmp_ge (tgt := 48) hx hb d_B_pairsWith_12 (by decide) (fun c_12 => ?_) (fun c_12 => ?_)
      · refine lv_iload_n hx hb d_B_pairsWith_48 rfl (lv_at hl 2 rfl) ?_
        exact hend _ _ _ (by rw [hq, s_B_pairsWith_b4, if_pos c_12]) d_B_pairsWith_49
      · refine lv_aload_n hx hb d_B_pairsWith_15 rfl (lv_at hl 0 rfl) ?_
        refine g_B0_drivers hx hb hts hown hK hP d_B_pairsWith_16 ?_
        refine lv_iload_n hx hb d_B_pairsWith_19 rfl (lv_at hl 3 rfl) ?_
        refine k_vi (rest := []) (c_N_at l E ad X S 2 (Nat.le_of_ble_eq_true rfl) x3) mi_N_at ml_B_45 hx hb hml hts hown hK hP (rvN (Nat.le_of_ble_eq_true rfl)) hl ⟨rfl, rfl⟩ ⟨(Nat.le_of_ble_eq_true rfl), (Nat.le_of_ble_eq_true rfl)⟩ ⟨Nat.zero_le _, Nat.zero_le _⟩ rfl (Nat.le_of_ble_eq_true rfl) rfl d_B_pairsWith_20 ?_
        refine lv_iload_n hx hb d_B_pairsWith_23 rfl (lv_at hl 1 rfl) ?_
        refine lv_icmp_eq (tgt := 39) hx hb d_B_pairsWith_24 (by decide) (fun c_24 => ?_) (fun c_24 => ?_)
        · refine lv_iinc (v := (x2 + 1)) (lv' := [(2, .int (x2 + 1)), (0, .ref (ad 40)), (1, .int x1), (3, .int x3)]) hx hb d_B_pairsWith_39 hl (k := 2) rfl rfl (by decide) rfl (fun ls hl => ?_)
          refine lv_iinc (v := (x3 + 1)) (lv' := [(3, .int (x3 + 1)), (2, .int (x2 + 1)), (0, .ref (ad 40)), (1, .int x1)]) hx hb d_B_pairsWith_42 hl (k := 3) rfl rfl (by decide) rfl (fun ls hl => ?_)
          refine lv_goto (tgt := 4) hx hb d_B_pairsWith_45 (by decide) ?_
          exact ih4 x1 (x2 + 1) (x3 + 1) (UP_up hv c_12) ls (lv_sub hl [2, 3, 1, 0] rfl) (by rw [hq, s_B_pairsWith_b4, if_neg c_12, if_pos c_24])
        · refine lv_aload_n hx hb d_B_pairsWith_27 rfl (lv_at hl 0 rfl) ?_
          refine g_B0_driven hx hb hts hown hK hP d_B_pairsWith_28 ?_
          refine lv_iload_n hx hb d_B_pairsWith_31 rfl (lv_at hl 3 rfl) ?_
          refine k_vi (rest := []) (c_N_at l E ad X S 3 (Nat.le_of_ble_eq_true rfl) x3) mi_N_at ml_B_45 hx hb hml hts hown hK hP (rvN (Nat.le_of_ble_eq_true rfl)) hl ⟨rfl, rfl⟩ ⟨(Nat.le_of_ble_eq_true rfl), (Nat.le_of_ble_eq_true rfl)⟩ ⟨Nat.zero_le _, Nat.zero_le _⟩ rfl (Nat.le_of_ble_eq_true rfl) rfl d_B_pairsWith_32 ?_
          refine lv_iload_n hx hb d_B_pairsWith_35 rfl (lv_at hl 1 rfl) ?_
          refine lv_icmp_ne (tgt := 42) hx hb d_B_pairsWith_36 (by decide) (fun c_36 => ?_) (fun c_36 => ?_)
          · refine lv_iinc (v := (x3 + 1)) (lv' := [(3, .int (x3 + 1)), (0, .ref (ad 40)), (1, .int x1), (2, .int x2)]) hx hb d_B_pairsWith_42 hl (k := 3) rfl rfl (by decide) rfl (fun ls hl => ?_)
            refine lv_goto (tgt := 4) hx hb d_B_pairsWith_45 (by decide) ?_
            exact ih4 x1 x2 (x3 + 1) (UP_up hv c_12) ls (lv_sub hl [1, 2, 3, 0] rfl) (by rw [hq, s_B_pairsWith_b4, if_neg c_12, if_neg c_24, if_neg c_36])
          · refine lv_iinc (v := (x2 + 1)) (lv' := [(2, .int (x2 + 1)), (0, .ref (ad 40)), (1, .int x1), (3, .int x3)]) hx hb d_B_pairsWith_39 hl (k := 2) rfl rfl (by decide) rfl (fun ls hl => ?_)
            refine lv_iinc (v := (x3 + 1)) (lv' := [(3, .int (x3 + 1)), (2, .int (x2 + 1)), (0, .ref (ad 40)), (1, .int x1)]) hx hb d_B_pairsWith_42 hl (k := 3) rfl rfl (by decide) rfl (fun ls hl => ?_)
            refine lv_goto (tgt := 4) hx hb d_B_pairsWith_45 (by decide) ?_
            exact ih4 x1 (x2 + 1) (x3 + 1) (UP_up hv c_12) ls (lv_sub hl [2, 3, 1, 0] rfl) (by rw [hq, s_B_pairsWith_b4, if_neg c_12, if_neg c_24, if_pos c_36])
  refine lv_iconst (v := (0 : Int32)) hx hb d_B_pairsWith_0 rfl ?_
  refine lv_istore_n (lv' := [(2, .int (0 : Int32)), (0, .ref (ad 40)), (1, .int a1)]) hx hb d_B_pairsWith_1 rfl hl (by decide) rfl (fun ls hl => ?_)
  refine lv_iconst (v := (0 : Int32)) hx hb d_B_pairsWith_2 rfl ?_
  refine lv_istore_n (lv' := [(3, .int (0 : Int32)), (2, .int (0 : Int32)), (0, .ref (ad 40)), (1, .int a1)]) hx hb d_B_pairsWith_3 rfl hl (by decide) rfl (fun ls hl => ?_)
  exact b4 ((S.1 2).toInt.toNat + 1) a1 (0 : Int32) (0 : Int32) (UP_in (by decide)) ls (lv_sub hl [2, 3, 1, 0] rfl) (by rw [s_B_pairsWith])

def s_B_fewestTeeth_b2 (S : St) : Nat → Int32 → Int32 → Int32
  | 0, _, _ => 0
  | n + 1, x1, x2 => (if (99 : Int32) < x2 then (-2 : Int32) else (if (s_B_keepsLimit S x2 x1) = 0 then (s_B_fewestTeeth_b2 S n x1 (x2 + 1)) else x2))
def s_B_fewestTeeth (S : St) (a1 : Int32) : Int32 := (s_B_fewestTeeth_b2 S (96) a1 (5 : Int32))
set_option maxRecDepth 20000 in
theorem c_B_fewestTeeth (l : Launch) (E : Cx) (ad : Nat → Nat) (X : va_W) (S : St) (a1 : Int32) : Met l y_B_fewestTeeth (Cond.code y_B_fewestTeeth b_B_fewestTeeth 3 (some .int) :: TB) (rk 2 42) (va_Pc [.ref (ad 40), .int a1] (preR E (wb E ad S ++ X))) (vp_Si (fun r => r = (s_B_fewestTeeth S a1))) 0 0 (fun _ => False) := by
  refine w_roI rfl (Nat.le_of_ble_eq_true rfl) rfl ?_
  intro p e s m args below meth c Q ls hx hb hml hts hown hP hK hl hend
  have hl : lv_has ls 3 [(0, .ref (ad 40)), (1, .int a1)] := hl
  have hP : va_P E.1 vwCl (wb E ad S ++ X) s.heap := hP
  have hown : s.vm.findClass R_B = some m.cls := hown
  have b2 : ∀ (n : Nat) (x1 : Int32) (x2 : Int32), (UE n 99 x2) → ∀ (ls : Array Slot), lv_has ls 3 [(0, .ref (ad 40)), (1, .int x1), (2, .int x2)] → (s_B_fewestTeeth S a1) = s_B_fewestTeeth_b2 S n x1 x2 → W p l e (rk 2 42) s m args below meth c s.heap [] 0 0 Q (F0 m 2 ls []) := by
    intro n2
    induction n2 with
    | zero => intro x1 x2 hv; exact absurd hv (UE_z)
    | succ n2 ih2 =>
      intro x1 x2 hv ls hl hq
      refine lv_iload_n hx hb d_B_fewestTeeth_2 rfl (lv_at hl 2 rfl) ?_
      refine lv_bipush (v := (99 : Int32)) hx hb d_B_fewestTeeth_3 rfl ?_
      refine lv_icmp_gt (tgt := 25) hx hb d_B_fewestTeeth_5 (by decide) (fun c_5 => ?_) (fun c_5 => ?_)
      · refine lv_bipush (v := (-2 : Int32)) hx hb d_B_fewestTeeth_25 rfl ?_
        exact hend _ _ _ (by rw [hq, s_B_fewestTeeth_b2, if_pos c_5]) d_B_fewestTeeth_27
      · refine lv_aload_n hx hb d_B_fewestTeeth_8 rfl (lv_at hl 0 rfl) ?_
        refine lv_iload_n hx hb d_B_fewestTeeth_9 rfl (lv_at hl 2 rfl) ?_
        refine lv_iload_n hx hb d_B_fewestTeeth_10 rfl (lv_at hl 1 rfl) ?_
        refine k_vi (rest := []) (c_B_keepsLimit l E ad X S x2 x1) mi_B_keepsLimit ml_B_107 hx hb hml hts hown hK hP rvB0 hl ⟨rfl, rfl⟩ ⟨(Nat.le_of_ble_eq_true rfl), (Nat.le_of_ble_eq_true rfl)⟩ ⟨Nat.zero_le _, Nat.zero_le _⟩ rfl (Nat.le_of_ble_eq_true rfl) rfl d_B_fewestTeeth_11 ?_
        refine lv_if_eq (tgt := 19) hx hb d_B_fewestTeeth_14 (by decide) (fun c_14 => ?_) (fun c_14 => ?_)
        · refine lv_iinc (v := (x2 + 1)) (lv' := [(2, .int (x2 + 1)), (0, .ref (ad 40)), (1, .int x1)]) hx hb d_B_fewestTeeth_19 hl (k := 2) rfl rfl (by decide) rfl (fun ls hl => ?_)
          refine lv_goto (tgt := 2) hx hb d_B_fewestTeeth_22 (by decide) ?_
          exact ih2 x1 (x2 + 1) (UE_up hv c_5) ls (lv_sub hl [1, 2, 0] rfl) (by rw [hq, s_B_fewestTeeth_b2, if_neg c_5, if_pos c_14])
        · refine lv_iload_n hx hb d_B_fewestTeeth_17 rfl (lv_at hl 2 rfl) ?_
          exact hend _ _ _ (by rw [hq, s_B_fewestTeeth_b2, if_neg c_5, if_neg c_14]) d_B_fewestTeeth_18
  refine lv_iconst (v := (5 : Int32)) hx hb d_B_fewestTeeth_0 rfl ?_
  refine lv_istore_n (lv' := [(2, .int (5 : Int32)), (0, .ref (ad 40)), (1, .int a1)]) hx hb d_B_fewestTeeth_1 rfl hl (by decide) rfl (fun ls hl => ?_)
  exact b2 (96) a1 (5 : Int32) (UE_in' (by decide) (by decide) (by decide)) ls (lv_sub hl [1, 2, 0] rfl) (by rw [s_B_fewestTeeth])

def s_B_isFirstOfItsTeeth_b2 (S : St) : Nat → Int32 → Int32 → Int32
  | 0, _, _ => 0
  | n + 1, x1, x2 => (if x1 ≤ x2 then (1 : Int32) else (if (s_N_at S 0 x2) = (s_N_at S 0 x1) then (0 : Int32) else (s_B_isFirstOfItsTeeth_b2 S n x1 (x2 + 1))))
def s_B_isFirstOfItsTeeth (S : St) (a1 : Int32) : Int32 := (s_B_isFirstOfItsTeeth_b2 S ((a1).toInt.toNat + 1) a1 (0 : Int32))
theorem z_B_isFirstOfItsTeeth_b2 (S : St) (n : Nat) (x1 : Int32) (x2 : Int32) : (s_B_isFirstOfItsTeeth_b2 S n x1 x2) = 0 ∨ (s_B_isFirstOfItsTeeth_b2 S n x1 x2) = 1 := by
  induction n generalizing x1 x2 with
  | zero => exact Or.inl rfl
  | succ n ih => rw [s_B_isFirstOfItsTeeth_b2]; exact (ite_z (Or.inr rfl) (ite_z (Or.inl rfl) (ih x1 (x2 + 1))))
theorem z_B_isFirstOfItsTeeth (S : St) (a1 : Int32) : (s_B_isFirstOfItsTeeth S a1) = 0 ∨ (s_B_isFirstOfItsTeeth S a1) = 1 := by rw [s_B_isFirstOfItsTeeth]; exact (z_B_isFirstOfItsTeeth_b2 S ((a1).toInt.toNat + 1) a1 (0 : Int32))
set_option maxRecDepth 20000 in
theorem c_B_isFirstOfItsTeeth (l : Launch) (E : Cx) (ad : Nat → Nat) (X : va_W) (S : St) (a1 : Int32) : Met l y_B_isFirstOfItsTeeth (Cond.code y_B_isFirstOfItsTeeth b_B_isFirstOfItsTeeth 3 (some .boolean) :: TB) (rk 1 21) (va_Pc [.ref (ad 40), .int a1] (preR E (wb E ad S ++ X))) (vp_Si (fun r => r = (s_B_isFirstOfItsTeeth S a1))) 0 0 (fun _ => False) := by
  refine w_roI rfl (Nat.le_of_ble_eq_true rfl) (k_nb (z_B_isFirstOfItsTeeth S a1)) ?_
  intro p e s m args below meth c Q ls hx hb hml hts hown hP hK hl hend
  have hl : lv_has ls 3 [(0, .ref (ad 40)), (1, .int a1)] := hl
  have hP : va_P E.1 vwCl (wb E ad S ++ X) s.heap := hP
  have hown : s.vm.findClass R_B = some m.cls := hown
  have b2 : ∀ (n : Nat) (x1 : Int32) (x2 : Int32), (UP n x1 x2) → ∀ (ls : Array Slot), lv_has ls 3 [(0, .ref (ad 40)), (1, .int x1), (2, .int x2)] → (s_B_isFirstOfItsTeeth S a1) = s_B_isFirstOfItsTeeth_b2 S n x1 x2 → W p l e (rk 1 21) s m args below meth c s.heap [] 0 0 Q (F0 m 2 ls []) := by
    intro n2
    induction n2 with
    | zero => intro x1 x2 hv; exact absurd hv (UP_z)
    | succ n2 ih2 =>
      intro x1 x2 hv ls hl hq
      refine lv_iload_n hx hb d_B_isFirstOfItsTeeth_2 rfl (lv_at hl 2 rfl) ?_
      refine lv_iload_n hx hb d_B_isFirstOfItsTeeth_3 rfl (lv_at hl 1 rfl) ?_
      refine lv_icmp_ge (tgt := 34) hx hb d_B_isFirstOfItsTeeth_4 (by decide) (fun c_4 => ?_) (fun c_4 => ?_)
      · refine lv_iconst (v := (1 : Int32)) hx hb d_B_isFirstOfItsTeeth_34 rfl ?_
        exact hend _ _ _ (by rw [hq, s_B_isFirstOfItsTeeth_b2, if_pos c_4]) d_B_isFirstOfItsTeeth_35
      · refine lv_aload_n hx hb d_B_isFirstOfItsTeeth_7 rfl (lv_at hl 0 rfl) ?_
        refine g_B0_teeth hx hb hts hown hK hP d_B_isFirstOfItsTeeth_8 ?_
        refine lv_iload_n hx hb d_B_isFirstOfItsTeeth_11 rfl (lv_at hl 2 rfl) ?_
        refine k_vi (rest := []) (c_N_at l E ad X S 0 (Nat.le_of_ble_eq_true rfl) x2) mi_N_at ml_B_45 hx hb hml hts hown hK hP (rvN (Nat.le_of_ble_eq_true rfl)) hl ⟨rfl, rfl⟩ ⟨(Nat.le_of_ble_eq_true rfl), (Nat.le_of_ble_eq_true rfl)⟩ ⟨Nat.zero_le _, Nat.zero_le _⟩ rfl (Nat.le_of_ble_eq_true rfl) rfl d_B_isFirstOfItsTeeth_12 ?_
        refine lv_aload_n hx hb d_B_isFirstOfItsTeeth_15 rfl (lv_at hl 0 rfl) ?_
        refine g_B0_teeth hx hb hts hown hK hP d_B_isFirstOfItsTeeth_16 ?_
        refine lv_iload_n hx hb d_B_isFirstOfItsTeeth_19 rfl (lv_at hl 1 rfl) ?_
        refine k_vi (rest := [.int (s_N_at S 0 x2)]) (c_N_at l E ad X S 0 (Nat.le_of_ble_eq_true rfl) x1) mi_N_at ml_B_45 hx hb hml hts hown hK hP (rvN (Nat.le_of_ble_eq_true rfl)) hl ⟨rfl, rfl⟩ ⟨(Nat.le_of_ble_eq_true rfl), (Nat.le_of_ble_eq_true rfl)⟩ ⟨Nat.zero_le _, Nat.zero_le _⟩ rfl (Nat.le_of_ble_eq_true rfl) rfl d_B_isFirstOfItsTeeth_20 ?_
        refine lv_icmp_ne (tgt := 28) hx hb d_B_isFirstOfItsTeeth_23 (by decide) (fun c_23 => ?_) (fun c_23 => ?_)
        · refine lv_iinc (v := (x2 + 1)) (lv' := [(2, .int (x2 + 1)), (0, .ref (ad 40)), (1, .int x1)]) hx hb d_B_isFirstOfItsTeeth_28 hl (k := 2) rfl rfl (by decide) rfl (fun ls hl => ?_)
          refine lv_goto (tgt := 2) hx hb d_B_isFirstOfItsTeeth_31 (by decide) ?_
          exact ih2 x1 (x2 + 1) (UP_up hv c_4) ls (lv_sub hl [1, 2, 0] rfl) (by rw [hq, s_B_isFirstOfItsTeeth_b2, if_neg c_4, if_neg c_23])
        · refine lv_iconst (v := (0 : Int32)) hx hb d_B_isFirstOfItsTeeth_26 rfl ?_
          exact hend _ _ _ (by rw [hq, s_B_isFirstOfItsTeeth_b2, if_neg c_4, if_pos c_23]) d_B_isFirstOfItsTeeth_27
  refine lv_iconst (v := (0 : Int32)) hx hb d_B_isFirstOfItsTeeth_0 rfl ?_
  refine lv_istore_n (lv' := [(2, .int (0 : Int32)), (0, .ref (ad 40)), (1, .int a1)]) hx hb d_B_isFirstOfItsTeeth_1 rfl hl (by decide) rfl (fun ls hl => ?_)
  exact b2 ((a1).toInt.toNat + 1) a1 (0 : Int32) (UP_in (by decide)) ls (lv_sub hl [1, 2, 0] rfl) (by rw [s_B_isFirstOfItsTeeth])

def s_B_is (S : St) (a1 : Int32) (a2 : Int32) : Int32 := (if a2 = 0 then (s_B_isUndercut S a1) else (if a2 = 1 then (s_B_isPointed S a1) else (if a2 = 2 then (s_B_isRing S a1) else (s_B_isFirstOfItsTeeth S a1))))
theorem z_B_is (S : St) (a1 : Int32) (a2 : Int32) : (s_B_is S a1 a2) = 0 ∨ (s_B_is S a1 a2) = 1 := by rw [s_B_is]; exact (ite_z (z_B_isUndercut S a1) (ite_z (z_B_isPointed S a1) (ite_z (z_B_isRing S a1) (z_B_isFirstOfItsTeeth S a1))))
set_option maxRecDepth 20000 in
theorem c_B_is (l : Launch) (E : Cx) (ad : Nat → Nat) (X : va_W) (S : St) (a1 : Int32) (a2 : Int32) : Met l y_B_is (Cond.code y_B_is b_B_is 3 (some .boolean) :: TB) (rk 3 63) (va_Pc [.ref (ad 40), .int a1, .int a2] (preR E (wb E ad S ++ X))) (vp_Si (fun r => r = (s_B_is S a1 a2))) 0 0 (fun _ => False) := by
  refine w_roI rfl (Nat.le_of_ble_eq_true rfl) (k_nb (z_B_is S a1 a2)) ?_
  intro p e s m args below meth c Q ls hx hb hml hts hown hP hK hl hend
  have hl : lv_has ls 3 [(0, .ref (ad 40)), (1, .int a1), (2, .int a2)] := hl
  have hP : va_P E.1 vwCl (wb E ad S ++ X) s.heap := hP
  have hown : s.vm.findClass R_B = some m.cls := hown
  refine lv_iload_n hx hb d_B_is_0 rfl (lv_at hl 2 rfl) ?_
  by_cases c_1_0 : a2 = (0 : Int32)
  · refine lv_tableIn (x := a2) (off := 27) (tgt := 28) hx hb d_B_is_1 (by rw [c_1_0]; decide) (by rw [c_1_0]; decide) (by rw [c_1_0]; rfl) (by decide) ?_
    refine lv_aload_n hx hb d_B_is_28 rfl (lv_at hl 0 rfl) ?_
    refine lv_iload_n hx hb d_B_is_29 rfl (lv_at hl 1 rfl) ?_
    refine k_vi (rest := []) (c_B_isUndercut l E ad X S a1) mi_B_isUndercut ml_B_89 hx hb hml hts hown hK hP rvB0 hl ⟨rfl, rfl⟩ ⟨(Nat.le_of_ble_eq_true rfl), (Nat.le_of_ble_eq_true rfl)⟩ ⟨Nat.zero_le _, Nat.zero_le _⟩ rfl (Nat.le_of_ble_eq_true rfl) rfl d_B_is_30 ?_
    exact hend _ _ _ (by rw [s_B_is, if_pos c_1_0]) d_B_is_33
  by_cases c_1_1 : a2 = (1 : Int32)
  · refine lv_tableIn (x := a2) (off := 33) (tgt := 34) hx hb d_B_is_1 (by rw [c_1_1]; decide) (by rw [c_1_1]; decide) (by rw [c_1_1]; rfl) (by decide) ?_
    refine lv_aload_n hx hb d_B_is_34 rfl (lv_at hl 0 rfl) ?_
    refine lv_iload_n hx hb d_B_is_35 rfl (lv_at hl 1 rfl) ?_
    refine k_vi (rest := []) (c_B_isPointed l E ad X S a1) mi_B_isPointed ml_B_92 hx hb hml hts hown hK hP rvB0 hl ⟨rfl, rfl⟩ ⟨(Nat.le_of_ble_eq_true rfl), (Nat.le_of_ble_eq_true rfl)⟩ ⟨Nat.zero_le _, Nat.zero_le _⟩ rfl (Nat.le_of_ble_eq_true rfl) rfl d_B_is_36 ?_
    exact hend _ _ _ (by rw [s_B_is, if_neg c_1_0, if_pos c_1_1]) d_B_is_39
  by_cases c_1_2 : a2 = (2 : Int32)
  · refine lv_tableIn (x := a2) (off := 39) (tgt := 40) hx hb d_B_is_1 (by rw [c_1_2]; decide) (by rw [c_1_2]; decide) (by rw [c_1_2]; rfl) (by decide) ?_
    refine lv_aload_n hx hb d_B_is_40 rfl (lv_at hl 0 rfl) ?_
    refine lv_iload_n hx hb d_B_is_41 rfl (lv_at hl 1 rfl) ?_
    refine k_vi (rest := []) (c_B_isRing l E ad X S a1) mi_B_isRing ml_B_104 hx hb hml hts hown hK hP rvB0 hl ⟨rfl, rfl⟩ ⟨(Nat.le_of_ble_eq_true rfl), (Nat.le_of_ble_eq_true rfl)⟩ ⟨Nat.zero_le _, Nat.zero_le _⟩ rfl (Nat.le_of_ble_eq_true rfl) rfl d_B_is_42 ?_
    exact hend _ _ _ (by rw [s_B_is, if_neg c_1_0, if_neg c_1_1, if_pos c_1_2]) d_B_is_45
  have kd : W p l e (rk 3 63) s m args below meth c s.heap [] 0 0 Q (F0 m 46 ls []) := by
    refine lv_aload_n hx hb d_B_is_46 rfl (lv_at hl 0 rfl) ?_
    refine lv_iload_n hx hb d_B_is_47 rfl (lv_at hl 1 rfl) ?_
    refine k_vi (rest := []) (c_B_isFirstOfItsTeeth l E ad X S a1) mi_B_isFirstOfItsTeeth ml_B_113 hx hb hml hts hown hK hP rvB0 hl ⟨rfl, rfl⟩ ⟨(Nat.le_of_ble_eq_true rfl), (Nat.le_of_ble_eq_true rfl)⟩ ⟨Nat.zero_le _, Nat.zero_le _⟩ rfl (Nat.le_of_ble_eq_true rfl) rfl d_B_is_48 ?_
    exact hend _ _ _ (by rw [s_B_is, if_neg c_1_0, if_neg c_1_1, if_neg c_1_2]) d_B_is_51
  have n_0 := lv_neT c_1_0 (a := 0) rfl
  have n_1 := lv_neT c_1_1 (a := 1) rfl
  have n_2 := lv_neT c_1_2 (a := 2) rfl
  exact lv_tableOut (x := a2) (tgt := 46) hx hb d_B_is_1 (by omega) (by decide) kd

def s_B_wheelsThatAre_b4 (S : St) : Nat → Int32 → Int32 → Int32 → Int32
  | 0, _, _, _ => 0
  | n + 1, x1, x2, x3 => (if (s_N_size S 0) ≤ x3 then x2 else (if (s_B_is S x3 x1) = 0 then (s_B_wheelsThatAre_b4 S n x1 x2 (x3 + 1)) else (s_B_wheelsThatAre_b4 S n x1 (x2 + 1) (x3 + 1))))
def s_B_wheelsThatAre (S : St) (a1 : Int32) : Int32 := (s_B_wheelsThatAre_b4 S ((S.1 0).toInt.toNat + 1) a1 (0 : Int32) (0 : Int32))
set_option maxRecDepth 20000 in
theorem c_B_wheelsThatAre (l : Launch) (E : Cx) (ad : Nat → Nat) (X : va_W) (S : St) (a1 : Int32) : Met l y_B_wheelsThatAre (Cond.code y_B_wheelsThatAre b_B_wheelsThatAre 4 (some .int) :: TB) (rk 4 85) (va_Pc [.ref (ad 40), .int a1] (preR E (wb E ad S ++ X))) (vp_Si (fun r => r = (s_B_wheelsThatAre S a1))) 0 0 (fun _ => False) := by
  refine w_roI rfl (Nat.le_of_ble_eq_true rfl) rfl ?_
  intro p e s m args below meth c Q ls hx hb hml hts hown hP hK hl hend
  have hl : lv_has ls 4 [(0, .ref (ad 40)), (1, .int a1)] := hl
  have hP : va_P E.1 vwCl (wb E ad S ++ X) s.heap := hP
  have hown : s.vm.findClass R_B = some m.cls := hown
  have b4 : ∀ (n : Nat) (x1 : Int32) (x2 : Int32) (x3 : Int32), (UP n (S.1 0) x3) → ∀ (ls : Array Slot), lv_has ls 4 [(0, .ref (ad 40)), (1, .int x1), (2, .int x2), (3, .int x3)] → (s_B_wheelsThatAre S a1) = s_B_wheelsThatAre_b4 S n x1 x2 x3 → W p l e (rk 4 85) s m args below meth c s.heap [] 0 0 Q (F0 m 4 ls []) := by
    intro n4
    induction n4 with
    | zero => intro x1 x2 x3 hv; exact absurd hv (UP_z)
    | succ n4 ih4 =>
      intro x1 x2 x3 hv ls hl hq
      refine lv_iload_n hx hb d_B_wheelsThatAre_4 rfl (lv_at hl 3 rfl) ?_
      refine lv_aload_n hx hb d_B_wheelsThatAre_5 rfl (lv_at hl 0 rfl) ?_
      refine g_B0_teeth hx hb hts hown hK hP d_B_wheelsThatAre_6 ?_
      refine k_vi (rest := [.int x3]) (c_N_size l E ad X S 0 (Nat.le_of_ble_eq_true rfl)) mi_N_size ml_B_37 hx hb hml hts hown hK hP (rvN (Nat.le_of_ble_eq_true rfl)) hl ⟨rfl, rfl⟩ ⟨(Nat.le_of_ble_eq_true rfl), (Nat.le_of_ble_eq_true rfl)⟩ ⟨Nat.zero_le _, Nat.zero_le _⟩ rfl (Nat.le_of_ble_eq_true rfl) rfl d_B_wheelsThatAre_9 ?_
      refine lv_icmp_ge (tgt := 33) hx hb d_B_wheelsThatAre_12 (by decide) (fun c_12 => ?_) (fun c_12 => ?_)
      · refine lv_iload_n hx hb d_B_wheelsThatAre_33 rfl (lv_at hl 2 rfl) ?_
        exact hend _ _ _ (by rw [hq, s_B_wheelsThatAre_b4, if_pos c_12]) d_B_wheelsThatAre_34
      · refine lv_aload_n hx hb d_B_wheelsThatAre_15 rfl (lv_at hl 0 rfl) ?_
        refine lv_iload_n hx hb d_B_wheelsThatAre_16 rfl (lv_at hl 3 rfl) ?_
        refine lv_iload_n hx hb d_B_wheelsThatAre_17 rfl (lv_at hl 1 rfl) ?_
        refine k_vi (rest := []) (c_B_is l E ad X S x3 x1) mi_B_is ml_B_110 hx hb hml hts hown hK hP rvB0 hl ⟨rfl, rfl⟩ ⟨(Nat.le_of_ble_eq_true rfl), (Nat.le_of_ble_eq_true rfl)⟩ ⟨Nat.zero_le _, Nat.zero_le _⟩ rfl (Nat.le_of_ble_eq_true rfl) rfl d_B_wheelsThatAre_18 ?_
        refine lv_if_eq (tgt := 27) hx hb d_B_wheelsThatAre_21 (by decide) (fun c_21 => ?_) (fun c_21 => ?_)
        · refine lv_iinc (v := (x3 + 1)) (lv' := [(3, .int (x3 + 1)), (0, .ref (ad 40)), (1, .int x1), (2, .int x2)]) hx hb d_B_wheelsThatAre_27 hl (k := 3) rfl rfl (by decide) rfl (fun ls hl => ?_)
          refine lv_goto (tgt := 4) hx hb d_B_wheelsThatAre_30 (by decide) ?_
          exact ih4 x1 x2 (x3 + 1) (UP_up hv c_12) ls (lv_sub hl [1, 2, 3, 0] rfl) (by rw [hq, s_B_wheelsThatAre_b4, if_neg c_12, if_pos c_21])
        · refine lv_iinc (v := (x2 + 1)) (lv' := [(2, .int (x2 + 1)), (0, .ref (ad 40)), (1, .int x1), (3, .int x3)]) hx hb d_B_wheelsThatAre_24 hl (k := 2) rfl rfl (by decide) rfl (fun ls hl => ?_)
          refine lv_iinc (v := (x3 + 1)) (lv' := [(3, .int (x3 + 1)), (2, .int (x2 + 1)), (0, .ref (ad 40)), (1, .int x1)]) hx hb d_B_wheelsThatAre_27 hl (k := 3) rfl rfl (by decide) rfl (fun ls hl => ?_)
          refine lv_goto (tgt := 4) hx hb d_B_wheelsThatAre_30 (by decide) ?_
          exact ih4 x1 (x2 + 1) (x3 + 1) (UP_up hv c_12) ls (lv_sub hl [2, 3, 1, 0] rfl) (by rw [hq, s_B_wheelsThatAre_b4, if_neg c_12, if_neg c_21])
  refine lv_iconst (v := (0 : Int32)) hx hb d_B_wheelsThatAre_0 rfl ?_
  refine lv_istore_n (lv' := [(2, .int (0 : Int32)), (0, .ref (ad 40)), (1, .int a1)]) hx hb d_B_wheelsThatAre_1 rfl hl (by decide) rfl (fun ls hl => ?_)
  refine lv_iconst (v := (0 : Int32)) hx hb d_B_wheelsThatAre_2 rfl ?_
  refine lv_istore_n (lv' := [(3, .int (0 : Int32)), (2, .int (0 : Int32)), (0, .ref (ad 40)), (1, .int a1)]) hx hb d_B_wheelsThatAre_3 rfl hl (by decide) rfl (fun ls hl => ?_)
  exact b4 ((S.1 0).toInt.toNat + 1) a1 (0 : Int32) (0 : Int32) (UP_in (by decide)) ls (lv_sub hl [2, 3, 1, 0] rfl) (by rw [s_B_wheelsThatAre])

def s_B_outwardTeeth_b4 (S : St) : Nat → Int32 → Int32 → Int32
  | 0, _, _ => 0
  | n + 1, x1, x2 => (if (s_N_size S 0) ≤ x2 then x1 else (s_B_outwardTeeth_b4 S n (x1 + (if (0 : Int32) < (s_N_at S 0 x2) then (s_N_at S 0 x2) else (0 : Int32))) (x2 + 1)))
def s_B_outwardTeeth (S : St) : Int32 := (s_B_outwardTeeth_b4 S ((S.1 0).toInt.toNat + 1) (0 : Int32) (0 : Int32))
set_option maxRecDepth 20000 in
theorem c_B_outwardTeeth (l : Launch) (E : Cx) (ad : Nat → Nat) (X : va_W) (S : St) : Met l y_B_outwardTeeth (Cond.code y_B_outwardTeeth b_B_outwardTeeth 3 (some .int) :: TB) (rk 1 21) (va_Pc [.ref (ad 40)] (preR E (wb E ad S ++ X))) (vp_Si (fun r => r = (s_B_outwardTeeth S))) 0 0 (fun _ => False) := by
  refine w_roI rfl (Nat.le_of_ble_eq_true rfl) rfl ?_
  intro p e s m args below meth c Q ls hx hb hml hts hown hP hK hl hend
  have hl : lv_has ls 3 [(0, .ref (ad 40))] := hl
  have hP : va_P E.1 vwCl (wb E ad S ++ X) s.heap := hP
  have hown : s.vm.findClass R_B = some m.cls := hown
  have b4 : ∀ (n : Nat) (x1 : Int32) (x2 : Int32), (UP n (S.1 0) x2) → ∀ (ls : Array Slot), lv_has ls 3 [(0, .ref (ad 40)), (1, .int x1), (2, .int x2)] → (s_B_outwardTeeth S) = s_B_outwardTeeth_b4 S n x1 x2 → W p l e (rk 1 21) s m args below meth c s.heap [] 0 0 Q (F0 m 4 ls []) := by
    intro n4
    induction n4 with
    | zero => intro x1 x2 hv; exact absurd hv (UP_z)
    | succ n4 ih4 =>
      intro x1 x2 hv ls hl hq
      refine lv_iload_n hx hb d_B_outwardTeeth_4 rfl (lv_at hl 2 rfl) ?_
      refine lv_aload_n hx hb d_B_outwardTeeth_5 rfl (lv_at hl 0 rfl) ?_
      refine g_B0_teeth hx hb hts hown hK hP d_B_outwardTeeth_6 ?_
      refine k_vi (rest := [.int x2]) (c_N_size l E ad X S 0 (Nat.le_of_ble_eq_true rfl)) mi_N_size ml_B_37 hx hb hml hts hown hK hP (rvN (Nat.le_of_ble_eq_true rfl)) hl ⟨rfl, rfl⟩ ⟨(Nat.le_of_ble_eq_true rfl), (Nat.le_of_ble_eq_true rfl)⟩ ⟨Nat.zero_le _, Nat.zero_le _⟩ rfl (Nat.le_of_ble_eq_true rfl) rfl d_B_outwardTeeth_9 ?_
      refine lv_icmp_ge (tgt := 36) hx hb d_B_outwardTeeth_12 (by decide) (fun c_12 => ?_) (fun c_12 => ?_)
      · refine lv_iload_n hx hb d_B_outwardTeeth_36 rfl (lv_at hl 1 rfl) ?_
        exact hend _ _ _ (by rw [hq, s_B_outwardTeeth_b4, if_pos c_12]) d_B_outwardTeeth_37
      · refine lv_iload_n hx hb d_B_outwardTeeth_15 rfl (lv_at hl 1 rfl) ?_
        refine lv_iconst (v := (0 : Int32)) hx hb d_B_outwardTeeth_16 rfl ?_
        refine lv_aload_n hx hb d_B_outwardTeeth_17 rfl (lv_at hl 0 rfl) ?_
        refine g_B0_teeth hx hb hts hown hK hP d_B_outwardTeeth_18 ?_
        refine lv_iload_n hx hb d_B_outwardTeeth_21 rfl (lv_at hl 2 rfl) ?_
        refine k_vi (rest := [.int (0 : Int32), .int x1]) (c_N_at l E ad X S 0 (Nat.le_of_ble_eq_true rfl) x2) mi_N_at ml_B_45 hx hb hml hts hown hK hP (rvN (Nat.le_of_ble_eq_true rfl)) hl ⟨rfl, rfl⟩ ⟨(Nat.le_of_ble_eq_true rfl), (Nat.le_of_ble_eq_true rfl)⟩ ⟨Nat.zero_le _, Nat.zero_le _⟩ rfl (Nat.le_of_ble_eq_true rfl) rfl d_B_outwardTeeth_22 ?_
        refine va_mmax hx hb (hml.trans hl.1.symm) hown (hts _ ml_B_116) (hts _ st_mmax) (hts _ iz_Math) (hts _ co_mmax) (Nat.le_of_ble_eq_true rfl) (Nat.le_of_ble_eq_true rfl) (Nat.zero_le _) (Nat.zero_le _) d_B_outwardTeeth_25 ?_
        refine lv_iadd hx hb d_B_outwardTeeth_28 ?_
        refine lv_istore_n (lv' := [(1, .int (x1 + (if (0 : Int32) < (s_N_at S 0 x2) then (s_N_at S 0 x2) else (0 : Int32)))), (0, .ref (ad 40)), (2, .int x2)]) hx hb d_B_outwardTeeth_29 rfl hl (by decide) rfl (fun ls hl => ?_)
        refine lv_iinc (v := (x2 + 1)) (lv' := [(2, .int (x2 + 1)), (1, .int (x1 + (if (0 : Int32) < (s_N_at S 0 x2) then (s_N_at S 0 x2) else (0 : Int32)))), (0, .ref (ad 40))]) hx hb d_B_outwardTeeth_30 hl (k := 2) rfl rfl (by decide) rfl (fun ls hl => ?_)
        refine lv_goto (tgt := 4) hx hb d_B_outwardTeeth_33 (by decide) ?_
        exact ih4 (x1 + (if (0 : Int32) < (s_N_at S 0 x2) then (s_N_at S 0 x2) else (0 : Int32))) (x2 + 1) (UP_up hv c_12) ls (lv_sub hl [2, 1, 0] rfl) (by rw [hq, s_B_outwardTeeth_b4, if_neg c_12])
  refine lv_iconst (v := (0 : Int32)) hx hb d_B_outwardTeeth_0 rfl ?_
  refine lv_istore_n (lv' := [(1, .int (0 : Int32)), (0, .ref (ad 40))]) hx hb d_B_outwardTeeth_1 rfl hl (by decide) rfl (fun ls hl => ?_)
  refine lv_iconst (v := (0 : Int32)) hx hb d_B_outwardTeeth_2 rfl ?_
  refine lv_istore_n (lv' := [(2, .int (0 : Int32)), (1, .int (0 : Int32)), (0, .ref (ad 40))]) hx hb d_B_outwardTeeth_3 rfl hl (by decide) rfl (fun ls hl => ?_)
  exact b4 ((S.1 0).toInt.toNat + 1) (0 : Int32) (0 : Int32) (UP_in (by decide)) ls (lv_sub hl [2, 1, 0] rfl) (by rw [s_B_outwardTeeth])
