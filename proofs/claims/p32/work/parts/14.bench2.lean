/-! by program (wip/p32/cls.py) -/
def s_B_hasRing (S : St) (a1 : Int32) (a2 : Int32) : Int32 := (if (s_B_isRing S a1) = 0 then (if (s_B_isRing S a2) = 0 then (0 : Int32) else (1 : Int32)) else (1 : Int32))
theorem z_B_hasRing (S : St) (a1 : Int32) (a2 : Int32) : (s_B_hasRing S a1 a2) = 0 ∨ (s_B_hasRing S a1 a2) = 1 := by rw [s_B_hasRing]; exact (ite_z (ite_z (Or.inl rfl) (Or.inr rfl)) (Or.inr rfl))
set_option maxRecDepth 20000 in
theorem c_B_hasRing (l : Launch) (E : Cx) (ad : Nat → Nat) (X : va_W) (S : St) (a1 : Int32) (a2 : Int32) : Met l y_B_hasRing (Cond.code y_B_hasRing b_B_hasRing 3 (some .boolean) :: TB) (rk 2 42) (va_Pc [.ref (ad 40), .int a1, .int a2] (preR E (wb E ad S ++ X))) (vp_Si (fun r => r = (s_B_hasRing S a1 a2))) 0 0 (fun _ => False) := by
  refine w_roI rfl (Nat.le_of_ble_eq_true rfl) (k_nb (z_B_hasRing S a1 a2)) ?_
  intro p e s m args below meth c Q ls hx hb hml hts hown hP hK hl hend
  have hl : lv_has ls 3 [(0, .ref (ad 40)), (1, .int a1), (2, .int a2)] := hl
  have hP : va_P E.1 vwCl (wb E ad S ++ X) s.heap := hP
  have hown : s.vm.findClass R_B = some m.cls := hown
  refine lv_aload_n hx hb d_B_hasRing_0 rfl (lv_at hl 0 rfl) ?_
  refine lv_iload_n hx hb d_B_hasRing_1 rfl (lv_at hl 1 rfl) ?_
  refine k_vi (rest := []) (c_B_isRing l E ad X S a1) mi_B_isRing ml_B_104 hx hb hml hts hown hK hP rvB0 hl ⟨rfl, rfl⟩ ⟨(Nat.le_of_ble_eq_true rfl), (Nat.le_of_ble_eq_true rfl)⟩ ⟨Nat.zero_le _, Nat.zero_le _⟩ rfl (Nat.le_of_ble_eq_true rfl) rfl d_B_hasRing_2 ?_
  refine lv_if_ne (tgt := 16) hx hb d_B_hasRing_5 (by decide) (fun c_5 => ?_) (fun c_5 => ?_)
  · refine lv_iconst (v := (1 : Int32)) hx hb d_B_hasRing_16 rfl ?_
    refine lv_goto (tgt := 21) hx hb d_B_hasRing_17 (by decide) ?_
    exact hend _ _ _ (by rw [s_B_hasRing, if_neg c_5]) d_B_hasRing_21
  · refine lv_aload_n hx hb d_B_hasRing_8 rfl (lv_at hl 0 rfl) ?_
    refine lv_iload_n hx hb d_B_hasRing_9 rfl (lv_at hl 2 rfl) ?_
    refine k_vi (rest := []) (c_B_isRing l E ad X S a2) mi_B_isRing ml_B_104 hx hb hml hts hown hK hP rvB0 hl ⟨rfl, rfl⟩ ⟨(Nat.le_of_ble_eq_true rfl), (Nat.le_of_ble_eq_true rfl)⟩ ⟨Nat.zero_le _, Nat.zero_le _⟩ rfl (Nat.le_of_ble_eq_true rfl) rfl d_B_hasRing_10 ?_
    refine lv_if_eq (tgt := 20) hx hb d_B_hasRing_13 (by decide) (fun c_13 => ?_) (fun c_13 => ?_)
    · refine lv_iconst (v := (0 : Int32)) hx hb d_B_hasRing_20 rfl ?_
      exact hend _ _ _ (by rw [s_B_hasRing, if_pos c_5, if_pos c_13]) d_B_hasRing_21
    · refine lv_iconst (v := (1 : Int32)) hx hb d_B_hasRing_16 rfl ?_
      refine lv_goto (tgt := 21) hx hb d_B_hasRing_17 (by decide) ?_
      exact hend _ _ _ (by rw [s_B_hasRing, if_pos c_5, if_neg c_13]) d_B_hasRing_21

def s_B_canPair (S : St) (a1 : Int32) (a2 : Int32) : Int32 := (if (s_B_hasWheel S a1) = 0 then (0 : Int32) else (if (s_B_hasWheel S a2) = 0 then (0 : Int32) else (if a1 = a2 then (0 : Int32) else (if (s_B_isRing S a1) = 0 then (1 : Int32) else (if (s_B_isRing S a2) = 0 then (1 : Int32) else (0 : Int32))))))
theorem z_B_canPair (S : St) (a1 : Int32) (a2 : Int32) : (s_B_canPair S a1 a2) = 0 ∨ (s_B_canPair S a1 a2) = 1 := by rw [s_B_canPair]; exact (ite_z (Or.inl rfl) (ite_z (Or.inl rfl) (ite_z (Or.inl rfl) (ite_z (Or.inr rfl) (ite_z (Or.inr rfl) (Or.inl rfl))))))
set_option maxRecDepth 20000 in
theorem c_B_canPair (l : Launch) (E : Cx) (ad : Nat → Nat) (X : va_W) (S : St) (a1 : Int32) (a2 : Int32) : Met l y_B_canPair (Cond.code y_B_canPair b_B_canPair 3 (some .boolean) :: TB) (rk 2 42) (va_Pc [.ref (ad 40), .int a1, .int a2] (preR E (wb E ad S ++ X))) (vp_Si (fun r => r = (s_B_canPair S a1 a2))) 0 0 (fun _ => False) := by
  refine w_roI rfl (Nat.le_of_ble_eq_true rfl) (k_nb (z_B_canPair S a1 a2)) ?_
  intro p e s m args below meth c Q ls hx hb hml hts hown hP hK hl hend
  have hl : lv_has ls 3 [(0, .ref (ad 40)), (1, .int a1), (2, .int a2)] := hl
  have hP : va_P E.1 vwCl (wb E ad S ++ X) s.heap := hP
  have hown : s.vm.findClass R_B = some m.cls := hown
  refine lv_aload_n hx hb d_B_canPair_0 rfl (lv_at hl 0 rfl) ?_
  refine lv_iload_n hx hb d_B_canPair_1 rfl (lv_at hl 1 rfl) ?_
  refine k_vi (rest := []) (c_B_hasWheel l E ad X S a1) mi_B_hasWheel ml_B_121 hx hb hml hts hown hK hP rvB0 hl ⟨rfl, rfl⟩ ⟨(Nat.le_of_ble_eq_true rfl), (Nat.le_of_ble_eq_true rfl)⟩ ⟨Nat.zero_le _, Nat.zero_le _⟩ rfl (Nat.le_of_ble_eq_true rfl) rfl d_B_canPair_2 ?_
  refine lv_if_eq (tgt := 41) hx hb d_B_canPair_5 (by decide) (fun c_5 => ?_) (fun c_5 => ?_)
  · refine lv_iconst (v := (0 : Int32)) hx hb d_B_canPair_41 rfl ?_
    exact hend _ _ _ (by rw [s_B_canPair, if_pos c_5]) d_B_canPair_42
  · refine lv_aload_n hx hb d_B_canPair_8 rfl (lv_at hl 0 rfl) ?_
    refine lv_iload_n hx hb d_B_canPair_9 rfl (lv_at hl 2 rfl) ?_
    refine k_vi (rest := []) (c_B_hasWheel l E ad X S a2) mi_B_hasWheel ml_B_121 hx hb hml hts hown hK hP rvB0 hl ⟨rfl, rfl⟩ ⟨(Nat.le_of_ble_eq_true rfl), (Nat.le_of_ble_eq_true rfl)⟩ ⟨Nat.zero_le _, Nat.zero_le _⟩ rfl (Nat.le_of_ble_eq_true rfl) rfl d_B_canPair_10 ?_
    refine lv_if_eq (tgt := 41) hx hb d_B_canPair_13 (by decide) (fun c_13 => ?_) (fun c_13 => ?_)
    · refine lv_iconst (v := (0 : Int32)) hx hb d_B_canPair_41 rfl ?_
      exact hend _ _ _ (by rw [s_B_canPair, if_neg c_5, if_pos c_13]) d_B_canPair_42
    · refine lv_iload_n hx hb d_B_canPair_16 rfl (lv_at hl 1 rfl) ?_
      refine lv_iload_n hx hb d_B_canPair_17 rfl (lv_at hl 2 rfl) ?_
      refine lv_icmp_eq (tgt := 41) hx hb d_B_canPair_18 (by decide) (fun c_18 => ?_) (fun c_18 => ?_)
      · refine lv_iconst (v := (0 : Int32)) hx hb d_B_canPair_41 rfl ?_
        exact hend _ _ _ (by rw [s_B_canPair, if_neg c_5, if_neg c_13, if_pos c_18]) d_B_canPair_42
      · refine lv_aload_n hx hb d_B_canPair_21 rfl (lv_at hl 0 rfl) ?_
        refine lv_iload_n hx hb d_B_canPair_22 rfl (lv_at hl 1 rfl) ?_
        refine k_vi (rest := []) (c_B_isRing l E ad X S a1) mi_B_isRing ml_B_104 hx hb hml hts hown hK hP rvB0 hl ⟨rfl, rfl⟩ ⟨(Nat.le_of_ble_eq_true rfl), (Nat.le_of_ble_eq_true rfl)⟩ ⟨Nat.zero_le _, Nat.zero_le _⟩ rfl (Nat.le_of_ble_eq_true rfl) rfl d_B_canPair_23 ?_
        refine lv_if_eq (tgt := 37) hx hb d_B_canPair_26 (by decide) (fun c_26 => ?_) (fun c_26 => ?_)
        · refine lv_iconst (v := (1 : Int32)) hx hb d_B_canPair_37 rfl ?_
          refine lv_goto (tgt := 42) hx hb d_B_canPair_38 (by decide) ?_
          exact hend _ _ _ (by rw [s_B_canPair, if_neg c_5, if_neg c_13, if_neg c_18, if_pos c_26]) d_B_canPair_42
        · refine lv_aload_n hx hb d_B_canPair_29 rfl (lv_at hl 0 rfl) ?_
          refine lv_iload_n hx hb d_B_canPair_30 rfl (lv_at hl 2 rfl) ?_
          refine k_vi (rest := []) (c_B_isRing l E ad X S a2) mi_B_isRing ml_B_104 hx hb hml hts hown hK hP rvB0 hl ⟨rfl, rfl⟩ ⟨(Nat.le_of_ble_eq_true rfl), (Nat.le_of_ble_eq_true rfl)⟩ ⟨Nat.zero_le _, Nat.zero_le _⟩ rfl (Nat.le_of_ble_eq_true rfl) rfl d_B_canPair_31 ?_
          refine lv_if_ne (tgt := 41) hx hb d_B_canPair_34 (by decide) (fun c_34 => ?_) (fun c_34 => ?_)
          · refine lv_iconst (v := (0 : Int32)) hx hb d_B_canPair_41 rfl ?_
            exact hend _ _ _ (by rw [s_B_canPair, if_neg c_5, if_neg c_13, if_neg c_18, if_neg c_26, if_neg c_34]) d_B_canPair_42
          · refine lv_iconst (v := (1 : Int32)) hx hb d_B_canPair_37 rfl ?_
            refine lv_goto (tgt := 42) hx hb d_B_canPair_38 (by decide) ?_
            exact hend _ _ _ (by rw [s_B_canPair, if_neg c_5, if_neg c_13, if_neg c_18, if_neg c_26, if_pos c_34]) d_B_canPair_42

def s_B_clashes (S : St) (a1 : Int32) (a2 : Int32) : Int32 := (if (s_B_hasRing S a1 a2) = 0 then (0 : Int32) else (if ((s_N_at S 0 a1) + (s_N_at S 0 a2)) ≤ (-8 : Int32) then (0 : Int32) else (1 : Int32)))
theorem z_B_clashes (S : St) (a1 : Int32) (a2 : Int32) : (s_B_clashes S a1 a2) = 0 ∨ (s_B_clashes S a1 a2) = 1 := by rw [s_B_clashes]; exact (ite_z (Or.inl rfl) (ite_z (Or.inl rfl) (Or.inr rfl)))
set_option maxRecDepth 20000 in
theorem c_B_clashes (l : Launch) (E : Cx) (ad : Nat → Nat) (X : va_W) (S : St) (a1 : Int32) (a2 : Int32) : Met l y_B_clashes (Cond.code y_B_clashes b_B_clashes 3 (some .boolean) :: TB) (rk 3 64) (va_Pc [.ref (ad 40), .int a1, .int a2] (preR E (wb E ad S ++ X))) (vp_Si (fun r => r = (s_B_clashes S a1 a2))) 0 0 (fun _ => False) := by
  refine w_roI rfl (Nat.le_of_ble_eq_true rfl) (k_nb (z_B_clashes S a1 a2)) ?_
  intro p e s m args below meth c Q ls hx hb hml hts hown hP hK hl hend
  have hl : lv_has ls 3 [(0, .ref (ad 40)), (1, .int a1), (2, .int a2)] := hl
  have hP : va_P E.1 vwCl (wb E ad S ++ X) s.heap := hP
  have hown : s.vm.findClass R_B = some m.cls := hown
  refine lv_aload_n hx hb d_B_clashes_0 rfl (lv_at hl 0 rfl) ?_
  refine lv_iload_n hx hb d_B_clashes_1 rfl (lv_at hl 1 rfl) ?_
  refine lv_iload_n hx hb d_B_clashes_2 rfl (lv_at hl 2 rfl) ?_
  refine k_vi (rest := []) (c_B_hasRing l E ad X S a1 a2) mi_B_hasRing ml_B_124 hx hb hml hts hown hK hP rvB0 hl ⟨rfl, rfl⟩ ⟨(Nat.le_of_ble_eq_true rfl), (Nat.le_of_ble_eq_true rfl)⟩ ⟨Nat.zero_le _, Nat.zero_le _⟩ rfl (Nat.le_of_ble_eq_true rfl) rfl d_B_clashes_3 ?_
  refine lv_if_eq (tgt := 35) hx hb d_B_clashes_6 (by decide) (fun c_6 => ?_) (fun c_6 => ?_)
  · refine lv_iconst (v := (0 : Int32)) hx hb d_B_clashes_35 rfl ?_
    exact hend _ _ _ (by rw [s_B_clashes, if_pos c_6]) d_B_clashes_36
  · refine lv_aload_n hx hb d_B_clashes_9 rfl (lv_at hl 0 rfl) ?_
    refine g_B0_teeth hx hb hts hown hK hP d_B_clashes_10 ?_
    refine lv_iload_n hx hb d_B_clashes_13 rfl (lv_at hl 1 rfl) ?_
    refine k_vi (rest := []) (c_N_at l E ad X S 0 (Nat.le_of_ble_eq_true rfl) a1) mi_N_at ml_B_45 hx hb hml hts hown hK hP (rvN (Nat.le_of_ble_eq_true rfl)) hl ⟨rfl, rfl⟩ ⟨(Nat.le_of_ble_eq_true rfl), (Nat.le_of_ble_eq_true rfl)⟩ ⟨Nat.zero_le _, Nat.zero_le _⟩ rfl (Nat.le_of_ble_eq_true rfl) rfl d_B_clashes_14 ?_
    refine lv_aload_n hx hb d_B_clashes_17 rfl (lv_at hl 0 rfl) ?_
    refine g_B0_teeth hx hb hts hown hK hP d_B_clashes_18 ?_
    refine lv_iload_n hx hb d_B_clashes_21 rfl (lv_at hl 2 rfl) ?_
    refine k_vi (rest := [.int (s_N_at S 0 a1)]) (c_N_at l E ad X S 0 (Nat.le_of_ble_eq_true rfl) a2) mi_N_at ml_B_45 hx hb hml hts hown hK hP (rvN (Nat.le_of_ble_eq_true rfl)) hl ⟨rfl, rfl⟩ ⟨(Nat.le_of_ble_eq_true rfl), (Nat.le_of_ble_eq_true rfl)⟩ ⟨Nat.zero_le _, Nat.zero_le _⟩ rfl (Nat.le_of_ble_eq_true rfl) rfl d_B_clashes_22 ?_
    refine lv_iadd hx hb d_B_clashes_25 ?_
    refine lv_bipush (v := (-8 : Int32)) hx hb d_B_clashes_26 rfl ?_
    refine lv_icmp_le (tgt := 35) hx hb d_B_clashes_28 (by decide) (fun c_28 => ?_) (fun c_28 => ?_)
    · refine lv_iconst (v := (0 : Int32)) hx hb d_B_clashes_35 rfl ?_
      exact hend _ _ _ (by rw [s_B_clashes, if_neg c_6, if_pos c_28]) d_B_clashes_36
    · refine lv_iconst (v := (1 : Int32)) hx hb d_B_clashes_31 rfl ?_
      refine lv_goto (tgt := 36) hx hb d_B_clashes_32 (by decide) ?_
      exact hend _ _ _ (by rw [s_B_clashes, if_neg c_6, if_neg c_28]) d_B_clashes_36

def s_B_arm (S : St) (a1 : Int32) : Int32 := (((50 : Int32) * (if 0 ≤ (s_N_at S 0 a1) then (s_N_at S 0 a1) else 0 - (s_N_at S 0 a1))) + (s_N_at S 1 a1))
set_option maxRecDepth 20000 in
theorem c_B_arm (l : Launch) (E : Cx) (ad : Nat → Nat) (X : va_W) (S : St) (a1 : Int32) : Met l y_B_arm (Cond.code y_B_arm b_B_arm 2 (some .int) :: TB) (rk 1 21) (va_Pc [.ref (ad 40), .int a1] (preR E (wb E ad S ++ X))) (vp_Si (fun r => r = (s_B_arm S a1))) 0 0 (fun _ => False) := by
  refine w_roI rfl (Nat.le_of_ble_eq_true rfl) rfl ?_
  intro p e s m args below meth c Q ls hx hb hml hts hown hP hK hl hend
  have hl : lv_has ls 2 [(0, .ref (ad 40)), (1, .int a1)] := hl
  have hP : va_P E.1 vwCl (wb E ad S ++ X) s.heap := hP
  have hown : s.vm.findClass R_B = some m.cls := hown
  refine lv_bipush (v := (50 : Int32)) hx hb d_B_arm_0 rfl ?_
  refine lv_aload_n hx hb d_B_arm_2 rfl (lv_at hl 0 rfl) ?_
  refine g_B0_teeth hx hb hts hown hK hP d_B_arm_3 ?_
  refine lv_iload_n hx hb d_B_arm_6 rfl (lv_at hl 1 rfl) ?_
  refine k_vi (rest := [.int (50 : Int32)]) (c_N_at l E ad X S 0 (Nat.le_of_ble_eq_true rfl) a1) mi_N_at ml_B_45 hx hb hml hts hown hK hP (rvN (Nat.le_of_ble_eq_true rfl)) hl ⟨rfl, rfl⟩ ⟨(Nat.le_of_ble_eq_true rfl), (Nat.le_of_ble_eq_true rfl)⟩ ⟨Nat.zero_le _, Nat.zero_le _⟩ rfl (Nat.le_of_ble_eq_true rfl) rfl d_B_arm_7 ?_
  refine va_mabs hx hb (hml.trans hl.1.symm) hown (hts _ ml_B_127) (hts _ st_mabs) (hts _ iz_Math) (hts _ co_mabs) (Nat.le_of_ble_eq_true rfl) (Nat.le_of_ble_eq_true rfl) (Nat.zero_le _) (Nat.zero_le _) d_B_arm_10 ?_
  refine lv_imul hx hb d_B_arm_13 ?_
  refine lv_aload_n hx hb d_B_arm_14 rfl (lv_at hl 0 rfl) ?_
  refine g_B0_shifts hx hb hts hown hK hP d_B_arm_15 ?_
  refine lv_iload_n hx hb d_B_arm_18 rfl (lv_at hl 1 rfl) ?_
  refine k_vi (rest := [.int ((50 : Int32) * (if 0 ≤ (s_N_at S 0 a1) then (s_N_at S 0 a1) else 0 - (s_N_at S 0 a1)))]) (c_N_at l E ad X S 1 (Nat.le_of_ble_eq_true rfl) a1) mi_N_at ml_B_45 hx hb hml hts hown hK hP (rvN (Nat.le_of_ble_eq_true rfl)) hl ⟨rfl, rfl⟩ ⟨(Nat.le_of_ble_eq_true rfl), (Nat.le_of_ble_eq_true rfl)⟩ ⟨Nat.zero_le _, Nat.zero_le _⟩ rfl (Nat.le_of_ble_eq_true rfl) rfl d_B_arm_19 ?_
  refine lv_iadd hx hb d_B_arm_22 ?_
  exact hend _ _ _ (by rw [s_B_arm]) d_B_arm_23

def s_B_hundredths (S : St) (a1 : Int32) (a2 : Int32) : Int32 := (if (s_B_isRing S a1) = 0 then (if (s_B_isRing S a2) = 0 then ((s_B_arm S a1) + (s_B_arm S a2)) else ((s_B_arm S a2) - (s_B_arm S a1))) else ((s_B_arm S a1) - (s_B_arm S a2)))
set_option maxRecDepth 20000 in
theorem c_B_hundredths (l : Launch) (E : Cx) (ad : Nat → Nat) (X : va_W) (S : St) (a1 : Int32) (a2 : Int32) : Met l y_B_hundredths (Cond.code y_B_hundredths b_B_hundredths 3 (some .int) :: TB) (rk 2 42) (va_Pc [.ref (ad 40), .int a1, .int a2] (preR E (wb E ad S ++ X))) (vp_Si (fun r => r = (s_B_hundredths S a1 a2))) 0 0 (fun _ => False) := by
  refine w_roI rfl (Nat.le_of_ble_eq_true rfl) rfl ?_
  intro p e s m args below meth c Q ls hx hb hml hts hown hP hK hl hend
  have hl : lv_has ls 3 [(0, .ref (ad 40)), (1, .int a1), (2, .int a2)] := hl
  have hP : va_P E.1 vwCl (wb E ad S ++ X) s.heap := hP
  have hown : s.vm.findClass R_B = some m.cls := hown
  refine lv_aload_n hx hb d_B_hundredths_0 rfl (lv_at hl 0 rfl) ?_
  refine lv_iload_n hx hb d_B_hundredths_1 rfl (lv_at hl 1 rfl) ?_
  refine k_vi (rest := []) (c_B_isRing l E ad X S a1) mi_B_isRing ml_B_104 hx hb hml hts hown hK hP rvB0 hl ⟨rfl, rfl⟩ ⟨(Nat.le_of_ble_eq_true rfl), (Nat.le_of_ble_eq_true rfl)⟩ ⟨Nat.zero_le _, Nat.zero_le _⟩ rfl (Nat.le_of_ble_eq_true rfl) rfl d_B_hundredths_2 ?_
  refine lv_if_eq (tgt := 20) hx hb d_B_hundredths_5 (by decide) (fun c_5 => ?_) (fun c_5 => ?_)
  · refine lv_aload_n hx hb d_B_hundredths_20 rfl (lv_at hl 0 rfl) ?_
    refine lv_iload_n hx hb d_B_hundredths_21 rfl (lv_at hl 2 rfl) ?_
    refine k_vi (rest := []) (c_B_isRing l E ad X S a2) mi_B_isRing ml_B_104 hx hb hml hts hown hK hP rvB0 hl ⟨rfl, rfl⟩ ⟨(Nat.le_of_ble_eq_true rfl), (Nat.le_of_ble_eq_true rfl)⟩ ⟨Nat.zero_le _, Nat.zero_le _⟩ rfl (Nat.le_of_ble_eq_true rfl) rfl d_B_hundredths_22 ?_
    refine lv_if_eq (tgt := 42) hx hb d_B_hundredths_25 (by decide) (fun c_25 => ?_) (fun c_25 => ?_)
    · refine lv_aload_n hx hb d_B_hundredths_42 rfl (lv_at hl 0 rfl) ?_
      refine lv_iload_n hx hb d_B_hundredths_43 rfl (lv_at hl 1 rfl) ?_
      refine k_vi (rest := []) (c_B_arm l E ad X S a1) mi_B_arm ml_B_130 hx hb hml hts hown hK hP rvB0 hl ⟨rfl, rfl⟩ ⟨(Nat.le_of_ble_eq_true rfl), (Nat.le_of_ble_eq_true rfl)⟩ ⟨Nat.zero_le _, Nat.zero_le _⟩ rfl (Nat.le_of_ble_eq_true rfl) rfl d_B_hundredths_44 ?_
      refine lv_aload_n hx hb d_B_hundredths_47 rfl (lv_at hl 0 rfl) ?_
      refine lv_iload_n hx hb d_B_hundredths_48 rfl (lv_at hl 2 rfl) ?_
      refine k_vi (rest := [.int (s_B_arm S a1)]) (c_B_arm l E ad X S a2) mi_B_arm ml_B_130 hx hb hml hts hown hK hP rvB0 hl ⟨rfl, rfl⟩ ⟨(Nat.le_of_ble_eq_true rfl), (Nat.le_of_ble_eq_true rfl)⟩ ⟨Nat.zero_le _, Nat.zero_le _⟩ rfl (Nat.le_of_ble_eq_true rfl) rfl d_B_hundredths_49 ?_
      refine lv_iadd hx hb d_B_hundredths_52 ?_
      exact hend _ _ _ (by rw [s_B_hundredths, if_pos c_5, if_pos c_25]) d_B_hundredths_53
    · refine lv_aload_n hx hb d_B_hundredths_28 rfl (lv_at hl 0 rfl) ?_
      refine lv_iload_n hx hb d_B_hundredths_29 rfl (lv_at hl 2 rfl) ?_
      refine k_vi (rest := []) (c_B_arm l E ad X S a2) mi_B_arm ml_B_130 hx hb hml hts hown hK hP rvB0 hl ⟨rfl, rfl⟩ ⟨(Nat.le_of_ble_eq_true rfl), (Nat.le_of_ble_eq_true rfl)⟩ ⟨Nat.zero_le _, Nat.zero_le _⟩ rfl (Nat.le_of_ble_eq_true rfl) rfl d_B_hundredths_30 ?_
      refine lv_aload_n hx hb d_B_hundredths_33 rfl (lv_at hl 0 rfl) ?_
      refine lv_iload_n hx hb d_B_hundredths_34 rfl (lv_at hl 1 rfl) ?_
      refine k_vi (rest := [.int (s_B_arm S a2)]) (c_B_arm l E ad X S a1) mi_B_arm ml_B_130 hx hb hml hts hown hK hP rvB0 hl ⟨rfl, rfl⟩ ⟨(Nat.le_of_ble_eq_true rfl), (Nat.le_of_ble_eq_true rfl)⟩ ⟨Nat.zero_le _, Nat.zero_le _⟩ rfl (Nat.le_of_ble_eq_true rfl) rfl d_B_hundredths_35 ?_
      refine lv_isub hx hb d_B_hundredths_38 ?_
      refine lv_goto (tgt := 53) hx hb d_B_hundredths_39 (by decide) ?_
      exact hend _ _ _ (by rw [s_B_hundredths, if_pos c_5, if_neg c_25]) d_B_hundredths_53
  · refine lv_aload_n hx hb d_B_hundredths_8 rfl (lv_at hl 0 rfl) ?_
    refine lv_iload_n hx hb d_B_hundredths_9 rfl (lv_at hl 1 rfl) ?_
    refine k_vi (rest := []) (c_B_arm l E ad X S a1) mi_B_arm ml_B_130 hx hb hml hts hown hK hP rvB0 hl ⟨rfl, rfl⟩ ⟨(Nat.le_of_ble_eq_true rfl), (Nat.le_of_ble_eq_true rfl)⟩ ⟨Nat.zero_le _, Nat.zero_le _⟩ rfl (Nat.le_of_ble_eq_true rfl) rfl d_B_hundredths_10 ?_
    refine lv_aload_n hx hb d_B_hundredths_13 rfl (lv_at hl 0 rfl) ?_
    refine lv_iload_n hx hb d_B_hundredths_14 rfl (lv_at hl 2 rfl) ?_
    refine k_vi (rest := [.int (s_B_arm S a1)]) (c_B_arm l E ad X S a2) mi_B_arm ml_B_130 hx hb hml hts hown hK hP rvB0 hl ⟨rfl, rfl⟩ ⟨(Nat.le_of_ble_eq_true rfl), (Nat.le_of_ble_eq_true rfl)⟩ ⟨Nat.zero_le _, Nat.zero_le _⟩ rfl (Nat.le_of_ble_eq_true rfl) rfl d_B_hundredths_15 ?_
    refine lv_isub hx hb d_B_hundredths_18 ?_
    exact hend _ _ _ (by rw [s_B_hundredths, if_neg c_5]) d_B_hundredths_19

def s_B_shiftAt_b77 (S : St) (x1 : Int32) (x6 : Int32) : Int32 := (if (s_P_isShift (x6 - ((50 : Int32) * (if 0 ≤ (s_N_at S 0 x1) then (s_N_at S 0 x1) else 0 - (s_N_at S 0 x1))))) = 0 then (-1001 : Int32) else (x6 - ((50 : Int32) * (if 0 ≤ (s_N_at S 0 x1) then (s_N_at S 0 x1) else 0 - (s_N_at S 0 x1)))))
def s_B_shiftAt (S : St) (a1 : Int32) (a2 : Int32) (a3 : Int32) (a4 : Int32) : Int32 := (if a4 = 0 then (-1001 : Int32) else (if (((100 : Int32) * a3) - ((100 : Int32) * a3) / a4 * a4) = 0 then (if (s_B_isRing S a1) = 0 then (if (s_B_isRing S a2) = 0 then (s_B_shiftAt_b77 S a1 ((((100 : Int32) * a3) / a4) - (s_B_arm S a2))) else (s_B_shiftAt_b77 S a1 ((s_B_arm S a2) - (((100 : Int32) * a3) / a4)))) else (s_B_shiftAt_b77 S a1 ((((100 : Int32) * a3) / a4) + (s_B_arm S a2)))) else (-1001 : Int32)))
set_option maxRecDepth 20000 in
theorem c_B_shiftAt (l : Launch) (E : Cx) (ad : Nat → Nat) (X : va_W) (S : St) (a1 : Int32) (a2 : Int32) (a3 : Int32) (a4 : Int32) : Met l y_B_shiftAt (Cond.code y_B_shiftAt b_B_shiftAt 8 (some .int) :: TB) (rk 2 42) (va_Pc [.ref (ad 40), .int a1, .int a2, .int a3, .int a4] (preR E (wb E ad S ++ X))) (vp_Si (fun r => r = (s_B_shiftAt S a1 a2 a3 a4))) 0 0 (fun _ => False) := by
  refine w_roI rfl (Nat.le_of_ble_eq_true rfl) rfl ?_
  intro p e s m args below meth c Q ls hx hb hml hts hown hP hK hl hend
  have hl : lv_has ls 8 [(0, .ref (ad 40)), (1, .int a1), (2, .int a2), (3, .int a3), (4, .int a4)] := hl
  have hP : va_P E.1 vwCl (wb E ad S ++ X) s.heap := hP
  have hown : s.vm.findClass R_B = some m.cls := hown
  have b77 : ∀ (x1 : Int32) (x6 : Int32), ∀ (ls : Array Slot), lv_has ls 8 [(0, .ref (ad 40)), (1, .int x1), (6, .int x6)] → (s_B_shiftAt S a1 a2 a3 a4) = s_B_shiftAt_b77 S x1 x6 → W p l e (rk 2 42) s m args below meth c s.heap [] 0 0 Q (F0 m 77 ls []) := by
    intro x1 x6 ls hl hq
    refine lv_iload hx hb d_B_shiftAt_77 (lv_at hl 2 rfl) ?_
    refine lv_bipush (v := (50 : Int32)) hx hb d_B_shiftAt_79 rfl ?_
    refine lv_aload_n hx hb d_B_shiftAt_81 rfl (lv_at hl 0 rfl) ?_
    refine g_B0_teeth hx hb hts hown hK hP d_B_shiftAt_82 ?_
    refine lv_iload_n hx hb d_B_shiftAt_85 rfl (lv_at hl 1 rfl) ?_
    refine k_vi (rest := [.int (50 : Int32), .int x6]) (c_N_at l E ad X S 0 (Nat.le_of_ble_eq_true rfl) x1) mi_N_at ml_B_45 hx hb hml hts hown hK hP (rvN (Nat.le_of_ble_eq_true rfl)) hl ⟨rfl, rfl⟩ ⟨(Nat.le_of_ble_eq_true rfl), (Nat.le_of_ble_eq_true rfl)⟩ ⟨Nat.zero_le _, Nat.zero_le _⟩ rfl (Nat.le_of_ble_eq_true rfl) rfl d_B_shiftAt_86 ?_
    refine va_mabs hx hb (hml.trans hl.1.symm) hown (hts _ ml_B_127) (hts _ st_mabs) (hts _ iz_Math) (hts _ co_mabs) (Nat.le_of_ble_eq_true rfl) (Nat.le_of_ble_eq_true rfl) (Nat.zero_le _) (Nat.zero_le _) d_B_shiftAt_89 ?_
    refine lv_imul hx hb d_B_shiftAt_92 ?_
    refine lv_isub hx hb d_B_shiftAt_93 ?_
    refine lv_istore (lv' := [(7, .int (x6 - ((50 : Int32) * (if 0 ≤ (s_N_at S 0 x1) then (s_N_at S 0 x1) else 0 - (s_N_at S 0 x1))))), (0, .ref (ad 40)), (1, .int x1), (6, .int x6)]) hx hb d_B_shiftAt_94 hl (by decide) rfl (fun ls hl => ?_)
    refine lv_iload hx hb d_B_shiftAt_96 (lv_at hl 0 rfl) ?_
    refine k_ni (rest := []) (c_P_isShift l E (x6 - ((50 : Int32) * (if 0 ≤ (s_N_at S 0 x1) then (s_N_at S 0 x1) else 0 - (s_N_at S 0 x1))))) mi_P_isShift nw_B_59 hx hb hml hts hown hK va_nil hl ⟨rfl, rfl⟩ ⟨(Nat.le_of_ble_eq_true rfl), (Nat.le_of_ble_eq_true rfl)⟩ ⟨Nat.zero_le _, Nat.zero_le _⟩ rfl (Nat.le_of_ble_eq_true rfl) rfl d_B_shiftAt_98 ?_
    refine lv_if_eq (tgt := 109) hx hb d_B_shiftAt_101 (by decide) (fun c_101 => ?_) (fun c_101 => ?_)
    · refine lv_sipush (v := (-1001 : Int32)) hx hb d_B_shiftAt_109 rfl ?_
      exact hend _ _ _ (by rw [hq, s_B_shiftAt_b77, if_pos c_101]) d_B_shiftAt_112
    · refine lv_iload hx hb d_B_shiftAt_104 (lv_at hl 0 rfl) ?_
      refine lv_goto (tgt := 112) hx hb d_B_shiftAt_106 (by decide) ?_
      exact hend _ _ _ (by rw [hq, s_B_shiftAt_b77, if_neg c_101]) d_B_shiftAt_112
  refine lv_iload hx hb d_B_shiftAt_0 (lv_at hl 4 rfl) ?_
  refine lv_if_eq (tgt := 15) hx hb d_B_shiftAt_2 (by decide) (fun c_2 => ?_) (fun c_2 => ?_)
  · refine lv_sipush (v := (-1001 : Int32)) hx hb d_B_shiftAt_15 rfl ?_
    exact hend _ _ _ (by rw [s_B_shiftAt, if_pos c_2]) d_B_shiftAt_18
  · refine lv_bipush (v := (100 : Int32)) hx hb d_B_shiftAt_5 rfl ?_
    refine lv_iload_n hx hb d_B_shiftAt_7 rfl (lv_at hl 3 rfl) ?_
    refine lv_imul hx hb d_B_shiftAt_8 ?_
    refine lv_iload hx hb d_B_shiftAt_9 (lv_at hl 4 rfl) ?_
    refine lv_irem hx hb d_B_shiftAt_11 c_2 ?_
    refine lv_if_eq (tgt := 19) hx hb d_B_shiftAt_12 (by decide) (fun c_12 => ?_) (fun c_12 => ?_)
    · refine lv_bipush (v := (100 : Int32)) hx hb d_B_shiftAt_19 rfl ?_
      refine lv_iload_n hx hb d_B_shiftAt_21 rfl (lv_at hl 3 rfl) ?_
      refine lv_imul hx hb d_B_shiftAt_22 ?_
      refine lv_iload hx hb d_B_shiftAt_23 (lv_at hl 4 rfl) ?_
      refine lv_idiv hx hb d_B_shiftAt_25 c_2 ?_
      refine lv_istore (lv' := [(5, .int (((100 : Int32) * a3) / a4)), (0, .ref (ad 40)), (1, .int a1), (2, .int a2), (3, .int a3), (4, .int a4)]) hx hb d_B_shiftAt_26 hl (by decide) rfl (fun ls hl => ?_)
      refine lv_iload hx hb d_B_shiftAt_28 (lv_at hl 0 rfl) ?_
      refine lv_aload_n hx hb d_B_shiftAt_30 rfl (lv_at hl 1 rfl) ?_
      refine lv_iload_n hx hb d_B_shiftAt_31 rfl (lv_at hl 3 rfl) ?_
      refine k_vi (rest := [.int (((100 : Int32) * a3) / a4)]) (c_B_arm l E ad X S a2) mi_B_arm ml_B_130 hx hb hml hts hown hK hP rvB0 hl ⟨rfl, rfl⟩ ⟨(Nat.le_of_ble_eq_true rfl), (Nat.le_of_ble_eq_true rfl)⟩ ⟨Nat.zero_le _, Nat.zero_le _⟩ rfl (Nat.le_of_ble_eq_true rfl) rfl d_B_shiftAt_32 ?_
      refine lv_isub hx hb d_B_shiftAt_35 ?_
      refine lv_istore (lv' := [(6, .int ((((100 : Int32) * a3) / a4) - (s_B_arm S a2))), (5, .int (((100 : Int32) * a3) / a4)), (0, .ref (ad 40)), (1, .int a1), (2, .int a2), (3, .int a3), (4, .int a4)]) hx hb d_B_shiftAt_36 hl (by decide) rfl (fun ls hl => ?_)
      refine lv_aload_n hx hb d_B_shiftAt_38 rfl (lv_at hl 2 rfl) ?_
      refine lv_iload_n hx hb d_B_shiftAt_39 rfl (lv_at hl 3 rfl) ?_
      refine k_vi (rest := []) (c_B_isRing l E ad X S a1) mi_B_isRing ml_B_104 hx hb hml hts hown hK hP rvB0 hl ⟨rfl, rfl⟩ ⟨(Nat.le_of_ble_eq_true rfl), (Nat.le_of_ble_eq_true rfl)⟩ ⟨Nat.zero_le _, Nat.zero_le _⟩ rfl (Nat.le_of_ble_eq_true rfl) rfl d_B_shiftAt_40 ?_
      refine lv_if_eq (tgt := 59) hx hb d_B_shiftAt_43 (by decide) (fun c_43 => ?_) (fun c_43 => ?_)
      · refine lv_aload_n hx hb d_B_shiftAt_59 rfl (lv_at hl 2 rfl) ?_
        refine lv_iload_n hx hb d_B_shiftAt_60 rfl (lv_at hl 4 rfl) ?_
        refine k_vi (rest := []) (c_B_isRing l E ad X S a2) mi_B_isRing ml_B_104 hx hb hml hts hown hK hP rvB0 hl ⟨rfl, rfl⟩ ⟨(Nat.le_of_ble_eq_true rfl), (Nat.le_of_ble_eq_true rfl)⟩ ⟨Nat.zero_le _, Nat.zero_le _⟩ rfl (Nat.le_of_ble_eq_true rfl) rfl d_B_shiftAt_61 ?_
        refine lv_if_eq (tgt := 77) hx hb d_B_shiftAt_64 (by decide) (fun c_64 => ?_) (fun c_64 => ?_)
        · exact b77 a1 ((((100 : Int32) * a3) / a4) - (s_B_arm S a2)) ls (lv_sub hl [2, 3, 0] rfl) (by rw [s_B_shiftAt, if_neg c_2, if_pos c_12, if_pos c_43, if_pos c_64])
        · refine lv_aload_n hx hb d_B_shiftAt_67 rfl (lv_at hl 2 rfl) ?_
          refine lv_iload_n hx hb d_B_shiftAt_68 rfl (lv_at hl 4 rfl) ?_
          refine k_vi (rest := []) (c_B_arm l E ad X S a2) mi_B_arm ml_B_130 hx hb hml hts hown hK hP rvB0 hl ⟨rfl, rfl⟩ ⟨(Nat.le_of_ble_eq_true rfl), (Nat.le_of_ble_eq_true rfl)⟩ ⟨Nat.zero_le _, Nat.zero_le _⟩ rfl (Nat.le_of_ble_eq_true rfl) rfl d_B_shiftAt_69 ?_
          refine lv_iload hx hb d_B_shiftAt_72 (lv_at hl 1 rfl) ?_
          refine lv_isub hx hb d_B_shiftAt_74 ?_
          refine lv_istore (lv' := [(6, .int ((s_B_arm S a2) - (((100 : Int32) * a3) / a4))), (5, .int (((100 : Int32) * a3) / a4)), (0, .ref (ad 40)), (1, .int a1), (2, .int a2), (3, .int a3), (4, .int a4)]) hx hb d_B_shiftAt_75 hl (by decide) rfl (fun ls hl => ?_)
          exact b77 a1 ((s_B_arm S a2) - (((100 : Int32) * a3) / a4)) ls (lv_sub hl [2, 3, 0] rfl) (by rw [s_B_shiftAt, if_neg c_2, if_pos c_12, if_pos c_43, if_neg c_64])
      · refine lv_iload hx hb d_B_shiftAt_46 (lv_at hl 1 rfl) ?_
        refine lv_aload_n hx hb d_B_shiftAt_48 rfl (lv_at hl 2 rfl) ?_
        refine lv_iload_n hx hb d_B_shiftAt_49 rfl (lv_at hl 4 rfl) ?_
        refine k_vi (rest := [.int (((100 : Int32) * a3) / a4)]) (c_B_arm l E ad X S a2) mi_B_arm ml_B_130 hx hb hml hts hown hK hP rvB0 hl ⟨rfl, rfl⟩ ⟨(Nat.le_of_ble_eq_true rfl), (Nat.le_of_ble_eq_true rfl)⟩ ⟨Nat.zero_le _, Nat.zero_le _⟩ rfl (Nat.le_of_ble_eq_true rfl) rfl d_B_shiftAt_50 ?_
        refine lv_iadd hx hb d_B_shiftAt_53 ?_
        refine lv_istore (lv' := [(6, .int ((((100 : Int32) * a3) / a4) + (s_B_arm S a2))), (5, .int (((100 : Int32) * a3) / a4)), (0, .ref (ad 40)), (1, .int a1), (2, .int a2), (3, .int a3), (4, .int a4)]) hx hb d_B_shiftAt_54 hl (by decide) rfl (fun ls hl => ?_)
        refine lv_goto (tgt := 77) hx hb d_B_shiftAt_56 (by decide) ?_
        exact b77 a1 ((((100 : Int32) * a3) / a4) + (s_B_arm S a2)) ls (lv_sub hl [2, 3, 0] rfl) (by rw [s_B_shiftAt, if_neg c_2, if_pos c_12, if_neg c_43])
    · refine lv_sipush (v := (-1001 : Int32)) hx hb d_B_shiftAt_15 rfl ?_
      exact hend _ _ _ (by rw [s_B_shiftAt, if_neg c_2, if_neg c_12]) d_B_shiftAt_18

def s_B_above (S : St) (a1 : Int32) (a2 : Int32) : Int64 := (if (s_B_hasRing S a1 a2) = 0 then ((-(if 0 ≤ (s_N_at S 0 a2) then (s_N_at S 0 a2) else 0 - (s_N_at S 0 a2))).toInt64) else ((if 0 ≤ (s_N_at S 0 a2) then (s_N_at S 0 a2) else 0 - (s_N_at S 0 a2)).toInt64))
set_option maxRecDepth 20000 in
theorem c_B_above (l : Launch) (E : Cx) (ad : Nat → Nat) (X : va_W) (S : St) (a1 : Int32) (a2 : Int32) : Met l y_B_above (Cond.code y_B_above b_B_above 4 (some .long) :: TB) (rk 3 64) (va_Pc [.ref (ad 40), .int a1, .int a2] (preR E (wb E ad S ++ X))) (vp_Sl (fun r => r = (s_B_above S a1 a2))) 0 0 (fun _ => False) := by
  refine w_roL rfl (Nat.le_of_ble_eq_true rfl) ?_
  intro p e s m args below meth c Q ls hx hb hml hts hown hP hK hl hend
  have hl : lv_has ls 4 [(0, .ref (ad 40)), (1, .int a1), (2, .int a2)] := hl
  have hP : va_P E.1 vwCl (wb E ad S ++ X) s.heap := hP
  have hown : s.vm.findClass R_B = some m.cls := hown
  refine lv_aload_n hx hb d_B_above_0 rfl (lv_at hl 0 rfl) ?_
  refine g_B0_teeth hx hb hts hown hK hP d_B_above_1 ?_
  refine lv_iload_n hx hb d_B_above_4 rfl (lv_at hl 2 rfl) ?_
  refine k_vi (rest := []) (c_N_at l E ad X S 0 (Nat.le_of_ble_eq_true rfl) a2) mi_N_at ml_B_45 hx hb hml hts hown hK hP (rvN (Nat.le_of_ble_eq_true rfl)) hl ⟨rfl, rfl⟩ ⟨(Nat.le_of_ble_eq_true rfl), (Nat.le_of_ble_eq_true rfl)⟩ ⟨Nat.zero_le _, Nat.zero_le _⟩ rfl (Nat.le_of_ble_eq_true rfl) rfl d_B_above_5 ?_
  refine va_mabs hx hb (hml.trans hl.1.symm) hown (hts _ ml_B_127) (hts _ st_mabs) (hts _ iz_Math) (hts _ co_mabs) (Nat.le_of_ble_eq_true rfl) (Nat.le_of_ble_eq_true rfl) (Nat.zero_le _) (Nat.zero_le _) d_B_above_8 ?_
  refine lv_istore_n (lv' := [(3, .int (if 0 ≤ (s_N_at S 0 a2) then (s_N_at S 0 a2) else 0 - (s_N_at S 0 a2))), (0, .ref (ad 40)), (1, .int a1), (2, .int a2)]) hx hb d_B_above_11 rfl hl (by decide) rfl (fun ls hl => ?_)
  refine lv_aload_n hx hb d_B_above_12 rfl (lv_at hl 1 rfl) ?_
  refine lv_iload_n hx hb d_B_above_13 rfl (lv_at hl 2 rfl) ?_
  refine lv_iload_n hx hb d_B_above_14 rfl (lv_at hl 3 rfl) ?_
  refine k_vi (rest := []) (c_B_hasRing l E ad X S a1 a2) mi_B_hasRing ml_B_124 hx hb hml hts hown hK hP rvB0 hl ⟨rfl, rfl⟩ ⟨(Nat.le_of_ble_eq_true rfl), (Nat.le_of_ble_eq_true rfl)⟩ ⟨Nat.zero_le _, Nat.zero_le _⟩ rfl (Nat.le_of_ble_eq_true rfl) rfl d_B_above_15 ?_
  refine lv_if_eq (tgt := 26) hx hb d_B_above_18 (by decide) (fun c_18 => ?_) (fun c_18 => ?_)
  · refine lv_iload_n hx hb d_B_above_26 rfl (lv_at hl 0 rfl) ?_
    refine lv_ineg hx hb d_B_above_27 ?_
    refine lv_i2l hx hb d_B_above_28 rfl ?_
    exact hend _ _ _ (by rw [s_B_above, if_pos c_18]) d_B_above_29
  · refine lv_iload_n hx hb d_B_above_21 rfl (lv_at hl 0 rfl) ?_
    refine lv_i2l hx hb d_B_above_22 rfl ?_
    refine lv_goto (tgt := 29) hx hb d_B_above_23 (by decide) ?_
    exact hend _ _ _ (by rw [s_B_above, if_neg c_18]) d_B_above_29

def s_B_below (S : St) (a1 : Int32) (a2 : Int32) : Int64 := ((if 0 ≤ (s_N_at S 0 a1) then (s_N_at S 0 a1) else 0 - (s_N_at S 0 a1)).toInt64)
set_option maxRecDepth 20000 in
theorem c_B_below (l : Launch) (E : Cx) (ad : Nat → Nat) (X : va_W) (S : St) (a1 : Int32) (a2 : Int32) : Met l y_B_below (Cond.code y_B_below b_B_below 3 (some .long) :: TB) (rk 1 21) (va_Pc [.ref (ad 40), .int a1, .int a2] (preR E (wb E ad S ++ X))) (vp_Sl (fun r => r = (s_B_below S a1 a2))) 0 0 (fun _ => False) := by
  refine w_roL rfl (Nat.le_of_ble_eq_true rfl) ?_
  intro p e s m args below meth c Q ls hx hb hml hts hown hP hK hl hend
  have hl : lv_has ls 3 [(0, .ref (ad 40)), (1, .int a1), (2, .int a2)] := hl
  have hP : va_P E.1 vwCl (wb E ad S ++ X) s.heap := hP
  have hown : s.vm.findClass R_B = some m.cls := hown
  refine lv_aload_n hx hb d_B_below_0 rfl (lv_at hl 0 rfl) ?_
  refine g_B0_teeth hx hb hts hown hK hP d_B_below_1 ?_
  refine lv_iload_n hx hb d_B_below_4 rfl (lv_at hl 1 rfl) ?_
  refine k_vi (rest := []) (c_N_at l E ad X S 0 (Nat.le_of_ble_eq_true rfl) a1) mi_N_at ml_B_45 hx hb hml hts hown hK hP (rvN (Nat.le_of_ble_eq_true rfl)) hl ⟨rfl, rfl⟩ ⟨(Nat.le_of_ble_eq_true rfl), (Nat.le_of_ble_eq_true rfl)⟩ ⟨Nat.zero_le _, Nat.zero_le _⟩ rfl (Nat.le_of_ble_eq_true rfl) rfl d_B_below_5 ?_
  refine va_mabs hx hb (hml.trans hl.1.symm) hown (hts _ ml_B_127) (hts _ st_mabs) (hts _ iz_Math) (hts _ co_mabs) (Nat.le_of_ble_eq_true rfl) (Nat.le_of_ble_eq_true rfl) (Nat.zero_le _) (Nat.zero_le _) d_B_below_8 ?_
  refine lv_i2l hx hb d_B_below_11 rfl ?_
  exact hend _ _ _ (by rw [s_B_below]) d_B_below_12

def s_B_firstClash_b2 (S : St) : Nat → Int32 → Int32
  | 0, _ => 0
  | n + 1, x1 => (if (s_N_size S 2) ≤ x1 then (-2 : Int32) else (if (s_B_clashes S (s_N_at S 2 x1) (s_N_at S 3 x1)) = 0 then (s_B_firstClash_b2 S n (x1 + 1)) else x1))
def s_B_firstClash (S : St) : Int32 := (s_B_firstClash_b2 S ((S.1 2).toInt.toNat + 1) (0 : Int32))
set_option maxRecDepth 20000 in
theorem c_B_firstClash (l : Launch) (E : Cx) (ad : Nat → Nat) (X : va_W) (S : St) : Met l y_B_firstClash (Cond.code y_B_firstClash b_B_firstClash 2 (some .int) :: TB) (rk 4 86) (va_Pc [.ref (ad 40)] (preR E (wb E ad S ++ X))) (vp_Si (fun r => r = (s_B_firstClash S))) 0 0 (fun _ => False) := by
  refine w_roI rfl (Nat.le_of_ble_eq_true rfl) rfl ?_
  intro p e s m args below meth c Q ls hx hb hml hts hown hP hK hl hend
  have hl : lv_has ls 2 [(0, .ref (ad 40))] := hl
  have hP : va_P E.1 vwCl (wb E ad S ++ X) s.heap := hP
  have hown : s.vm.findClass R_B = some m.cls := hown
  have b2 : ∀ (n : Nat) (x1 : Int32), (UP n (S.1 2) x1) → ∀ (ls : Array Slot), lv_has ls 2 [(0, .ref (ad 40)), (1, .int x1)] → (s_B_firstClash S) = s_B_firstClash_b2 S n x1 → W p l e (rk 4 86) s m args below meth c s.heap [] 0 0 Q (F0 m 2 ls []) := by
    intro n2
    induction n2 with
    | zero => intro x1 hv; exact absurd hv (UP_z)
    | succ n2 ih2 =>
      intro x1 hv ls hl hq
      refine lv_iload_n hx hb d_B_firstClash_2 rfl (lv_at hl 1 rfl) ?_
      refine lv_aload_n hx hb d_B_firstClash_3 rfl (lv_at hl 0 rfl) ?_
      refine g_B0_drivers hx hb hts hown hK hP d_B_firstClash_4 ?_
      refine k_vi (rest := [.int x1]) (c_N_size l E ad X S 2 (Nat.le_of_ble_eq_true rfl)) mi_N_size ml_B_37 hx hb hml hts hown hK hP (rvN (Nat.le_of_ble_eq_true rfl)) hl ⟨rfl, rfl⟩ ⟨(Nat.le_of_ble_eq_true rfl), (Nat.le_of_ble_eq_true rfl)⟩ ⟨Nat.zero_le _, Nat.zero_le _⟩ rfl (Nat.le_of_ble_eq_true rfl) rfl d_B_firstClash_7 ?_
      refine lv_icmp_ge (tgt := 44) hx hb d_B_firstClash_10 (by decide) (fun c_10 => ?_) (fun c_10 => ?_)
      · refine lv_bipush (v := (-2 : Int32)) hx hb d_B_firstClash_44 rfl ?_
        exact hend _ _ _ (by rw [hq, s_B_firstClash_b2, if_pos c_10]) d_B_firstClash_46
      · refine lv_aload_n hx hb d_B_firstClash_13 rfl (lv_at hl 0 rfl) ?_
        refine lv_aload_n hx hb d_B_firstClash_14 rfl (lv_at hl 0 rfl) ?_
        refine g_B0_drivers hx hb hts hown hK hP d_B_firstClash_15 ?_
        refine lv_iload_n hx hb d_B_firstClash_18 rfl (lv_at hl 1 rfl) ?_
        refine k_vi (rest := [.ref (ad 40)]) (c_N_at l E ad X S 2 (Nat.le_of_ble_eq_true rfl) x1) mi_N_at ml_B_45 hx hb hml hts hown hK hP (rvN (Nat.le_of_ble_eq_true rfl)) hl ⟨rfl, rfl⟩ ⟨(Nat.le_of_ble_eq_true rfl), (Nat.le_of_ble_eq_true rfl)⟩ ⟨Nat.zero_le _, Nat.zero_le _⟩ rfl (Nat.le_of_ble_eq_true rfl) rfl d_B_firstClash_19 ?_
        refine lv_aload_n hx hb d_B_firstClash_22 rfl (lv_at hl 0 rfl) ?_
        refine g_B0_driven hx hb hts hown hK hP d_B_firstClash_23 ?_
        refine lv_iload_n hx hb d_B_firstClash_26 rfl (lv_at hl 1 rfl) ?_
        refine k_vi (rest := [.int (s_N_at S 2 x1), .ref (ad 40)]) (c_N_at l E ad X S 3 (Nat.le_of_ble_eq_true rfl) x1) mi_N_at ml_B_45 hx hb hml hts hown hK hP (rvN (Nat.le_of_ble_eq_true rfl)) hl ⟨rfl, rfl⟩ ⟨(Nat.le_of_ble_eq_true rfl), (Nat.le_of_ble_eq_true rfl)⟩ ⟨Nat.zero_le _, Nat.zero_le _⟩ rfl (Nat.le_of_ble_eq_true rfl) rfl d_B_firstClash_27 ?_
        refine k_vi (rest := []) (c_B_clashes l E ad X S (s_N_at S 2 x1) (s_N_at S 3 x1)) mi_B_clashes ml_B_133 hx hb hml hts hown hK hP rvB0 hl ⟨rfl, rfl⟩ ⟨(Nat.le_of_ble_eq_true rfl), (Nat.le_of_ble_eq_true rfl)⟩ ⟨Nat.zero_le _, Nat.zero_le _⟩ rfl (Nat.le_of_ble_eq_true rfl) rfl d_B_firstClash_30 ?_
        refine lv_if_eq (tgt := 38) hx hb d_B_firstClash_33 (by decide) (fun c_33 => ?_) (fun c_33 => ?_)
        · refine lv_iinc (v := (x1 + 1)) (lv' := [(1, .int (x1 + 1)), (0, .ref (ad 40))]) hx hb d_B_firstClash_38 hl (k := 1) rfl rfl (by decide) rfl (fun ls hl => ?_)
          refine lv_goto (tgt := 2) hx hb d_B_firstClash_41 (by decide) ?_
          exact ih2 (x1 + 1) (UP_up hv c_10) ls (lv_sub hl [1, 0] rfl) (by rw [hq, s_B_firstClash_b2, if_neg c_10, if_pos c_33])
        · refine lv_iload_n hx hb d_B_firstClash_36 rfl (lv_at hl 1 rfl) ?_
          exact hend _ _ _ (by rw [hq, s_B_firstClash_b2, if_neg c_10, if_neg c_33]) d_B_firstClash_37
  refine lv_iconst (v := (0 : Int32)) hx hb d_B_firstClash_0 rfl ?_
  refine lv_istore_n (lv' := [(1, .int (0 : Int32)), (0, .ref (ad 40))]) hx hb d_B_firstClash_1 rfl hl (by decide) rfl (fun ls hl => ?_)
  exact b2 ((S.1 2).toInt.toNat + 1) (0 : Int32) (UP_in (by decide)) ls (lv_sub hl [1, 0] rfl) (by rw [s_B_firstClash])

def s_B_trainRatio_b8 (S : St) : Nat → Int32 → Int64 → Int64 → Int32 → Int64
  | 0, _, _, _, _ => 0
  | n + 1, x1, x2, x4, x6 => (if (s_N_size S 2) ≤ x6 then (s_P_partOf x2 x4 x1) else (s_B_trainRatio_b8 S n x1 (x2 * (s_B_above S (s_N_at S 2 x6) (s_N_at S 3 x6))) (x4 * (s_B_below S (s_N_at S 2 x6) (s_N_at S 3 x6))) (x6 + 1)))
def s_B_trainRatio (S : St) (a1 : Int32) : Int64 := (s_B_trainRatio_b8 S ((S.1 2).toInt.toNat + 1) a1 (1 : Int64) (1 : Int64) (0 : Int32))
set_option maxRecDepth 20000 in
theorem c_B_trainRatio (l : Launch) (E : Cx) (ad : Nat → Nat) (X : va_W) (S : St) (a1 : Int32) : Met l y_B_trainRatio (Cond.code y_B_trainRatio b_B_trainRatio 7 (some .long) :: TB) (rk 4 87) (va_Pc [.ref (ad 40), .int a1] (preR E (wb E ad S ++ X))) (vp_Sl (fun r => r = (s_B_trainRatio S a1))) 0 0 (fun _ => False) := by
  refine w_roL rfl (Nat.le_of_ble_eq_true rfl) ?_
  intro p e s m args below meth c Q ls hx hb hml hts hown hP hK hl hend
  have hl : lv_has ls 7 [(0, .ref (ad 40)), (1, .int a1)] := hl
  have hP : va_P E.1 vwCl (wb E ad S ++ X) s.heap := hP
  have hown : s.vm.findClass R_B = some m.cls := hown
  have b8 : ∀ (n : Nat) (x1 : Int32) (x2 : Int64) (x4 : Int64) (x6 : Int32), (UP n (S.1 2) x6) → ∀ (ls : Array Slot), lv_has ls 7 [(0, .ref (ad 40)), (1, .int x1), (2, .long x2), (4, .long x4), (6, .int x6)] → (s_B_trainRatio S a1) = s_B_trainRatio_b8 S n x1 x2 x4 x6 → W p l e (rk 4 87) s m args below meth c s.heap [] 0 0 Q (F0 m 8 ls []) := by
    intro n8
    induction n8 with
    | zero => intro x1 x2 x4 x6 hv; exact absurd hv (UP_z)
    | succ n8 ih8 =>
      intro x1 x2 x4 x6 hv ls hl hq
      refine lv_iload hx hb d_B_trainRatio_8 (lv_at hl 4 rfl) ?_
      refine lv_aload_n hx hb d_B_trainRatio_10 rfl (lv_at hl 0 rfl) ?_
      refine g_B0_drivers hx hb hts hown hK hP d_B_trainRatio_11 ?_
      refine k_vi (rest := [.int x6]) (c_N_size l E ad X S 2 (Nat.le_of_ble_eq_true rfl)) mi_N_size ml_B_37 hx hb hml hts hown hK hP (rvN (Nat.le_of_ble_eq_true rfl)) hl ⟨rfl, rfl⟩ ⟨(Nat.le_of_ble_eq_true rfl), (Nat.le_of_ble_eq_true rfl)⟩ ⟨Nat.zero_le _, Nat.zero_le _⟩ rfl (Nat.le_of_ble_eq_true rfl) rfl d_B_trainRatio_14 ?_
      refine lv_icmp_ge (tgt := 78) hx hb d_B_trainRatio_17 (by decide) (fun c_17 => ?_) (fun c_17 => ?_)
      · refine lv_lload_n hx hb d_B_trainRatio_78 rfl (lv_at hl 2 rfl) ?_
        refine lv_lload hx hb d_B_trainRatio_79 (lv_at hl 3 rfl) ?_
        refine lv_iload_n hx hb d_B_trainRatio_81 rfl (lv_at hl 1 rfl) ?_
        refine k_nl (rest := []) (c_P_partOf l E x2 x4 x1) mi_P_partOf nw_B_143 hx hb hml hts hown hK va_nil hl ⟨rfl, rfl⟩ ⟨(Nat.le_of_ble_eq_true rfl), (Nat.le_of_ble_eq_true rfl)⟩ ⟨Nat.zero_le _, Nat.zero_le _⟩ rfl (Nat.le_of_ble_eq_true rfl) rfl d_B_trainRatio_82 ?_
        exact hend _ _ _ (by rw [hq, s_B_trainRatio_b8, if_pos c_17]) d_B_trainRatio_85
      · refine lv_lload_n hx hb d_B_trainRatio_20 rfl (lv_at hl 2 rfl) ?_
        refine lv_aload_n hx hb d_B_trainRatio_21 rfl (lv_at hl 0 rfl) ?_
        refine lv_aload_n hx hb d_B_trainRatio_22 rfl (lv_at hl 0 rfl) ?_
        refine g_B0_drivers hx hb hts hown hK hP d_B_trainRatio_23 ?_
        refine lv_iload hx hb d_B_trainRatio_26 (lv_at hl 4 rfl) ?_
        refine k_vi (rest := [.ref (ad 40), .long x2]) (c_N_at l E ad X S 2 (Nat.le_of_ble_eq_true rfl) x6) mi_N_at ml_B_45 hx hb hml hts hown hK hP (rvN (Nat.le_of_ble_eq_true rfl)) hl ⟨rfl, rfl⟩ ⟨(Nat.le_of_ble_eq_true rfl), (Nat.le_of_ble_eq_true rfl)⟩ ⟨Nat.zero_le _, Nat.zero_le _⟩ rfl (Nat.le_of_ble_eq_true rfl) rfl d_B_trainRatio_28 ?_
        refine lv_aload_n hx hb d_B_trainRatio_31 rfl (lv_at hl 0 rfl) ?_
        refine g_B0_driven hx hb hts hown hK hP d_B_trainRatio_32 ?_
        refine lv_iload hx hb d_B_trainRatio_35 (lv_at hl 4 rfl) ?_
        refine k_vi (rest := [.int (s_N_at S 2 x6), .ref (ad 40), .long x2]) (c_N_at l E ad X S 3 (Nat.le_of_ble_eq_true rfl) x6) mi_N_at ml_B_45 hx hb hml hts hown hK hP (rvN (Nat.le_of_ble_eq_true rfl)) hl ⟨rfl, rfl⟩ ⟨(Nat.le_of_ble_eq_true rfl), (Nat.le_of_ble_eq_true rfl)⟩ ⟨Nat.zero_le _, Nat.zero_le _⟩ rfl (Nat.le_of_ble_eq_true rfl) rfl d_B_trainRatio_37 ?_
        refine k_vl (rest := [.long x2]) (c_B_above l E ad X S (s_N_at S 2 x6) (s_N_at S 3 x6)) mi_B_above ml_B_136 hx hb hml hts hown hK hP rvB0 hl ⟨rfl, rfl⟩ ⟨(Nat.le_of_ble_eq_true rfl), (Nat.le_of_ble_eq_true rfl)⟩ ⟨Nat.zero_le _, Nat.zero_le _⟩ rfl (Nat.le_of_ble_eq_true rfl) rfl d_B_trainRatio_40 ?_
        refine lv_lmul hx hb d_B_trainRatio_43 ?_
        refine lv_lstore_n (lv' := [(2, .long (x2 * (s_B_above S (s_N_at S 2 x6) (s_N_at S 3 x6)))), (0, .ref (ad 40)), (1, .int x1), (4, .long x4), (6, .int x6)]) hx hb d_B_trainRatio_44 rfl hl (by decide) rfl (fun ls hl => ?_)
        refine lv_lload hx hb d_B_trainRatio_45 (lv_at hl 3 rfl) ?_
        refine lv_aload_n hx hb d_B_trainRatio_47 rfl (lv_at hl 1 rfl) ?_
        refine lv_aload_n hx hb d_B_trainRatio_48 rfl (lv_at hl 1 rfl) ?_
        refine g_B0_drivers hx hb hts hown hK hP d_B_trainRatio_49 ?_
        refine lv_iload hx hb d_B_trainRatio_52 (lv_at hl 4 rfl) ?_
        refine k_vi (rest := [.ref (ad 40), .long x4]) (c_N_at l E ad X S 2 (Nat.le_of_ble_eq_true rfl) x6) mi_N_at ml_B_45 hx hb hml hts hown hK hP (rvN (Nat.le_of_ble_eq_true rfl)) hl ⟨rfl, rfl⟩ ⟨(Nat.le_of_ble_eq_true rfl), (Nat.le_of_ble_eq_true rfl)⟩ ⟨Nat.zero_le _, Nat.zero_le _⟩ rfl (Nat.le_of_ble_eq_true rfl) rfl d_B_trainRatio_54 ?_
        refine lv_aload_n hx hb d_B_trainRatio_57 rfl (lv_at hl 1 rfl) ?_
        refine g_B0_driven hx hb hts hown hK hP d_B_trainRatio_58 ?_
        refine lv_iload hx hb d_B_trainRatio_61 (lv_at hl 4 rfl) ?_
        refine k_vi (rest := [.int (s_N_at S 2 x6), .ref (ad 40), .long x4]) (c_N_at l E ad X S 3 (Nat.le_of_ble_eq_true rfl) x6) mi_N_at ml_B_45 hx hb hml hts hown hK hP (rvN (Nat.le_of_ble_eq_true rfl)) hl ⟨rfl, rfl⟩ ⟨(Nat.le_of_ble_eq_true rfl), (Nat.le_of_ble_eq_true rfl)⟩ ⟨Nat.zero_le _, Nat.zero_le _⟩ rfl (Nat.le_of_ble_eq_true rfl) rfl d_B_trainRatio_63 ?_
        refine k_vl (rest := [.long x4]) (c_B_below l E ad X S (s_N_at S 2 x6) (s_N_at S 3 x6)) mi_B_below ml_B_140 hx hb hml hts hown hK hP rvB0 hl ⟨rfl, rfl⟩ ⟨(Nat.le_of_ble_eq_true rfl), (Nat.le_of_ble_eq_true rfl)⟩ ⟨Nat.zero_le _, Nat.zero_le _⟩ rfl (Nat.le_of_ble_eq_true rfl) rfl d_B_trainRatio_66 ?_
        refine lv_lmul hx hb d_B_trainRatio_69 ?_
        refine lv_lstore (lv' := [(4, .long (x4 * (s_B_below S (s_N_at S 2 x6) (s_N_at S 3 x6)))), (2, .long (x2 * (s_B_above S (s_N_at S 2 x6) (s_N_at S 3 x6)))), (0, .ref (ad 40)), (1, .int x1), (6, .int x6)]) hx hb d_B_trainRatio_70 hl (by decide) rfl (fun ls hl => ?_)
        refine lv_iinc (v := (x6 + 1)) (lv' := [(6, .int (x6 + 1)), (4, .long (x4 * (s_B_below S (s_N_at S 2 x6) (s_N_at S 3 x6)))), (2, .long (x2 * (s_B_above S (s_N_at S 2 x6) (s_N_at S 3 x6)))), (0, .ref (ad 40)), (1, .int x1)]) hx hb d_B_trainRatio_72 hl (k := 4) rfl rfl (by decide) rfl (fun ls hl => ?_)
        refine lv_goto (tgt := 8) hx hb d_B_trainRatio_75 (by decide) ?_
        exact ih8 x1 (x2 * (s_B_above S (s_N_at S 2 x6) (s_N_at S 3 x6))) (x4 * (s_B_below S (s_N_at S 2 x6) (s_N_at S 3 x6))) (x6 + 1) (UP_up hv c_17) ls (lv_sub hl [3, 4, 2, 1, 0] rfl) (by rw [hq, s_B_trainRatio_b8, if_neg c_17])
  refine lv_lconst (v := (1 : Int64)) hx hb d_B_trainRatio_0 rfl ?_
  refine lv_lstore_n (lv' := [(2, .long (1 : Int64)), (0, .ref (ad 40)), (1, .int a1)]) hx hb d_B_trainRatio_1 rfl hl (by decide) rfl (fun ls hl => ?_)
  refine lv_lconst (v := (1 : Int64)) hx hb d_B_trainRatio_2 rfl ?_
  refine lv_lstore (lv' := [(4, .long (1 : Int64)), (2, .long (1 : Int64)), (0, .ref (ad 40)), (1, .int a1)]) hx hb d_B_trainRatio_3 hl (by decide) rfl (fun ls hl => ?_)
  refine lv_iconst (v := (0 : Int32)) hx hb d_B_trainRatio_5 rfl ?_
  refine lv_istore (lv' := [(6, .int (0 : Int32)), (4, .long (1 : Int64)), (2, .long (1 : Int64)), (0, .ref (ad 40)), (1, .int a1)]) hx hb d_B_trainRatio_6 hl (by decide) rfl (fun ls hl => ?_)
  exact b8 ((S.1 2).toInt.toNat + 1) a1 (1 : Int64) (1 : Int64) (0 : Int32) (UP_in (by decide)) ls (lv_sub hl [3, 4, 2, 1, 0] rfl) (by rw [s_B_trainRatio])

def s_B_hundredthsInTrain (S : St) (a1 : Int32) : Int32 := (s_B_hundredths S (s_N_at S 2 a1) (s_N_at S 3 a1))
set_option maxRecDepth 20000 in
theorem c_B_hundredthsInTrain (l : Launch) (E : Cx) (ad : Nat → Nat) (X : va_W) (S : St) (a1 : Int32) : Met l y_B_hundredthsInTrain (Cond.code y_B_hundredthsInTrain b_B_hundredthsInTrain 2 (some .int) :: TB) (rk 3 64) (va_Pc [.ref (ad 40), .int a1] (preR E (wb E ad S ++ X))) (vp_Si (fun r => r = (s_B_hundredthsInTrain S a1))) 0 0 (fun _ => False) := by
  refine w_roI rfl (Nat.le_of_ble_eq_true rfl) rfl ?_
  intro p e s m args below meth c Q ls hx hb hml hts hown hP hK hl hend
  have hl : lv_has ls 2 [(0, .ref (ad 40)), (1, .int a1)] := hl
  have hP : va_P E.1 vwCl (wb E ad S ++ X) s.heap := hP
  have hown : s.vm.findClass R_B = some m.cls := hown
  refine lv_aload_n hx hb d_B_hundredthsInTrain_0 rfl (lv_at hl 0 rfl) ?_
  refine lv_aload_n hx hb d_B_hundredthsInTrain_1 rfl (lv_at hl 0 rfl) ?_
  refine g_B0_drivers hx hb hts hown hK hP d_B_hundredthsInTrain_2 ?_
  refine lv_iload_n hx hb d_B_hundredthsInTrain_5 rfl (lv_at hl 1 rfl) ?_
  refine k_vi (rest := [.ref (ad 40)]) (c_N_at l E ad X S 2 (Nat.le_of_ble_eq_true rfl) a1) mi_N_at ml_B_45 hx hb hml hts hown hK hP (rvN (Nat.le_of_ble_eq_true rfl)) hl ⟨rfl, rfl⟩ ⟨(Nat.le_of_ble_eq_true rfl), (Nat.le_of_ble_eq_true rfl)⟩ ⟨Nat.zero_le _, Nat.zero_le _⟩ rfl (Nat.le_of_ble_eq_true rfl) rfl d_B_hundredthsInTrain_6 ?_
  refine lv_aload_n hx hb d_B_hundredthsInTrain_9 rfl (lv_at hl 0 rfl) ?_
  refine g_B0_driven hx hb hts hown hK hP d_B_hundredthsInTrain_10 ?_
  refine lv_iload_n hx hb d_B_hundredthsInTrain_13 rfl (lv_at hl 1 rfl) ?_
  refine k_vi (rest := [.int (s_N_at S 2 a1), .ref (ad 40)]) (c_N_at l E ad X S 3 (Nat.le_of_ble_eq_true rfl) a1) mi_N_at ml_B_45 hx hb hml hts hown hK hP (rvN (Nat.le_of_ble_eq_true rfl)) hl ⟨rfl, rfl⟩ ⟨(Nat.le_of_ble_eq_true rfl), (Nat.le_of_ble_eq_true rfl)⟩ ⟨Nat.zero_le _, Nat.zero_le _⟩ rfl (Nat.le_of_ble_eq_true rfl) rfl d_B_hundredthsInTrain_14 ?_
  refine k_vi (rest := []) (c_B_hundredths l E ad X S (s_N_at S 2 a1) (s_N_at S 3 a1)) mi_B_hundredths ml_B_147 hx hb hml hts hown hK hP rvB0 hl ⟨rfl, rfl⟩ ⟨(Nat.le_of_ble_eq_true rfl), (Nat.le_of_ble_eq_true rfl)⟩ ⟨Nat.zero_le _, Nat.zero_le _⟩ rfl (Nat.le_of_ble_eq_true rfl) rfl d_B_hundredthsInTrain_17 ?_
  exact hend _ _ _ (by rw [s_B_hundredthsInTrain]) d_B_hundredthsInTrain_20

def s_B_nearestPair_b4 (S : St) : Nat → Int32 → Int32 → Int32
  | 0, _, _ => 0
  | n + 1, x1, x2 => (if (s_N_size S 2) ≤ x2 then x1 else (if (s_B_hundredthsInTrain S x1) ≤ (s_B_hundredthsInTrain S x2) then (s_B_nearestPair_b4 S n x1 (x2 + 1)) else (s_B_nearestPair_b4 S n x2 (x2 + 1))))
def s_B_nearestPair (S : St) : Int32 := (s_B_nearestPair_b4 S ((S.1 2).toInt.toNat + 1) (0 : Int32) (1 : Int32))
set_option maxRecDepth 20000 in
theorem c_B_nearestPair (l : Launch) (E : Cx) (ad : Nat → Nat) (X : va_W) (S : St) : Met l y_B_nearestPair (Cond.code y_B_nearestPair b_B_nearestPair 3 (some .int) :: TB) (rk 4 85) (va_Pc [.ref (ad 40)] (preR E (wb E ad S ++ X))) (vp_Si (fun r => r = (s_B_nearestPair S))) 0 0 (fun _ => False) := by
  refine w_roI rfl (Nat.le_of_ble_eq_true rfl) rfl ?_
  intro p e s m args below meth c Q ls hx hb hml hts hown hP hK hl hend
  have hl : lv_has ls 3 [(0, .ref (ad 40))] := hl
  have hP : va_P E.1 vwCl (wb E ad S ++ X) s.heap := hP
  have hown : s.vm.findClass R_B = some m.cls := hown
  have b4 : ∀ (n : Nat) (x1 : Int32) (x2 : Int32), (UP n (S.1 2) x2) → ∀ (ls : Array Slot), lv_has ls 3 [(0, .ref (ad 40)), (1, .int x1), (2, .int x2)] → (s_B_nearestPair S) = s_B_nearestPair_b4 S n x1 x2 → W p l e (rk 4 85) s m args below meth c s.heap [] 0 0 Q (F0 m 4 ls []) := by
    intro n4
    induction n4 with
    | zero => intro x1 x2 hv; exact absurd hv (UP_z)
    | succ n4 ih4 =>
      intro x1 x2 hv ls hl hq
      refine lv_iload_n hx hb d_B_nearestPair_4 rfl (lv_at hl 2 rfl) ?_
      refine lv_aload_n hx hb d_B_nearestPair_5 rfl (lv_at hl 0 rfl) ?_
      refine g_B0_drivers hx hb hts hown hK hP d_B_nearestPair_6 ?_
      refine k_vi (rest := [.int x2]) (c_N_size l E ad X S 2 (Nat.le_of_ble_eq_true rfl)) mi_N_size ml_B_37 hx hb hml hts hown hK hP (rvN (Nat.le_of_ble_eq_true rfl)) hl ⟨rfl, rfl⟩ ⟨(Nat.le_of_ble_eq_true rfl), (Nat.le_of_ble_eq_true rfl)⟩ ⟨Nat.zero_le _, Nat.zero_le _⟩ rfl (Nat.le_of_ble_eq_true rfl) rfl d_B_nearestPair_9 ?_
      refine lv_icmp_ge (tgt := 36) hx hb d_B_nearestPair_12 (by decide) (fun c_12 => ?_) (fun c_12 => ?_)
      · refine lv_iload_n hx hb d_B_nearestPair_36 rfl (lv_at hl 1 rfl) ?_
        exact hend _ _ _ (by rw [hq, s_B_nearestPair_b4, if_pos c_12]) d_B_nearestPair_37
      · refine lv_aload_n hx hb d_B_nearestPair_15 rfl (lv_at hl 0 rfl) ?_
        refine lv_iload_n hx hb d_B_nearestPair_16 rfl (lv_at hl 2 rfl) ?_
        refine k_vi (rest := []) (c_B_hundredthsInTrain l E ad X S x2) mi_B_hundredthsInTrain ml_B_150 hx hb hml hts hown hK hP rvB0 hl ⟨rfl, rfl⟩ ⟨(Nat.le_of_ble_eq_true rfl), (Nat.le_of_ble_eq_true rfl)⟩ ⟨Nat.zero_le _, Nat.zero_le _⟩ rfl (Nat.le_of_ble_eq_true rfl) rfl d_B_nearestPair_17 ?_
        refine lv_aload_n hx hb d_B_nearestPair_20 rfl (lv_at hl 0 rfl) ?_
        refine lv_iload_n hx hb d_B_nearestPair_21 rfl (lv_at hl 1 rfl) ?_
        refine k_vi (rest := [.int (s_B_hundredthsInTrain S x2)]) (c_B_hundredthsInTrain l E ad X S x1) mi_B_hundredthsInTrain ml_B_150 hx hb hml hts hown hK hP rvB0 hl ⟨rfl, rfl⟩ ⟨(Nat.le_of_ble_eq_true rfl), (Nat.le_of_ble_eq_true rfl)⟩ ⟨Nat.zero_le _, Nat.zero_le _⟩ rfl (Nat.le_of_ble_eq_true rfl) rfl d_B_nearestPair_22 ?_
        refine lv_icmp_ge (tgt := 30) hx hb d_B_nearestPair_25 (by decide) (fun c_25 => ?_) (fun c_25 => ?_)
        · refine lv_iinc (v := (x2 + 1)) (lv' := [(2, .int (x2 + 1)), (0, .ref (ad 40)), (1, .int x1)]) hx hb d_B_nearestPair_30 hl (k := 2) rfl rfl (by decide) rfl (fun ls hl => ?_)
          refine lv_goto (tgt := 4) hx hb d_B_nearestPair_33 (by decide) ?_
          exact ih4 x1 (x2 + 1) (UP_up hv c_12) ls (lv_sub hl [1, 2, 0] rfl) (by rw [hq, s_B_nearestPair_b4, if_neg c_12, if_pos c_25])
        · refine lv_iload_n hx hb d_B_nearestPair_28 rfl (lv_at hl 2 rfl) ?_
          refine lv_istore_n (lv' := [(1, .int x2), (0, .ref (ad 40)), (2, .int x2)]) hx hb d_B_nearestPair_29 rfl hl (by decide) rfl (fun ls hl => ?_)
          refine lv_iinc (v := (x2 + 1)) (lv' := [(2, .int (x2 + 1)), (1, .int x2), (0, .ref (ad 40))]) hx hb d_B_nearestPair_30 hl (k := 2) rfl rfl (by decide) rfl (fun ls hl => ?_)
          refine lv_goto (tgt := 4) hx hb d_B_nearestPair_33 (by decide) ?_
          exact ih4 x2 (x2 + 1) (UP_up hv c_12) ls (lv_sub hl [2, 1, 0] rfl) (by rw [hq, s_B_nearestPair_b4, if_neg c_12, if_neg c_25])
  refine lv_iconst (v := (0 : Int32)) hx hb d_B_nearestPair_0 rfl ?_
  refine lv_istore_n (lv' := [(1, .int (0 : Int32)), (0, .ref (ad 40))]) hx hb d_B_nearestPair_1 rfl hl (by decide) rfl (fun ls hl => ?_)
  refine lv_iconst (v := (1 : Int32)) hx hb d_B_nearestPair_2 rfl ?_
  refine lv_istore_n (lv' := [(2, .int (1 : Int32)), (1, .int (0 : Int32)), (0, .ref (ad 40))]) hx hb d_B_nearestPair_3 rfl hl (by decide) rfl (fun ls hl => ?_)
  exact b4 ((S.1 2).toInt.toNat + 1) (0 : Int32) (1 : Int32) (UP_in (by decide)) ls (lv_sub hl [2, 1, 0] rfl) (by rw [s_B_nearestPair])

def s_B_cosine (S : St) : Int64 := (s_P_root (((10000 : Int64) - ((s_B_square S).toInt64)) * (10000 : Int64)))
set_option maxRecDepth 20000 in
theorem c_B_cosine (l : Launch) (E : Cx) (ad : Nat → Nat) (X : va_W) (S : St) : Met l y_B_cosine (Cond.code y_B_cosine b_B_cosine 1 (some .long) :: TB) (rk 1 26) (va_Pc [.ref (ad 40)] (preR E (wb E ad S ++ X))) (vp_Sl (fun r => r = (s_B_cosine S))) 0 0 (fun _ => False) := by
  refine w_roL rfl (Nat.le_of_ble_eq_true rfl) ?_
  intro p e s m args below meth c Q ls hx hb hml hts hown hP hK hl hend
  have hl : lv_has ls 1 [(0, .ref (ad 40))] := hl
  have hP : va_P E.1 vwCl (wb E ad S ++ X) s.heap := hP
  have hown : s.vm.findClass R_B = some m.cls := hown
  refine lv_ldc2 (v := (10000 : Int64)) hx hb hown (hts _ kl_B_153) d_B_cosine_0 ?_
  refine lv_aload_n hx hb d_B_cosine_3 rfl (lv_at hl 0 rfl) ?_
  refine k_vi (rest := [.long (10000 : Int64)]) (c_B_square l E ad X S) mi_B_square ml_B_101 hx hb hml hts hown hK hP rvB0 hl ⟨rfl, rfl⟩ ⟨(Nat.le_of_ble_eq_true rfl), (Nat.le_of_ble_eq_true rfl)⟩ ⟨Nat.zero_le _, Nat.zero_le _⟩ rfl (Nat.le_of_ble_eq_true rfl) rfl d_B_cosine_4 ?_
  refine lv_i2l hx hb d_B_cosine_7 rfl ?_
  refine lv_lsub hx hb d_B_cosine_8 ?_
  refine lv_ldc2 (v := (10000 : Int64)) hx hb hown (hts _ kl_B_153) d_B_cosine_9 ?_
  refine lv_lmul hx hb d_B_cosine_12 ?_
  refine k_nl (rest := []) (c_P_root l E (((10000 : Int64) - ((s_B_square S).toInt64)) * (10000 : Int64))) mi_P_root nw_B_155 hx hb hml hts hown hK va_nil hl ⟨rfl, rfl⟩ ⟨(Nat.le_of_ble_eq_true rfl), (Nat.le_of_ble_eq_true rfl)⟩ ⟨Nat.zero_le _, Nat.zero_le _⟩ rfl (Nat.le_of_ble_eq_true rfl) rfl d_B_cosine_13 ?_
  exact hend _ _ _ (by rw [s_B_cosine]) d_B_cosine_16

def s_B_reach (S : St) (a1 : Int32) : Int64 := (if 0 ≤ (lg_cmp (((((4 : Int64) * (((s_B_arm S a1) + (100 : Int32)).toInt64)) * (((s_B_arm S a1) + (100 : Int32)).toInt64)) - ((((s_N_at S 0 a1).toInt64) * ((s_N_at S 0 a1).toInt64)) * (((10000 : Int32) - (s_B_square S)).toInt64))) * (2500 : Int64)) (0 : Int64)) then (s_P_root (((((4 : Int64) * (((s_B_arm S a1) + (100 : Int32)).toInt64)) * (((s_B_arm S a1) + (100 : Int32)).toInt64)) - ((((s_N_at S 0 a1).toInt64) * ((s_N_at S 0 a1).toInt64)) * (((10000 : Int32) - (s_B_square S)).toInt64))) * (2500 : Int64))) else (0 : Int64))
set_option maxRecDepth 20000 in
theorem c_B_reach (l : Launch) (E : Cx) (ad : Nat → Nat) (X : va_W) (S : St) (a1 : Int32) : Met l y_B_reach (Cond.code y_B_reach b_B_reach 10 (some .long) :: TB) (rk 2 42) (va_Pc [.ref (ad 40), .int a1] (preR E (wb E ad S ++ X))) (vp_Sl (fun r => r = (s_B_reach S a1))) 0 0 (fun _ => False) := by
  refine w_roL rfl (Nat.le_of_ble_eq_true rfl) ?_
  intro p e s m args below meth c Q ls hx hb hml hts hown hP hK hl hend
  have hl : lv_has ls 10 [(0, .ref (ad 40)), (1, .int a1)] := hl
  have hP : va_P E.1 vwCl (wb E ad S ++ X) s.heap := hP
  have hown : s.vm.findClass R_B = some m.cls := hown
  refine lv_aload_n hx hb d_B_reach_0 rfl (lv_at hl 0 rfl) ?_
  refine lv_iload_n hx hb d_B_reach_1 rfl (lv_at hl 1 rfl) ?_
  refine k_vi (rest := []) (c_B_arm l E ad X S a1) mi_B_arm ml_B_130 hx hb hml hts hown hK hP rvB0 hl ⟨rfl, rfl⟩ ⟨(Nat.le_of_ble_eq_true rfl), (Nat.le_of_ble_eq_true rfl)⟩ ⟨Nat.zero_le _, Nat.zero_le _⟩ rfl (Nat.le_of_ble_eq_true rfl) rfl d_B_reach_2 ?_
  refine lv_bipush (v := (100 : Int32)) hx hb d_B_reach_5 rfl ?_
  refine lv_iadd hx hb d_B_reach_7 ?_
  refine lv_i2l hx hb d_B_reach_8 rfl ?_
  refine lv_lstore_n (lv' := [(2, .long (((s_B_arm S a1) + (100 : Int32)).toInt64)), (0, .ref (ad 40)), (1, .int a1)]) hx hb d_B_reach_9 rfl hl (by decide) rfl (fun ls hl => ?_)
  refine lv_aload_n hx hb d_B_reach_10 rfl (lv_at hl 1 rfl) ?_
  refine g_B0_teeth hx hb hts hown hK hP d_B_reach_11 ?_
  refine lv_iload_n hx hb d_B_reach_14 rfl (lv_at hl 2 rfl) ?_
  refine k_vi (rest := []) (c_N_at l E ad X S 0 (Nat.le_of_ble_eq_true rfl) a1) mi_N_at ml_B_45 hx hb hml hts hown hK hP (rvN (Nat.le_of_ble_eq_true rfl)) hl ⟨rfl, rfl⟩ ⟨(Nat.le_of_ble_eq_true rfl), (Nat.le_of_ble_eq_true rfl)⟩ ⟨Nat.zero_le _, Nat.zero_le _⟩ rfl (Nat.le_of_ble_eq_true rfl) rfl d_B_reach_15 ?_
  refine lv_i2l hx hb d_B_reach_18 rfl ?_
  refine lv_lstore (lv' := [(4, .long ((s_N_at S 0 a1).toInt64)), (2, .long (((s_B_arm S a1) + (100 : Int32)).toInt64)), (0, .ref (ad 40)), (1, .int a1)]) hx hb d_B_reach_19 hl (by decide) rfl (fun ls hl => ?_)
  refine lv_sipush (v := (10000 : Int32)) hx hb d_B_reach_21 rfl ?_
  refine lv_aload_n hx hb d_B_reach_24 rfl (lv_at hl 2 rfl) ?_
  refine k_vi (rest := [.int (10000 : Int32)]) (c_B_square l E ad X S) mi_B_square ml_B_101 hx hb hml hts hown hK hP rvB0 hl ⟨rfl, rfl⟩ ⟨(Nat.le_of_ble_eq_true rfl), (Nat.le_of_ble_eq_true rfl)⟩ ⟨Nat.zero_le _, Nat.zero_le _⟩ rfl (Nat.le_of_ble_eq_true rfl) rfl d_B_reach_25 ?_
  refine lv_isub hx hb d_B_reach_28 ?_
  refine lv_i2l hx hb d_B_reach_29 rfl ?_
  refine lv_lstore (lv' := [(6, .long (((10000 : Int32) - (s_B_square S)).toInt64)), (4, .long ((s_N_at S 0 a1).toInt64)), (2, .long (((s_B_arm S a1) + (100 : Int32)).toInt64)), (0, .ref (ad 40)), (1, .int a1)]) hx hb d_B_reach_30 hl (by decide) rfl (fun ls hl => ?_)
  refine lv_ldc2 (v := (4 : Int64)) hx hb hown (hts _ kl_B_159) d_B_reach_32 ?_
  refine lv_lload_n hx hb d_B_reach_35 rfl (lv_at hl 2 rfl) ?_
  refine lv_lmul hx hb d_B_reach_36 ?_
  refine lv_lload_n hx hb d_B_reach_37 rfl (lv_at hl 2 rfl) ?_
  refine lv_lmul hx hb d_B_reach_38 ?_
  refine lv_lload hx hb d_B_reach_39 (lv_at hl 1 rfl) ?_
  refine lv_lload hx hb d_B_reach_41 (lv_at hl 1 rfl) ?_
  refine lv_lmul hx hb d_B_reach_43 ?_
  refine lv_lload hx hb d_B_reach_44 (lv_at hl 0 rfl) ?_
  refine lv_lmul hx hb d_B_reach_46 ?_
  refine lv_lsub hx hb d_B_reach_47 ?_
  refine lv_ldc2 (v := (2500 : Int64)) hx hb hown (hts _ kl_B_161) d_B_reach_48 ?_
  refine lv_lmul hx hb d_B_reach_51 ?_
  refine lv_lstore (lv' := [(8, .long (((((4 : Int64) * (((s_B_arm S a1) + (100 : Int32)).toInt64)) * (((s_B_arm S a1) + (100 : Int32)).toInt64)) - ((((s_N_at S 0 a1).toInt64) * ((s_N_at S 0 a1).toInt64)) * (((10000 : Int32) - (s_B_square S)).toInt64))) * (2500 : Int64))), (6, .long (((10000 : Int32) - (s_B_square S)).toInt64)), (4, .long ((s_N_at S 0 a1).toInt64)), (2, .long (((s_B_arm S a1) + (100 : Int32)).toInt64)), (0, .ref (ad 40)), (1, .int a1)]) hx hb d_B_reach_52 hl (by decide) rfl (fun ls hl => ?_)
  refine lv_lload hx hb d_B_reach_54 (lv_at hl 0 rfl) ?_
  refine lv_lconst (v := (0 : Int64)) hx hb d_B_reach_56 rfl ?_
  refine W.lcmp hx hb d_B_reach_57 ?_
  refine lv_if_ge (tgt := 65) hx hb d_B_reach_58 (by decide) (fun c_58 => ?_) (fun c_58 => ?_)
  · refine lv_lload hx hb d_B_reach_65 (lv_at hl 0 rfl) ?_
    refine k_nl (rest := []) (c_P_root l E (((((4 : Int64) * (((s_B_arm S a1) + (100 : Int32)).toInt64)) * (((s_B_arm S a1) + (100 : Int32)).toInt64)) - ((((s_N_at S 0 a1).toInt64) * ((s_N_at S 0 a1).toInt64)) * (((10000 : Int32) - (s_B_square S)).toInt64))) * (2500 : Int64))) mi_P_root nw_B_155 hx hb hml hts hown hK va_nil hl ⟨rfl, rfl⟩ ⟨(Nat.le_of_ble_eq_true rfl), (Nat.le_of_ble_eq_true rfl)⟩ ⟨Nat.zero_le _, Nat.zero_le _⟩ rfl (Nat.le_of_ble_eq_true rfl) rfl d_B_reach_67 ?_
    exact hend _ _ _ (by rw [s_B_reach, if_pos c_58]) d_B_reach_70
  · refine lv_lconst (v := (0 : Int64)) hx hb d_B_reach_61 rfl ?_
    refine lv_goto (tgt := 70) hx hb d_B_reach_62 (by decide) ?_
    exact hend _ _ _ (by rw [s_B_reach, if_neg c_58]) d_B_reach_70

def s_B_path (S : St) (a1 : Int32) (a2 : Int32) : Int64 := (((s_B_reach S a1) + (s_B_reach S a2)) - (s_P_root (((((s_B_arm S a1) + (s_B_arm S a2)).toInt64) * (((s_B_arm S a1) + (s_B_arm S a2)).toInt64)) * ((s_B_square S).toInt64))))
set_option maxRecDepth 20000 in
theorem c_B_path (l : Launch) (E : Cx) (ad : Nat → Nat) (X : va_W) (S : St) (a1 : Int32) (a2 : Int32) : Met l y_B_path (Cond.code y_B_path b_B_path 5 (some .long) :: TB) (rk 3 71) (va_Pc [.ref (ad 40), .int a1, .int a2] (preR E (wb E ad S ++ X))) (vp_Sl (fun r => r = (s_B_path S a1 a2))) 0 0 (fun _ => False) := by
  refine w_roL rfl (Nat.le_of_ble_eq_true rfl) ?_
  intro p e s m args below meth c Q ls hx hb hml hts hown hP hK hl hend
  have hl : lv_has ls 5 [(0, .ref (ad 40)), (1, .int a1), (2, .int a2)] := hl
  have hP : va_P E.1 vwCl (wb E ad S ++ X) s.heap := hP
  have hown : s.vm.findClass R_B = some m.cls := hown
  refine lv_aload_n hx hb d_B_path_0 rfl (lv_at hl 0 rfl) ?_
  refine lv_iload_n hx hb d_B_path_1 rfl (lv_at hl 1 rfl) ?_
  refine k_vi (rest := []) (c_B_arm l E ad X S a1) mi_B_arm ml_B_130 hx hb hml hts hown hK hP rvB0 hl ⟨rfl, rfl⟩ ⟨(Nat.le_of_ble_eq_true rfl), (Nat.le_of_ble_eq_true rfl)⟩ ⟨Nat.zero_le _, Nat.zero_le _⟩ rfl (Nat.le_of_ble_eq_true rfl) rfl d_B_path_2 ?_
  refine lv_aload_n hx hb d_B_path_5 rfl (lv_at hl 0 rfl) ?_
  refine lv_iload_n hx hb d_B_path_6 rfl (lv_at hl 2 rfl) ?_
  refine k_vi (rest := [.int (s_B_arm S a1)]) (c_B_arm l E ad X S a2) mi_B_arm ml_B_130 hx hb hml hts hown hK hP rvB0 hl ⟨rfl, rfl⟩ ⟨(Nat.le_of_ble_eq_true rfl), (Nat.le_of_ble_eq_true rfl)⟩ ⟨Nat.zero_le _, Nat.zero_le _⟩ rfl (Nat.le_of_ble_eq_true rfl) rfl d_B_path_7 ?_
  refine lv_iadd hx hb d_B_path_10 ?_
  refine lv_i2l hx hb d_B_path_11 rfl ?_
  refine lv_lstore_n (lv' := [(3, .long (((s_B_arm S a1) + (s_B_arm S a2)).toInt64)), (0, .ref (ad 40)), (1, .int a1), (2, .int a2)]) hx hb d_B_path_12 rfl hl (by decide) rfl (fun ls hl => ?_)
  refine lv_aload_n hx hb d_B_path_13 rfl (lv_at hl 1 rfl) ?_
  refine lv_iload_n hx hb d_B_path_14 rfl (lv_at hl 2 rfl) ?_
  refine k_vl (rest := []) (c_B_reach l E ad X S a1) mi_B_reach ml_B_163 hx hb hml hts hown hK hP rvB0 hl ⟨rfl, rfl⟩ ⟨(Nat.le_of_ble_eq_true rfl), (Nat.le_of_ble_eq_true rfl)⟩ ⟨Nat.zero_le _, Nat.zero_le _⟩ rfl (Nat.le_of_ble_eq_true rfl) rfl d_B_path_15 ?_
  refine lv_aload_n hx hb d_B_path_18 rfl (lv_at hl 1 rfl) ?_
  refine lv_iload_n hx hb d_B_path_19 rfl (lv_at hl 3 rfl) ?_
  refine k_vl (rest := [.long (s_B_reach S a1)]) (c_B_reach l E ad X S a2) mi_B_reach ml_B_163 hx hb hml hts hown hK hP rvB0 hl ⟨rfl, rfl⟩ ⟨(Nat.le_of_ble_eq_true rfl), (Nat.le_of_ble_eq_true rfl)⟩ ⟨Nat.zero_le _, Nat.zero_le _⟩ rfl (Nat.le_of_ble_eq_true rfl) rfl d_B_path_20 ?_
  refine lv_ladd hx hb d_B_path_23 ?_
  refine lv_lload_n hx hb d_B_path_24 rfl (lv_at hl 0 rfl) ?_
  refine lv_lload_n hx hb d_B_path_25 rfl (lv_at hl 0 rfl) ?_
  refine lv_lmul hx hb d_B_path_26 ?_
  refine lv_aload_n hx hb d_B_path_27 rfl (lv_at hl 1 rfl) ?_
  refine k_vi (rest := [.long ((((s_B_arm S a1) + (s_B_arm S a2)).toInt64) * (((s_B_arm S a1) + (s_B_arm S a2)).toInt64)), .long ((s_B_reach S a1) + (s_B_reach S a2))]) (c_B_square l E ad X S) mi_B_square ml_B_101 hx hb hml hts hown hK hP rvB0 hl ⟨rfl, rfl⟩ ⟨(Nat.le_of_ble_eq_true rfl), (Nat.le_of_ble_eq_true rfl)⟩ ⟨Nat.zero_le _, Nat.zero_le _⟩ rfl (Nat.le_of_ble_eq_true rfl) rfl d_B_path_28 ?_
  refine lv_i2l hx hb d_B_path_31 rfl ?_
  refine lv_lmul hx hb d_B_path_32 ?_
  refine k_nl (rest := [.long ((s_B_reach S a1) + (s_B_reach S a2))]) (c_P_root l E (((((s_B_arm S a1) + (s_B_arm S a2)).toInt64) * (((s_B_arm S a1) + (s_B_arm S a2)).toInt64)) * ((s_B_square S).toInt64))) mi_P_root nw_B_155 hx hb hml hts hown hK va_nil hl ⟨rfl, rfl⟩ ⟨(Nat.le_of_ble_eq_true rfl), (Nat.le_of_ble_eq_true rfl)⟩ ⟨Nat.zero_le _, Nat.zero_le _⟩ rfl (Nat.le_of_ble_eq_true rfl) rfl d_B_path_33 ?_
  refine lv_lsub hx hb d_B_path_36 ?_
  exact hend _ _ _ (by rw [s_B_path]) d_B_path_37

def s_B_lowContact_b35 (S : St) (t0 : Int64) : Int64 := (if t0 < (0 : Int64) then (0 : Int64) else t0)
def s_B_lowContact (S : St) (a1 : Int32) (a2 : Int32) : Int64 := (if (lg_cmp ((31416 : Int64) * ((s_B_cosine S) + (1 : Int64))) (0 : Int64)) = 0 then (s_B_lowContact_b35 S (0 : Int64)) else (s_B_lowContact_b35 S ((((s_B_path S a1 a2) - (1 : Int64)) * (10000000 : Int64)) / ((31416 : Int64) * ((s_B_cosine S) + (1 : Int64))))))
set_option maxRecDepth 20000 in
theorem c_B_lowContact (l : Launch) (E : Cx) (ad : Nat → Nat) (X : va_W) (S : St) (a1 : Int32) (a2 : Int32) : Met l y_B_lowContact (Cond.code y_B_lowContact b_B_lowContact 7 (some .long) :: TB) (rk 4 95) (va_Pc [.ref (ad 40), .int a1, .int a2] (preR E (wb E ad S ++ X))) (vp_Sl (fun r => r = (s_B_lowContact S a1 a2))) 0 0 (fun _ => False) := by
  refine w_roL rfl (Nat.le_of_ble_eq_true rfl) ?_
  intro p e s m args below meth c Q ls hx hb hml hts hown hP hK hl hend
  have hl : lv_has ls 7 [(0, .ref (ad 40)), (1, .int a1), (2, .int a2)] := hl
  have hP : va_P E.1 vwCl (wb E ad S ++ X) s.heap := hP
  have hown : s.vm.findClass R_B = some m.cls := hown
  have b35 : ∀ (t0 : Int64), ∀ (ls : Array Slot), lv_has ls 7 [] → (s_B_lowContact S a1 a2) = s_B_lowContact_b35 S t0 → W p l e (rk 4 95) s m args below meth c s.heap [] 0 0 Q (F0 m 35 ls [.long t0]) := by
    intro t0 ls hl hq
    refine lv_lstore (lv' := [(5, .long t0)]) hx hb d_B_lowContact_35 hl (by decide) rfl (fun ls hl => ?_)
    refine lv_lconst (v := (0 : Int64)) hx hb d_B_lowContact_37 rfl ?_
    refine lv_lload hx hb d_B_lowContact_38 (lv_at hl 0 rfl) ?_
    refine va_mmax_long hx hb (hml.trans hl.1.symm) hown (hts _ ml_B_178) (hts _ st_mmaxl) (hts _ iz_Math) (hts _ co_mmaxl) (Nat.le_of_ble_eq_true rfl) (Nat.le_of_ble_eq_true rfl) (Nat.zero_le _) (Nat.zero_le _) d_B_lowContact_40 ?_
    exact hend _ _ _ (by rw [hq, s_B_lowContact_b35]) d_B_lowContact_43
  refine lv_ldc2 (v := (31416 : Int64)) hx hb hown (hts _ kl_B_167) d_B_lowContact_0 ?_
  refine lv_aload_n hx hb d_B_lowContact_3 rfl (lv_at hl 0 rfl) ?_
  refine k_vl (rest := [.long (31416 : Int64)]) (c_B_cosine l E ad X S) mi_B_cosine ml_B_169 hx hb hml hts hown hK hP rvB0 hl ⟨rfl, rfl⟩ ⟨(Nat.le_of_ble_eq_true rfl), (Nat.le_of_ble_eq_true rfl)⟩ ⟨Nat.zero_le _, Nat.zero_le _⟩ rfl (Nat.le_of_ble_eq_true rfl) rfl d_B_lowContact_4 ?_
  refine lv_lconst (v := (1 : Int64)) hx hb d_B_lowContact_7 rfl ?_
  refine lv_ladd hx hb d_B_lowContact_8 ?_
  refine lv_lmul hx hb d_B_lowContact_9 ?_
  refine lv_lstore_n (lv' := [(3, .long ((31416 : Int64) * ((s_B_cosine S) + (1 : Int64)))), (0, .ref (ad 40)), (1, .int a1), (2, .int a2)]) hx hb d_B_lowContact_10 rfl hl (by decide) rfl (fun ls hl => ?_)
  refine lv_lload_n hx hb d_B_lowContact_11 rfl (lv_at hl 0 rfl) ?_
  refine lv_lconst (v := (0 : Int64)) hx hb d_B_lowContact_12 rfl ?_
  refine W.lcmp hx hb d_B_lowContact_13 ?_
  refine lv_if_ne (tgt := 21) hx hb d_B_lowContact_14 (by decide) (fun c_14 => ?_) (fun c_14 => ?_)
  · refine lv_aload_n hx hb d_B_lowContact_21 rfl (lv_at hl 1 rfl) ?_
    refine lv_iload_n hx hb d_B_lowContact_22 rfl (lv_at hl 2 rfl) ?_
    refine lv_iload_n hx hb d_B_lowContact_23 rfl (lv_at hl 3 rfl) ?_
    refine k_vl (rest := []) (c_B_path l E ad X S a1 a2) mi_B_path ml_B_173 hx hb hml hts hown hK hP rvB0 hl ⟨rfl, rfl⟩ ⟨(Nat.le_of_ble_eq_true rfl), (Nat.le_of_ble_eq_true rfl)⟩ ⟨Nat.zero_le _, Nat.zero_le _⟩ rfl (Nat.le_of_ble_eq_true rfl) rfl d_B_lowContact_24 ?_
    refine lv_lconst (v := (1 : Int64)) hx hb d_B_lowContact_27 rfl ?_
    refine lv_lsub hx hb d_B_lowContact_28 ?_
    refine lv_ldc2 (v := (10000000 : Int64)) hx hb hown (hts _ kl_B_176) d_B_lowContact_29 ?_
    refine lv_lmul hx hb d_B_lowContact_32 ?_
    refine lv_lload_n hx hb d_B_lowContact_33 rfl (lv_at hl 0 rfl) ?_
    refine lv_ldiv hx hb d_B_lowContact_34 (lcmp_ne c_14) ?_
    exact b35 ((((s_B_path S a1 a2) - (1 : Int64)) * (10000000 : Int64)) / ((31416 : Int64) * ((s_B_cosine S) + (1 : Int64)))) ls (lv_sub hl [] rfl) (by rw [s_B_lowContact, if_neg c_14])
  · refine lv_lconst (v := (0 : Int64)) hx hb d_B_lowContact_17 rfl ?_
    refine lv_goto (tgt := 35) hx hb d_B_lowContact_18 (by decide) ?_
    exact b35 (0 : Int64) ls (lv_sub hl [] rfl) (by rw [s_B_lowContact, if_pos c_14])

def s_B_highContact_b35 (S : St) (t0 : Int64) : Int64 := (if (t0 + (1 : Int64)) < (0 : Int64) then (0 : Int64) else (t0 + (1 : Int64)))
def s_B_highContact (S : St) (a1 : Int32) (a2 : Int32) : Int64 := (if (lg_cmp ((31415 : Int64) * (s_B_cosine S)) (0 : Int64)) = 0 then (s_B_highContact_b35 S (0 : Int64)) else (s_B_highContact_b35 S ((((s_B_path S a1 a2) + (2 : Int64)) * (10000000 : Int64)) / ((31415 : Int64) * (s_B_cosine S)))))
set_option maxRecDepth 20000 in
theorem c_B_highContact (l : Launch) (E : Cx) (ad : Nat → Nat) (X : va_W) (S : St) (a1 : Int32) (a2 : Int32) : Met l y_B_highContact (Cond.code y_B_highContact b_B_highContact 7 (some .long) :: TB) (rk 4 95) (va_Pc [.ref (ad 40), .int a1, .int a2] (preR E (wb E ad S ++ X))) (vp_Sl (fun r => r = (s_B_highContact S a1 a2))) 0 0 (fun _ => False) := by
  refine w_roL rfl (Nat.le_of_ble_eq_true rfl) ?_
  intro p e s m args below meth c Q ls hx hb hml hts hown hP hK hl hend
  have hl : lv_has ls 7 [(0, .ref (ad 40)), (1, .int a1), (2, .int a2)] := hl
  have hP : va_P E.1 vwCl (wb E ad S ++ X) s.heap := hP
  have hown : s.vm.findClass R_B = some m.cls := hown
  have b35 : ∀ (t0 : Int64), ∀ (ls : Array Slot), lv_has ls 7 [] → (s_B_highContact S a1 a2) = s_B_highContact_b35 S t0 → W p l e (rk 4 95) s m args below meth c s.heap [] 0 0 Q (F0 m 35 ls [.long t0]) := by
    intro t0 ls hl hq
    refine lv_lstore (lv' := [(5, .long t0)]) hx hb d_B_highContact_35 hl (by decide) rfl (fun ls hl => ?_)
    refine lv_lconst (v := (0 : Int64)) hx hb d_B_highContact_37 rfl ?_
    refine lv_lload hx hb d_B_highContact_38 (lv_at hl 0 rfl) ?_
    refine lv_lconst (v := (1 : Int64)) hx hb d_B_highContact_40 rfl ?_
    refine lv_ladd hx hb d_B_highContact_41 ?_
    refine va_mmax_long hx hb (hml.trans hl.1.symm) hown (hts _ ml_B_178) (hts _ st_mmaxl) (hts _ iz_Math) (hts _ co_mmaxl) (Nat.le_of_ble_eq_true rfl) (Nat.le_of_ble_eq_true rfl) (Nat.zero_le _) (Nat.zero_le _) d_B_highContact_42 ?_
    exact hend _ _ _ (by rw [hq, s_B_highContact_b35]) d_B_highContact_45
  refine lv_ldc2 (v := (31415 : Int64)) hx hb hown (hts _ kl_B_181) d_B_highContact_0 ?_
  refine lv_aload_n hx hb d_B_highContact_3 rfl (lv_at hl 0 rfl) ?_
  refine k_vl (rest := [.long (31415 : Int64)]) (c_B_cosine l E ad X S) mi_B_cosine ml_B_169 hx hb hml hts hown hK hP rvB0 hl ⟨rfl, rfl⟩ ⟨(Nat.le_of_ble_eq_true rfl), (Nat.le_of_ble_eq_true rfl)⟩ ⟨Nat.zero_le _, Nat.zero_le _⟩ rfl (Nat.le_of_ble_eq_true rfl) rfl d_B_highContact_4 ?_
  refine lv_lmul hx hb d_B_highContact_7 ?_
  refine lv_lstore_n (lv' := [(3, .long ((31415 : Int64) * (s_B_cosine S))), (0, .ref (ad 40)), (1, .int a1), (2, .int a2)]) hx hb d_B_highContact_8 rfl hl (by decide) rfl (fun ls hl => ?_)
  refine lv_lload_n hx hb d_B_highContact_9 rfl (lv_at hl 0 rfl) ?_
  refine lv_lconst (v := (0 : Int64)) hx hb d_B_highContact_10 rfl ?_
  refine W.lcmp hx hb d_B_highContact_11 ?_
  refine lv_if_ne (tgt := 19) hx hb d_B_highContact_12 (by decide) (fun c_12 => ?_) (fun c_12 => ?_)
  · refine lv_aload_n hx hb d_B_highContact_19 rfl (lv_at hl 1 rfl) ?_
    refine lv_iload_n hx hb d_B_highContact_20 rfl (lv_at hl 2 rfl) ?_
    refine lv_iload_n hx hb d_B_highContact_21 rfl (lv_at hl 3 rfl) ?_
    refine k_vl (rest := []) (c_B_path l E ad X S a1 a2) mi_B_path ml_B_173 hx hb hml hts hown hK hP rvB0 hl ⟨rfl, rfl⟩ ⟨(Nat.le_of_ble_eq_true rfl), (Nat.le_of_ble_eq_true rfl)⟩ ⟨Nat.zero_le _, Nat.zero_le _⟩ rfl (Nat.le_of_ble_eq_true rfl) rfl d_B_highContact_22 ?_
    refine lv_ldc2 (v := (2 : Int64)) hx hb hown (hts _ kl_B_183) d_B_highContact_25 ?_
    refine lv_ladd hx hb d_B_highContact_28 ?_
    refine lv_ldc2 (v := (10000000 : Int64)) hx hb hown (hts _ kl_B_176) d_B_highContact_29 ?_
    refine lv_lmul hx hb d_B_highContact_32 ?_
    refine lv_lload_n hx hb d_B_highContact_33 rfl (lv_at hl 0 rfl) ?_
    refine lv_ldiv hx hb d_B_highContact_34 (lcmp_ne c_12) ?_
    exact b35 ((((s_B_path S a1 a2) + (2 : Int64)) * (10000000 : Int64)) / ((31415 : Int64) * (s_B_cosine S))) ls (lv_sub hl [] rfl) (by rw [s_B_highContact, if_neg c_12])
  · refine lv_lconst (v := (0 : Int64)) hx hb d_B_highContact_15 rfl ?_
    refine lv_goto (tgt := 35) hx hb d_B_highContact_16 (by decide) ?_
    exact b35 (0 : Int64) ls (lv_sub hl [] rfl) (by rw [s_B_highContact, if_pos c_12])

def s_B_told (S : St) (a1 : Int32) (a2 : Int32) : Int32 := (if a2 = 0 then (s_N_at S 0 a1) else (if a2 = 1 then (s_N_at S 1 a1) else (if a2 = 2 then (if (s_B_isUndercut S a1) = 0 then (0 : Int32) else (1 : Int32)) else (if a2 = 3 then (if (s_B_isPointed S a1) = 0 then (0 : Int32) else (1 : Int32)) else (if a2 = 4 then (s_B_leastShift S a1) else (if a2 = 5 then (s_B_pairsWith S a1) else (-1000 : Int32)))))))
set_option maxRecDepth 20000 in
theorem c_B_told (l : Launch) (E : Cx) (ad : Nat → Nat) (X : va_W) (S : St) (a1 : Int32) (a2 : Int32) : Met l y_B_told (Cond.code y_B_told b_B_told 3 (some .int) :: TB) (rk 3 64) (va_Pc [.ref (ad 40), .int a1, .int a2] (preR E (wb E ad S ++ X))) (vp_Si (fun r => r = (s_B_told S a1 a2))) 0 0 (fun _ => False) := by
  refine w_roI rfl (Nat.le_of_ble_eq_true rfl) rfl ?_
  intro p e s m args below meth c Q ls hx hb hml hts hown hP hK hl hend
  have hl : lv_has ls 3 [(0, .ref (ad 40)), (1, .int a1), (2, .int a2)] := hl
  have hP : va_P E.1 vwCl (wb E ad S ++ X) s.heap := hP
  have hown : s.vm.findClass R_B = some m.cls := hown
  refine lv_iload_n hx hb d_B_told_0 rfl (lv_at hl 2 rfl) ?_
  by_cases c_1_0 : a2 = (0 : Int32)
  · refine lv_tableIn (x := a2) (off := 39) (tgt := 40) hx hb d_B_told_1 (by rw [c_1_0]; decide) (by rw [c_1_0]; decide) (by rw [c_1_0]; rfl) (by decide) ?_
    refine lv_aload_n hx hb d_B_told_40 rfl (lv_at hl 0 rfl) ?_
    refine g_B0_teeth hx hb hts hown hK hP d_B_told_41 ?_
    refine lv_iload_n hx hb d_B_told_44 rfl (lv_at hl 1 rfl) ?_
    refine k_vi (rest := []) (c_N_at l E ad X S 0 (Nat.le_of_ble_eq_true rfl) a1) mi_N_at ml_B_45 hx hb hml hts hown hK hP (rvN (Nat.le_of_ble_eq_true rfl)) hl ⟨rfl, rfl⟩ ⟨(Nat.le_of_ble_eq_true rfl), (Nat.le_of_ble_eq_true rfl)⟩ ⟨Nat.zero_le _, Nat.zero_le _⟩ rfl (Nat.le_of_ble_eq_true rfl) rfl d_B_told_45 ?_
    exact hend _ _ _ (by rw [s_B_told, if_pos c_1_0]) d_B_told_48
  by_cases c_1_1 : a2 = (1 : Int32)
  · refine lv_tableIn (x := a2) (off := 48) (tgt := 49) hx hb d_B_told_1 (by rw [c_1_1]; decide) (by rw [c_1_1]; decide) (by rw [c_1_1]; rfl) (by decide) ?_
    refine lv_aload_n hx hb d_B_told_49 rfl (lv_at hl 0 rfl) ?_
    refine g_B0_shifts hx hb hts hown hK hP d_B_told_50 ?_
    refine lv_iload_n hx hb d_B_told_53 rfl (lv_at hl 1 rfl) ?_
    refine k_vi (rest := []) (c_N_at l E ad X S 1 (Nat.le_of_ble_eq_true rfl) a1) mi_N_at ml_B_45 hx hb hml hts hown hK hP (rvN (Nat.le_of_ble_eq_true rfl)) hl ⟨rfl, rfl⟩ ⟨(Nat.le_of_ble_eq_true rfl), (Nat.le_of_ble_eq_true rfl)⟩ ⟨Nat.zero_le _, Nat.zero_le _⟩ rfl (Nat.le_of_ble_eq_true rfl) rfl d_B_told_54 ?_
    exact hend _ _ _ (by rw [s_B_told, if_neg c_1_0, if_pos c_1_1]) d_B_told_57
  by_cases c_1_2 : a2 = (2 : Int32)
  · refine lv_tableIn (x := a2) (off := 57) (tgt := 58) hx hb d_B_told_1 (by rw [c_1_2]; decide) (by rw [c_1_2]; decide) (by rw [c_1_2]; rfl) (by decide) ?_
    refine lv_aload_n hx hb d_B_told_58 rfl (lv_at hl 0 rfl) ?_
    refine lv_iload_n hx hb d_B_told_59 rfl (lv_at hl 1 rfl) ?_
    refine k_vi (rest := []) (c_B_isUndercut l E ad X S a1) mi_B_isUndercut ml_B_89 hx hb hml hts hown hK hP rvB0 hl ⟨rfl, rfl⟩ ⟨(Nat.le_of_ble_eq_true rfl), (Nat.le_of_ble_eq_true rfl)⟩ ⟨Nat.zero_le _, Nat.zero_le _⟩ rfl (Nat.le_of_ble_eq_true rfl) rfl d_B_told_60 ?_
    refine lv_if_eq (tgt := 70) hx hb d_B_told_63 (by decide) (fun c_63 => ?_) (fun c_63 => ?_)
    · refine lv_iconst (v := (0 : Int32)) hx hb d_B_told_70 rfl ?_
      exact hend _ _ _ (by rw [s_B_told, if_neg c_1_0, if_neg c_1_1, if_pos c_1_2, if_pos c_63]) d_B_told_71
    · refine lv_iconst (v := (1 : Int32)) hx hb d_B_told_66 rfl ?_
      refine lv_goto (tgt := 71) hx hb d_B_told_67 (by decide) ?_
      exact hend _ _ _ (by rw [s_B_told, if_neg c_1_0, if_neg c_1_1, if_pos c_1_2, if_neg c_63]) d_B_told_71
  by_cases c_1_3 : a2 = (3 : Int32)
  · refine lv_tableIn (x := a2) (off := 71) (tgt := 72) hx hb d_B_told_1 (by rw [c_1_3]; decide) (by rw [c_1_3]; decide) (by rw [c_1_3]; rfl) (by decide) ?_
    refine lv_aload_n hx hb d_B_told_72 rfl (lv_at hl 0 rfl) ?_
    refine lv_iload_n hx hb d_B_told_73 rfl (lv_at hl 1 rfl) ?_
    refine k_vi (rest := []) (c_B_isPointed l E ad X S a1) mi_B_isPointed ml_B_92 hx hb hml hts hown hK hP rvB0 hl ⟨rfl, rfl⟩ ⟨(Nat.le_of_ble_eq_true rfl), (Nat.le_of_ble_eq_true rfl)⟩ ⟨Nat.zero_le _, Nat.zero_le _⟩ rfl (Nat.le_of_ble_eq_true rfl) rfl d_B_told_74 ?_
    refine lv_if_eq (tgt := 84) hx hb d_B_told_77 (by decide) (fun c_77 => ?_) (fun c_77 => ?_)
    · refine lv_iconst (v := (0 : Int32)) hx hb d_B_told_84 rfl ?_
      exact hend _ _ _ (by rw [s_B_told, if_neg c_1_0, if_neg c_1_1, if_neg c_1_2, if_pos c_1_3, if_pos c_77]) d_B_told_85
    · refine lv_iconst (v := (1 : Int32)) hx hb d_B_told_80 rfl ?_
      refine lv_goto (tgt := 85) hx hb d_B_told_81 (by decide) ?_
      exact hend _ _ _ (by rw [s_B_told, if_neg c_1_0, if_neg c_1_1, if_neg c_1_2, if_pos c_1_3, if_neg c_77]) d_B_told_85
  by_cases c_1_4 : a2 = (4 : Int32)
  · refine lv_tableIn (x := a2) (off := 85) (tgt := 86) hx hb d_B_told_1 (by rw [c_1_4]; decide) (by rw [c_1_4]; decide) (by rw [c_1_4]; rfl) (by decide) ?_
    refine lv_aload_n hx hb d_B_told_86 rfl (lv_at hl 0 rfl) ?_
    refine lv_iload_n hx hb d_B_told_87 rfl (lv_at hl 1 rfl) ?_
    refine k_vi (rest := []) (c_B_leastShift l E ad X S a1) mi_B_leastShift ml_B_95 hx hb hml hts hown hK hP rvB0 hl ⟨rfl, rfl⟩ ⟨(Nat.le_of_ble_eq_true rfl), (Nat.le_of_ble_eq_true rfl)⟩ ⟨Nat.zero_le _, Nat.zero_le _⟩ rfl (Nat.le_of_ble_eq_true rfl) rfl d_B_told_88 ?_
    exact hend _ _ _ (by rw [s_B_told, if_neg c_1_0, if_neg c_1_1, if_neg c_1_2, if_neg c_1_3, if_pos c_1_4]) d_B_told_91
  by_cases c_1_5 : a2 = (5 : Int32)
  · refine lv_tableIn (x := a2) (off := 91) (tgt := 92) hx hb d_B_told_1 (by rw [c_1_5]; decide) (by rw [c_1_5]; decide) (by rw [c_1_5]; rfl) (by decide) ?_
    refine lv_aload_n hx hb d_B_told_92 rfl (lv_at hl 0 rfl) ?_
    refine lv_iload_n hx hb d_B_told_93 rfl (lv_at hl 1 rfl) ?_
    refine k_vi (rest := []) (c_B_pairsWith l E ad X S a1) mi_B_pairsWith ml_B_98 hx hb hml hts hown hK hP rvB0 hl ⟨rfl, rfl⟩ ⟨(Nat.le_of_ble_eq_true rfl), (Nat.le_of_ble_eq_true rfl)⟩ ⟨Nat.zero_le _, Nat.zero_le _⟩ rfl (Nat.le_of_ble_eq_true rfl) rfl d_B_told_94 ?_
    exact hend _ _ _ (by rw [s_B_told, if_neg c_1_0, if_neg c_1_1, if_neg c_1_2, if_neg c_1_3, if_neg c_1_4, if_pos c_1_5]) d_B_told_97
  have kd : W p l e (rk 3 64) s m args below meth c s.heap [] 0 0 Q (F0 m 98 ls []) := by
    refine lv_sipush (v := (-1000 : Int32)) hx hb d_B_told_98 rfl ?_
    exact hend _ _ _ (by rw [s_B_told, if_neg c_1_0, if_neg c_1_1, if_neg c_1_2, if_neg c_1_3, if_neg c_1_4, if_neg c_1_5]) d_B_told_101
  have n_0 := lv_neT c_1_0 (a := 0) rfl
  have n_1 := lv_neT c_1_1 (a := 1) rfl
  have n_2 := lv_neT c_1_2 (a := 2) rfl
  have n_3 := lv_neT c_1_3 (a := 3) rfl
  have n_4 := lv_neT c_1_4 (a := 4) rfl
  have n_5 := lv_neT c_1_5 (a := 5) rfl
  exact lv_tableOut (x := a2) (tgt := 98) hx hb d_B_told_1 (by omega) (by decide) kd
