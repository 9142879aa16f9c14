/-! by program (wip/p32/cls.py) -/
def s_H_miss (S : St) (a1 : Int32) (a2 : Int32) : Int32 := (if 0 ≤ (((a1 + (s_T_ring a1 a2)) * (S.1 27)) - ((S.1 26) * a1)) then (((a1 + (s_T_ring a1 a2)) * (S.1 27)) - ((S.1 26) * a1)) else 0 - (((a1 + (s_T_ring a1 a2)) * (S.1 27)) - ((S.1 26) * a1)))
set_option maxRecDepth 20000 in
theorem c_H_miss (l : Launch) (E : Cx) (ad : Nat → Nat) (X : va_W) (S : St) (a1 : Int32) (a2 : Int32) : Met l y_H_miss (Cond.code y_H_miss b_H_miss 3 (some .int) :: TB) (rk 1 21) (va_Pc [.ref (ad 44), .int a1, .int a2] (preR E (wb E ad S ++ X))) (vp_Si (fun r => r = (s_H_miss S a1 a2))) 0 0 (fun _ => False) := by
  refine w_roI rfl (Nat.le_of_ble_eq_true rfl) rfl ?_
  intro p e s m args below meth c Q ls hx hb hml hts hown hP hK hl hend
  have hl : lv_has ls 3 [(0, .ref (ad 44)), (1, .int a1), (2, .int a2)] := hl
  have hP : va_P E.1 vwCl (wb E ad S ++ X) s.heap := hP
  have hown : s.vm.findClass R_H = some m.cls := hown
  refine lv_iload_n hx hb d_H_miss_0 rfl (lv_at hl 1 rfl) ?_
  refine lv_iload_n hx hb d_H_miss_1 rfl (lv_at hl 1 rfl) ?_
  refine lv_iload_n hx hb d_H_miss_2 rfl (lv_at hl 2 rfl) ?_
  refine k_si (rest := [.int a1]) (c_T_ring l E a1 a2) mi_T_ring ml_H_54 hx hb hml hts hown hK va_nil hl ⟨rfl, rfl⟩ ⟨(Nat.le_of_ble_eq_true rfl), (Nat.le_of_ble_eq_true rfl)⟩ ⟨Nat.zero_le _, Nat.zero_le _⟩ rfl (Nat.le_of_ble_eq_true rfl) rfl d_H_miss_3 ?_
  refine lv_iadd hx hb d_H_miss_6 ?_
  refine lv_aload_n hx hb d_H_miss_7 rfl (lv_at hl 0 rfl) ?_
  refine g_H_w hx hb hts hown hK hP d_H_miss_8 ?_
  refine lv_imul hx hb d_H_miss_11 ?_
  refine lv_aload_n hx hb d_H_miss_12 rfl (lv_at hl 0 rfl) ?_
  refine g_H_u hx hb hts hown hK hP d_H_miss_13 ?_
  refine lv_iload_n hx hb d_H_miss_16 rfl (lv_at hl 1 rfl) ?_
  refine lv_imul hx hb d_H_miss_17 ?_
  refine lv_isub hx hb d_H_miss_18 ?_
  refine va_mabs hx hb (hml.trans hl.1.symm) hown (hts _ ml_H_58) (hts _ st_mabs) (hts _ iz_Math) (hts _ co_mabs) (Nat.le_of_ble_eq_true rfl) (Nat.le_of_ble_eq_true rfl) (Nat.zero_le _) (Nat.zero_le _) d_H_miss_19 ?_
  exact hend _ _ _ (by rw [s_H_miss]) d_H_miss_22

def s_H_isNear (S : St) (a1 : Int32) (a2 : Int32) : Int32 := (if (((S.1 26) * (S.1 28)) * a1) < ((s_H_miss S a1 a2) * (1000 : Int32)) then (0 : Int32) else (1 : Int32))
theorem z_H_isNear (S : St) (a1 : Int32) (a2 : Int32) : (s_H_isNear S a1 a2) = 0 ∨ (s_H_isNear S a1 a2) = 1 := by rw [s_H_isNear]; exact (ite_z (Or.inl rfl) (Or.inr rfl))
set_option maxRecDepth 20000 in
theorem c_H_isNear (l : Launch) (E : Cx) (ad : Nat → Nat) (X : va_W) (S : St) (a1 : Int32) (a2 : Int32) : Met l y_H_isNear (Cond.code y_H_isNear b_H_isNear 3 (some .boolean) :: TB) (rk 2 43) (va_Pc [.ref (ad 44), .int a1, .int a2] (preR E (wb E ad S ++ X))) (vp_Si (fun r => r = (s_H_isNear S a1 a2))) 0 0 (fun _ => False) := by
  refine w_roI rfl (Nat.le_of_ble_eq_true rfl) (k_nb (z_H_isNear S a1 a2)) ?_
  intro p e s m args below meth c Q ls hx hb hml hts hown hP hK hl hend
  have hl : lv_has ls 3 [(0, .ref (ad 44)), (1, .int a1), (2, .int a2)] := hl
  have hP : va_P E.1 vwCl (wb E ad S ++ X) s.heap := hP
  have hown : s.vm.findClass R_H = some m.cls := hown
  refine lv_aload_n hx hb d_H_isNear_0 rfl (lv_at hl 0 rfl) ?_
  refine lv_iload_n hx hb d_H_isNear_1 rfl (lv_at hl 1 rfl) ?_
  refine lv_iload_n hx hb d_H_isNear_2 rfl (lv_at hl 2 rfl) ?_
  refine k_vi (rest := []) (c_H_miss l E ad X S a1 a2) mi_H_miss ml_H_64 hx hb hml hts hown hK hP rvH hl ⟨rfl, rfl⟩ ⟨(Nat.le_of_ble_eq_true rfl), (Nat.le_of_ble_eq_true rfl)⟩ ⟨Nat.zero_le _, Nat.zero_le _⟩ rfl (Nat.le_of_ble_eq_true rfl) rfl d_H_isNear_3 ?_
  refine lv_sipush (v := (1000 : Int32)) hx hb d_H_isNear_6 rfl ?_
  refine lv_imul hx hb d_H_isNear_9 ?_
  refine lv_aload_n hx hb d_H_isNear_10 rfl (lv_at hl 0 rfl) ?_
  refine g_H_u hx hb hts hown hK hP d_H_isNear_11 ?_
  refine lv_aload_n hx hb d_H_isNear_14 rfl (lv_at hl 0 rfl) ?_
  refine g_H_t hx hb hts hown hK hP d_H_isNear_15 ?_
  refine lv_imul hx hb d_H_isNear_18 ?_
  refine lv_iload_n hx hb d_H_isNear_19 rfl (lv_at hl 1 rfl) ?_
  refine lv_imul hx hb d_H_isNear_20 ?_
  refine lv_icmp_gt (tgt := 28) hx hb d_H_isNear_21 (by decide) (fun c_21 => ?_) (fun c_21 => ?_)
  · refine lv_iconst (v := (0 : Int32)) hx hb d_H_isNear_28 rfl ?_
    exact hend _ _ _ (by rw [s_H_isNear, if_pos c_21]) d_H_isNear_29
  · refine lv_iconst (v := (1 : Int32)) hx hb d_H_isNear_24 rfl ?_
    refine lv_goto (tgt := 29) hx hb d_H_isNear_25 (by decide) ?_
    exact hend _ _ _ (by rw [s_H_isNear, if_neg c_21]) d_H_isNear_29

def s_H_isBetter (S : St) (a1 : Int32) (a2 : Int32) : Int32 := (if ((s_H_miss S a1 a2) * (S.1 30)) = ((s_H_miss S (S.1 30) (S.1 31)) * a1) then (if (s_T_teethTogether a1 a2 (S.1 25)) = (s_T_teethTogether (S.1 30) (S.1 31) (S.1 25)) then (if (S.1 30) ≤ a1 then (0 : Int32) else (1 : Int32)) else (if (s_T_teethTogether (S.1 30) (S.1 31) (S.1 25)) ≤ (s_T_teethTogether a1 a2 (S.1 25)) then (0 : Int32) else (1 : Int32))) else (if ((s_H_miss S (S.1 30) (S.1 31)) * a1) ≤ ((s_H_miss S a1 a2) * (S.1 30)) then (0 : Int32) else (1 : Int32)))
theorem z_H_isBetter (S : St) (a1 : Int32) (a2 : Int32) : (s_H_isBetter S a1 a2) = 0 ∨ (s_H_isBetter S a1 a2) = 1 := by rw [s_H_isBetter]; exact (ite_z (ite_z (ite_z (Or.inl rfl) (Or.inr rfl)) (ite_z (Or.inl rfl) (Or.inr rfl))) (ite_z (Or.inl rfl) (Or.inr rfl)))
set_option maxRecDepth 20000 in
theorem c_H_isBetter (l : Launch) (E : Cx) (ad : Nat → Nat) (X : va_W) (S : St) (a1 : Int32) (a2 : Int32) : Met l y_H_isBetter (Cond.code y_H_isBetter b_H_isBetter 7 (some .boolean) :: TB) (rk 2 43) (va_Pc [.ref (ad 44), .int a1, .int a2] (preR E (wb E ad S ++ X))) (vp_Si (fun r => r = (s_H_isBetter S a1 a2))) 0 0 (fun _ => False) := by
  refine w_roI rfl (Nat.le_of_ble_eq_true rfl) (k_nb (z_H_isBetter S a1 a2)) ?_
  intro p e s m args below meth c Q ls hx hb hml hts hown hP hK hl hend
  have hl : lv_has ls 7 [(0, .ref (ad 44)), (1, .int a1), (2, .int a2)] := hl
  have hP : va_P E.1 vwCl (wb E ad S ++ X) s.heap := hP
  have hown : s.vm.findClass R_H = some m.cls := hown
  refine lv_aload_n hx hb d_H_isBetter_0 rfl (lv_at hl 0 rfl) ?_
  refine lv_iload_n hx hb d_H_isBetter_1 rfl (lv_at hl 1 rfl) ?_
  refine lv_iload_n hx hb d_H_isBetter_2 rfl (lv_at hl 2 rfl) ?_
  refine k_vi (rest := []) (c_H_miss l E ad X S a1 a2) mi_H_miss ml_H_64 hx hb hml hts hown hK hP rvH hl ⟨rfl, rfl⟩ ⟨(Nat.le_of_ble_eq_true rfl), (Nat.le_of_ble_eq_true rfl)⟩ ⟨Nat.zero_le _, Nat.zero_le _⟩ rfl (Nat.le_of_ble_eq_true rfl) rfl d_H_isBetter_3 ?_
  refine lv_aload_n hx hb d_H_isBetter_6 rfl (lv_at hl 0 rfl) ?_
  refine g_H_sun hx hb hts hown hK hP d_H_isBetter_7 ?_
  refine lv_imul hx hb d_H_isBetter_10 ?_
  refine lv_istore_n (lv' := [(3, .int ((s_H_miss S a1 a2) * (S.1 30))), (0, .ref (ad 44)), (1, .int a1), (2, .int a2)]) hx hb d_H_isBetter_11 rfl hl (by decide) rfl (fun ls hl => ?_)
  refine lv_aload_n hx hb d_H_isBetter_12 rfl (lv_at hl 1 rfl) ?_
  refine lv_aload_n hx hb d_H_isBetter_13 rfl (lv_at hl 1 rfl) ?_
  refine g_H_sun hx hb hts hown hK hP d_H_isBetter_14 ?_
  refine lv_aload_n hx hb d_H_isBetter_17 rfl (lv_at hl 1 rfl) ?_
  refine g_H_planet hx hb hts hown hK hP d_H_isBetter_18 ?_
  refine k_vi (rest := []) (c_H_miss l E ad X S (S.1 30) (S.1 31)) mi_H_miss ml_H_64 hx hb hml hts hown hK hP rvH hl ⟨rfl, rfl⟩ ⟨(Nat.le_of_ble_eq_true rfl), (Nat.le_of_ble_eq_true rfl)⟩ ⟨Nat.zero_le _, Nat.zero_le _⟩ rfl (Nat.le_of_ble_eq_true rfl) rfl d_H_isBetter_21 ?_
  refine lv_iload_n hx hb d_H_isBetter_24 rfl (lv_at hl 2 rfl) ?_
  refine lv_imul hx hb d_H_isBetter_25 ?_
  refine lv_istore (lv' := [(4, .int ((s_H_miss S (S.1 30) (S.1 31)) * a1)), (3, .int ((s_H_miss S a1 a2) * (S.1 30))), (0, .ref (ad 44)), (1, .int a1), (2, .int a2)]) hx hb d_H_isBetter_26 hl (by decide) rfl (fun ls hl => ?_)
  refine lv_iload_n hx hb d_H_isBetter_28 rfl (lv_at hl 1 rfl) ?_
  refine lv_iload hx hb d_H_isBetter_29 (lv_at hl 0 rfl) ?_
  refine lv_icmp_eq (tgt := 46) hx hb d_H_isBetter_31 (by decide) (fun c_31 => ?_) (fun c_31 => ?_)
  · refine lv_iload_n hx hb d_H_isBetter_46 rfl (lv_at hl 3 rfl) ?_
    refine lv_iload_n hx hb d_H_isBetter_47 rfl (lv_at hl 4 rfl) ?_
    refine lv_aload_n hx hb d_H_isBetter_48 rfl (lv_at hl 2 rfl) ?_
    refine g_H_k hx hb hts hown hK hP d_H_isBetter_49 ?_
    refine k_si (rest := []) (c_T_teethTogether l E a1 a2 (S.1 25)) mi_T_teethTogether ml_H_47 hx hb hml hts hown hK va_nil hl ⟨rfl, rfl⟩ ⟨(Nat.le_of_ble_eq_true rfl), (Nat.le_of_ble_eq_true rfl)⟩ ⟨Nat.zero_le _, Nat.zero_le _⟩ rfl (Nat.le_of_ble_eq_true rfl) rfl d_H_isBetter_52 ?_
    refine lv_istore (lv' := [(5, .int (s_T_teethTogether a1 a2 (S.1 25))), (4, .int ((s_H_miss S (S.1 30) (S.1 31)) * a1)), (3, .int ((s_H_miss S a1 a2) * (S.1 30))), (0, .ref (ad 44)), (1, .int a1), (2, .int a2)]) hx hb d_H_isBetter_55 hl (by decide) rfl (fun ls hl => ?_)
    refine lv_aload_n hx hb d_H_isBetter_57 rfl (lv_at hl 3 rfl) ?_
    refine g_H_sun hx hb hts hown hK hP d_H_isBetter_58 ?_
    refine lv_aload_n hx hb d_H_isBetter_61 rfl (lv_at hl 3 rfl) ?_
    refine g_H_planet hx hb hts hown hK hP d_H_isBetter_62 ?_
    refine lv_aload_n hx hb d_H_isBetter_65 rfl (lv_at hl 3 rfl) ?_
    refine g_H_k hx hb hts hown hK hP d_H_isBetter_66 ?_
    refine k_si (rest := []) (c_T_teethTogether l E (S.1 30) (S.1 31) (S.1 25)) mi_T_teethTogether ml_H_47 hx hb hml hts hown hK va_nil hl ⟨rfl, rfl⟩ ⟨(Nat.le_of_ble_eq_true rfl), (Nat.le_of_ble_eq_true rfl)⟩ ⟨Nat.zero_le _, Nat.zero_le _⟩ rfl (Nat.le_of_ble_eq_true rfl) rfl d_H_isBetter_69 ?_
    refine lv_istore (lv' := [(6, .int (s_T_teethTogether (S.1 30) (S.1 31) (S.1 25))), (5, .int (s_T_teethTogether a1 a2 (S.1 25))), (4, .int ((s_H_miss S (S.1 30) (S.1 31)) * a1)), (3, .int ((s_H_miss S a1 a2) * (S.1 30))), (0, .ref (ad 44)), (1, .int a1), (2, .int a2)]) hx hb d_H_isBetter_72 hl (by decide) rfl (fun ls hl => ?_)
    refine lv_iload hx hb d_H_isBetter_74 (lv_at hl 1 rfl) ?_
    refine lv_iload hx hb d_H_isBetter_76 (lv_at hl 0 rfl) ?_
    refine lv_icmp_eq (tgt := 96) hx hb d_H_isBetter_78 (by decide) (fun c_78 => ?_) (fun c_78 => ?_)
    · refine lv_iload_n hx hb d_H_isBetter_96 rfl (lv_at hl 5 rfl) ?_
      refine lv_aload_n hx hb d_H_isBetter_97 rfl (lv_at hl 4 rfl) ?_
      refine g_H_sun hx hb hts hown hK hP d_H_isBetter_98 ?_
      refine lv_icmp_ge (tgt := 108) hx hb d_H_isBetter_101 (by decide) (fun c_101 => ?_) (fun c_101 => ?_)
      · refine lv_iconst (v := (0 : Int32)) hx hb d_H_isBetter_108 rfl ?_
        exact hend _ _ _ (by rw [s_H_isBetter, if_pos c_31, if_pos c_78, if_pos c_101]) d_H_isBetter_109
      · refine lv_iconst (v := (1 : Int32)) hx hb d_H_isBetter_104 rfl ?_
        refine lv_goto (tgt := 109) hx hb d_H_isBetter_105 (by decide) ?_
        exact hend _ _ _ (by rw [s_H_isBetter, if_pos c_31, if_pos c_78, if_neg c_101]) d_H_isBetter_109
    · refine lv_iload hx hb d_H_isBetter_81 (lv_at hl 1 rfl) ?_
      refine lv_iload hx hb d_H_isBetter_83 (lv_at hl 0 rfl) ?_
      refine lv_icmp_ge (tgt := 92) hx hb d_H_isBetter_85 (by decide) (fun c_85 => ?_) (fun c_85 => ?_)
      · refine lv_iconst (v := (0 : Int32)) hx hb d_H_isBetter_92 rfl ?_
        refine lv_goto (tgt := 109) hx hb d_H_isBetter_93 (by decide) ?_
        exact hend _ _ _ (by rw [s_H_isBetter, if_pos c_31, if_neg c_78, if_pos c_85]) d_H_isBetter_109
      · refine lv_iconst (v := (1 : Int32)) hx hb d_H_isBetter_88 rfl ?_
        refine lv_goto (tgt := 109) hx hb d_H_isBetter_89 (by decide) ?_
        exact hend _ _ _ (by rw [s_H_isBetter, if_pos c_31, if_neg c_78, if_neg c_85]) d_H_isBetter_109
  · refine lv_iload_n hx hb d_H_isBetter_34 rfl (lv_at hl 1 rfl) ?_
    refine lv_iload hx hb d_H_isBetter_35 (lv_at hl 0 rfl) ?_
    refine lv_icmp_ge (tgt := 44) hx hb d_H_isBetter_37 (by decide) (fun c_37 => ?_) (fun c_37 => ?_)
    · refine lv_iconst (v := (0 : Int32)) hx hb d_H_isBetter_44 rfl ?_
      exact hend _ _ _ (by rw [s_H_isBetter, if_neg c_31, if_pos c_37]) d_H_isBetter_45
    · refine lv_iconst (v := (1 : Int32)) hx hb d_H_isBetter_40 rfl ?_
      refine lv_goto (tgt := 45) hx hb d_H_isBetter_41 (by decide) ?_
      exact hend _ _ _ (by rw [s_H_isBetter, if_neg c_31, if_neg c_37]) d_H_isBetter_45

def s_H_told (S : St) (a1 : Int32) : Int32 := (if a1 = 0 then (S.1 29) else (if (S.1 29) = 0 then (-2 : Int32) else (if a1 = (1 : Int32) then (S.1 30) else (if a1 = (2 : Int32) then (S.1 31) else (s_T_teethTogether (S.1 30) (S.1 31) (S.1 25))))))
set_option maxRecDepth 20000 in
theorem c_H_told (l : Launch) (E : Cx) (ad : Nat → Nat) (X : va_W) (S : St) (a1 : Int32) : Met l y_H_told (Cond.code y_H_told b_H_told 2 (some .int) :: TB) (rk 2 43) (va_Pc [.ref (ad 44), .int a1] (preR E (wb E ad S ++ X))) (vp_Si (fun r => r = (s_H_told S a1))) 0 0 (fun _ => False) := by
  refine w_roI rfl (Nat.le_of_ble_eq_true rfl) rfl ?_
  intro p e s m args below meth c Q ls hx hb hml hts hown hP hK hl hend
  have hl : lv_has ls 2 [(0, .ref (ad 44)), (1, .int a1)] := hl
  have hP : va_P E.1 vwCl (wb E ad S ++ X) s.heap := hP
  have hown : s.vm.findClass R_H = some m.cls := hown
  refine lv_iload_n hx hb d_H_told_0 rfl (lv_at hl 1 rfl) ?_
  refine lv_if_ne (tgt := 9) hx hb d_H_told_1 (by decide) (fun c_1 => ?_) (fun c_1 => ?_)
  · refine lv_aload_n hx hb d_H_told_9 rfl (lv_at hl 0 rfl) ?_
    refine g_H_found hx hb hts hown hK hP d_H_told_10 ?_
    refine lv_if_ne (tgt := 19) hx hb d_H_told_13 (by decide) (fun c_13 => ?_) (fun c_13 => ?_)
    · refine lv_iload_n hx hb d_H_told_19 rfl (lv_at hl 1 rfl) ?_
      refine lv_iconst (v := (1 : Int32)) hx hb d_H_told_20 rfl ?_
      refine lv_icmp_ne (tgt := 29) hx hb d_H_told_21 (by decide) (fun c_21 => ?_) (fun c_21 => ?_)
      · refine lv_iload_n hx hb d_H_told_29 rfl (lv_at hl 1 rfl) ?_
        refine lv_iconst (v := (2 : Int32)) hx hb d_H_told_30 rfl ?_
        refine lv_icmp_ne (tgt := 41) hx hb d_H_told_31 (by decide) (fun c_31 => ?_) (fun c_31 => ?_)
        · refine lv_aload_n hx hb d_H_told_41 rfl (lv_at hl 0 rfl) ?_
          refine g_H_sun hx hb hts hown hK hP d_H_told_42 ?_
          refine lv_aload_n hx hb d_H_told_45 rfl (lv_at hl 0 rfl) ?_
          refine g_H_planet hx hb hts hown hK hP d_H_told_46 ?_
          refine lv_aload_n hx hb d_H_told_49 rfl (lv_at hl 0 rfl) ?_
          refine g_H_k hx hb hts hown hK hP d_H_told_50 ?_
          refine k_si (rest := []) (c_T_teethTogether l E (S.1 30) (S.1 31) (S.1 25)) mi_T_teethTogether ml_H_47 hx hb hml hts hown hK va_nil hl ⟨rfl, rfl⟩ ⟨(Nat.le_of_ble_eq_true rfl), (Nat.le_of_ble_eq_true rfl)⟩ ⟨Nat.zero_le _, Nat.zero_le _⟩ rfl (Nat.le_of_ble_eq_true rfl) rfl d_H_told_53 ?_
          exact hend _ _ _ (by rw [s_H_told, if_neg c_1, if_neg c_13, if_neg c_21, if_neg c_31]) d_H_told_56
        · refine lv_aload_n hx hb d_H_told_34 rfl (lv_at hl 0 rfl) ?_
          refine g_H_planet hx hb hts hown hK hP d_H_told_35 ?_
          refine lv_goto (tgt := 56) hx hb d_H_told_38 (by decide) ?_
          exact hend _ _ _ (by rw [s_H_told, if_neg c_1, if_neg c_13, if_neg c_21, if_pos c_31]) d_H_told_56
      · refine lv_aload_n hx hb d_H_told_24 rfl (lv_at hl 0 rfl) ?_
        refine g_H_sun hx hb hts hown hK hP d_H_told_25 ?_
        exact hend _ _ _ (by rw [s_H_told, if_neg c_1, if_neg c_13, if_pos c_21]) d_H_told_28
    · refine lv_bipush (v := (-2 : Int32)) hx hb d_H_told_16 rfl ?_
      exact hend _ _ _ (by rw [s_H_told, if_neg c_1, if_pos c_13]) d_H_told_18
  · refine lv_aload_n hx hb d_H_told_4 rfl (lv_at hl 0 rfl) ?_
    refine g_H_found hx hb hts hown hK hP d_H_told_5 ?_
    exact hend _ _ _ (by rw [s_H_told, if_pos c_1]) d_H_told_8

def s_H_take_b26 (Z : St) : St := (sV Z 29 ((Z.1 29) + (1 : Int32)))
def s_H_take_b16 (Z : St) (x1 : Int32) (x2 : Int32) : St := (s_H_take_b26 (sV (sV Z 30 x1) 31 x2))
def s_H_take (S : St) (a1 : Int32) (a2 : Int32) : St := (if (S.1 29) = 0 then (s_H_take_b16 S a1 a2) else (if (s_H_isBetter S a1 a2) = 0 then (s_H_take_b26 S) else (s_H_take_b16 S a1 a2)))
set_option maxRecDepth 20000 in
theorem c_H_take (l : Launch) (E : Cx) (ad : Nat → Nat) (X : va_W) (S : St) (A : Nat → Prop) (a1 : Int32) (a2 : Int32) : Met l y_H_take (Cond.code y_H_take b_H_take 3 none :: TB) (rk 3 69) (va_Pc [.ref (ad 44), .int a1, .int a2] (preM E A (fun S => wb E ad S ++ X) S)) (va_Qv (fun u => u = (s_H_take S a1 a2)) (fun u t => va_P E.1 vwCl ((fun S => wb E ad S ++ X) u) t.heap) A) 0 0 A := by
  refine w_muV rfl (Nat.le_of_ble_eq_true rfl) ?_
  intro p e s m args below meth c Q ls hx hb hml hts hown hP hK hD hS hl hend
  have hl : lv_has ls 3 [(0, .ref (ad 44)), (1, .int a1), (2, .int a2)] := hl
  have hP : va_P E.1 vwCl (wb E ad S ++ X) s.heap := hP
  have hown : s.vm.findClass R_H = some m.cls := hown
  have hD : ∀ S' : St, va_D A (wb E ad S' ++ X) := hD
  have b26 : ∀ (Z : St) (H : Heap) (locs : List Loc), va_P E.1 vwCl (wb E ad Z ++ X) H → va_S A s.heap H locs → ∀ (ls : Array Slot), lv_has ls 3 [(0, .ref (ad 44))] → (s_H_take S a1 a2) = s_H_take_b26 Z → W p l e (rk 3 69) s m args below meth c H locs 0 0 Q (F0 m 26 ls []) := by
    intro Z H locs hP hS ls hl hq
    refine lv_aload_n hx hb d_H_take_26 rfl (lv_at hl 0 rfl) ?_
    refine lv_dup hx hb d_H_take_27 rfl ?_
    refine g_H_found hx hb hts hown hK hP d_H_take_28 ?_
    refine lv_iconst (v := (1 : Int32)) hx hb d_H_take_31 rfl ?_
    refine lv_iadd hx hb d_H_take_32 ?_
    refine p_H_found hx hb hts hown hK hP hD hS d_H_take_33 (fun H locs hP hS => ?_)
    have hP : va_P E.1 vwCl (wb E ad (sV Z 29 ((Z.1 29) + (1 : Int32))) ++ X) H := hP
    exact hend _ _ _ _ _ (by rw [hq, s_H_take_b26]) hP hS d_H_take_36
  have b16 : ∀ (Z : St) (x1 : Int32) (x2 : Int32) (H : Heap) (locs : List Loc), va_P E.1 vwCl (wb E ad Z ++ X) H → va_S A s.heap H locs → ∀ (ls : Array Slot), lv_has ls 3 [(0, .ref (ad 44)), (1, .int x1), (2, .int x2)] → (s_H_take S a1 a2) = s_H_take_b16 Z x1 x2 → W p l e (rk 3 69) s m args below meth c H locs 0 0 Q (F0 m 16 ls []) := by
    intro Z x1 x2 H locs hP hS ls hl hq
    refine lv_aload_n hx hb d_H_take_16 rfl (lv_at hl 0 rfl) ?_
    refine lv_iload_n hx hb d_H_take_17 rfl (lv_at hl 1 rfl) ?_
    refine p_H_sun hx hb hts hown hK hP hD hS d_H_take_18 (fun H locs hP hS => ?_)
    have hP : va_P E.1 vwCl (wb E ad (sV Z 30 x1) ++ X) H := hP
    refine lv_aload_n hx hb d_H_take_21 rfl (lv_at hl 0 rfl) ?_
    refine lv_iload_n hx hb d_H_take_22 rfl (lv_at hl 2 rfl) ?_
    refine p_H_planet hx hb hts hown hK hP hD hS d_H_take_23 (fun H locs hP hS => ?_)
    have hP : va_P E.1 vwCl (wb E ad (sV (sV Z 30 x1) 31 x2) ++ X) H := hP
    exact b26 (sV (sV Z 30 x1) 31 x2) H locs hP hS ls (lv_sub hl [0] rfl) (by rw [hq, s_H_take_b16])
  refine lv_aload_n hx hb d_H_take_0 rfl (lv_at hl 0 rfl) ?_
  refine g_H_found hx hb hts hown hK hP d_H_take_1 ?_
  refine lv_if_eq (tgt := 16) hx hb d_H_take_4 (by decide) (fun c_4 => ?_) (fun c_4 => ?_)
  · exact b16 S a1 a2 s.heap [] hP hS ls (lv_sub hl [0, 1, 2] rfl) (by rw [s_H_take, if_pos c_4])
  · refine lv_aload_n hx hb d_H_take_7 rfl (lv_at hl 0 rfl) ?_
    refine lv_iload_n hx hb d_H_take_8 rfl (lv_at hl 1 rfl) ?_
    refine lv_iload_n hx hb d_H_take_9 rfl (lv_at hl 2 rfl) ?_
    refine k_vi (rest := []) (c_H_isBetter l E ad X S a1 a2) mi_H_isBetter ml_H_51 hx hb hml hts hown hK hP rvH hl ⟨rfl, rfl⟩ ⟨(Nat.le_of_ble_eq_true rfl), (Nat.le_of_ble_eq_true rfl)⟩ ⟨Nat.zero_le _, Nat.zero_le _⟩ rfl (Nat.le_of_ble_eq_true rfl) rfl d_H_take_10 ?_
    refine lv_if_eq (tgt := 26) hx hb d_H_take_13 (by decide) (fun c_13 => ?_) (fun c_13 => ?_)
    · exact b26 S s.heap [] hP hS ls (lv_sub hl [0] rfl) (by rw [s_H_take, if_neg c_4, if_pos c_13])
    · exact b16 S a1 a2 s.heap [] hP hS ls (lv_sub hl [0, 1, 2] rfl) (by rw [s_H_take, if_neg c_4, if_neg c_13])

def s_H_run_b59 (k48 : St → Int32 → Int32 → Int32 → St) : Nat → St → Int32 → Int32 → Int32 → Int32 → St
  | 0, Z, _, _, _, _ => Z
  | n + 1, Z, x5, x6, x7, x8 => (if x6 < x8 then (k48 Z x5 x6 (x7 + 1)) else (if (s_H_isNear Z x7 x8) = 0 then (s_H_run_b59 k48 n Z x5 x6 x7 (x8 + 1)) else (if (s_T_canBe x7 x8 (Z.1 25)) = 0 then (s_H_run_b59 k48 n Z x5 x6 x7 (x8 + 1)) else (s_H_run_b59 k48 n (s_H_take Z x7 x8) x5 x6 x7 (x8 + 1)))))
def s_H_run_b48 : Nat → St → Int32 → Int32 → Int32 → St
  | 0, Z, _, _, _ => Z
  | n + 1, Z, x5, x6, x7 => (if x6 < x7 then Z else (s_H_run_b59 (fun Z x5 x6 x7 => s_H_run_b48 n Z x5 x6 x7) ((x6.toInt + 1 - x5.toInt).toNat + 1) Z x5 x6 x7 x5))
def s_H_run (S : St) (a1 : Int32) (a2 : Int32) (a3 : Int32) (a4 : Int32) : St := (s_H_run_b48 (((a1 - a1 / (100 : Int32) * (100 : Int32)).toInt + 1 - (a1 / (100 : Int32)).toInt).toNat + 1) (sV (sV (sV (sV (sV S 25 a2) 26 (a3 / (100 : Int32))) 27 (a3 - a3 / (100 : Int32) * (100 : Int32))) 28 a4) 29 (0 : Int32)) (a1 / (100 : Int32)) (a1 - a1 / (100 : Int32) * (100 : Int32)) (a1 / (100 : Int32)))
set_option maxRecDepth 20000 in
theorem c_H_run (l : Launch) (E : Cx) (ad : Nat → Nat) (X : va_W) (S : St) (A : Nat → Prop) (a1 : Int32) (a2 : Int32) (a3 : Int32) (a4 : Int32) : Met l y_H_run (Cond.code y_H_run b_H_run 9 none :: TB) (rk 4 91) (va_Pc [.ref (ad 44), .int a1, .int a2, .int a3, .int a4] (preM E A (fun S => wb E ad S ++ X) S)) (va_Qv (fun u => u = (s_H_run S a1 a2 a3 a4)) (fun u t => va_P E.1 vwCl ((fun S => wb E ad S ++ X) u) t.heap) A) 0 0 A := by
  refine w_muV rfl (Nat.le_of_ble_eq_true rfl) ?_
  intro p e s m args below meth c Q ls hx hb hml hts hown hP hK hD hS hl hend
  have hl : lv_has ls 9 [(0, .ref (ad 44)), (1, .int a1), (2, .int a2), (3, .int a3), (4, .int a4)] := hl
  have hP : va_P E.1 vwCl (wb E ad S ++ X) s.heap := hP
  have hown : s.vm.findClass R_H = some m.cls := hown
  have hD : ∀ S' : St, va_D A (wb E ad S' ++ X) := hD
  have b48 : ∀ (n : Nat) (Z : St) (x5 : Int32) (x6 : Int32) (x7 : Int32) (H : Heap) (locs : List Loc), va_P E.1 vwCl (wb E ad Z ++ X) H → va_S A s.heap H locs → (UE n x6 x7) → ∀ (ls : Array Slot), lv_has ls 9 [(0, .ref (ad 44)), (5, .int x5), (6, .int x6), (7, .int x7)] → (s_H_run S a1 a2 a3 a4) = s_H_run_b48 n Z x5 x6 x7 → W p l e (rk 4 91) s m args below meth c H locs 0 0 Q (F0 m 48 ls []) := by
    intro n48
    induction n48 with
    | zero => intro Z x5 x6 x7 H locs hP hS hv; exact absurd hv (UE_z)
    | succ n48 ih48 =>
      have b59 : ∀ (n : Nat) (Z : St) (x5 : Int32) (x6 : Int32) (x7 : Int32) (x8 : Int32) (H : Heap) (locs : List Loc), va_P E.1 vwCl (wb E ad Z ++ X) H → va_S A s.heap H locs → (UE n x6 x8) → (UE n48 x6 (x7 + 1)) → ∀ (ls : Array Slot), lv_has ls 9 [(0, .ref (ad 44)), (5, .int x5), (6, .int x6), (7, .int x7), (8, .int x8)] → (s_H_run S a1 a2 a3 a4) = s_H_run_b59 (fun Z x5 x6 x7 => s_H_run_b48 n48 Z x5 x6 x7) n Z x5 x6 x7 x8 → W p l e (rk 4 91) s m args below meth c H locs 0 0 Q (F0 m 59 ls []) := by
        intro n59
        induction n59 with
        | zero => intro Z x5 x6 x7 x8 H locs hP hS hv; exact absurd hv (UE_z)
        | succ n59 ih59 =>
          intro Z x5 x6 x7 x8 H locs hP hS hv ho ls hl hq
          refine lv_iload hx hb d_H_run_59 (lv_at hl 4 rfl) ?_
          refine lv_iload hx hb d_H_run_61 (lv_at hl 2 rfl) ?_
          refine lv_icmp_gt (tgt := 105) hx hb d_H_run_63 (by decide) (fun c_63 => ?_) (fun c_63 => ?_)
          · refine lv_iinc (v := (x7 + 1)) (lv' := [(7, .int (x7 + 1)), (0, .ref (ad 44)), (5, .int x5), (6, .int x6), (8, .int x8)]) hx hb d_H_run_105 hl (k := 3) rfl rfl (by decide) rfl (fun ls hl => ?_)
            refine lv_goto (tgt := 48) hx hb d_H_run_108 (by decide) ?_
            exact ih48 Z x5 x6 (x7 + 1) H locs hP hS (ho) ls (lv_sub hl [1, 2, 3, 0] rfl) (by rw [hq, s_H_run_b59, if_pos c_63])
          · refine lv_aload_n hx hb d_H_run_66 rfl (lv_at hl 0 rfl) ?_
            refine lv_iload hx hb d_H_run_67 (lv_at hl 3 rfl) ?_
            refine lv_iload hx hb d_H_run_69 (lv_at hl 4 rfl) ?_
            refine k_vi (rest := []) (c_H_isNear l E ad X Z x7 x8) mi_H_isNear ml_H_33 hx hb hml hts hown hK hP rvH hl ⟨rfl, rfl⟩ ⟨(Nat.le_of_ble_eq_true rfl), (Nat.le_of_ble_eq_true rfl)⟩ ⟨Nat.zero_le _, Nat.zero_le _⟩ rfl (Nat.le_of_ble_eq_true rfl) rfl d_H_run_71 ?_
            refine lv_if_eq (tgt := 99) hx hb d_H_run_74 (by decide) (fun c_74 => ?_) (fun c_74 => ?_)
            · refine lv_iinc (v := (x8 + 1)) (lv' := [(8, .int (x8 + 1)), (0, .ref (ad 44)), (5, .int x5), (6, .int x6), (7, .int x7)]) hx hb d_H_run_99 hl (k := 4) rfl rfl (by decide) rfl (fun ls hl => ?_)
              refine lv_goto (tgt := 59) hx hb d_H_run_102 (by decide) ?_
              exact ih59 Z x5 x6 x7 (x8 + 1) H locs hP hS (UE_up hv c_63) (ho) ls (lv_sub hl [1, 2, 3, 4, 0] rfl) (by rw [hq, s_H_run_b59, if_neg c_63, if_pos c_74])
            · refine lv_iload hx hb d_H_run_77 (lv_at hl 3 rfl) ?_
              refine lv_iload hx hb d_H_run_79 (lv_at hl 4 rfl) ?_
              refine lv_aload_n hx hb d_H_run_81 rfl (lv_at hl 0 rfl) ?_
              refine g_H_k hx hb hts hown hK hP d_H_run_82 ?_
              refine k_si (rest := []) (c_T_canBe l E x7 x8 (Z.1 25)) mi_T_canBe ml_H_37 hx hb hml hts hown hK va_nil hl ⟨rfl, rfl⟩ ⟨(Nat.le_of_ble_eq_true rfl), (Nat.le_of_ble_eq_true rfl)⟩ ⟨Nat.zero_le _, Nat.zero_le _⟩ rfl (Nat.le_of_ble_eq_true rfl) rfl d_H_run_85 ?_
              refine lv_if_eq (tgt := 99) hx hb d_H_run_88 (by decide) (fun c_88 => ?_) (fun c_88 => ?_)
              · refine lv_iinc (v := (x8 + 1)) (lv' := [(8, .int (x8 + 1)), (0, .ref (ad 44)), (5, .int x5), (6, .int x6), (7, .int x7)]) hx hb d_H_run_99 hl (k := 4) rfl rfl (by decide) rfl (fun ls hl => ?_)
                refine lv_goto (tgt := 59) hx hb d_H_run_102 (by decide) ?_
                exact ih59 Z x5 x6 x7 (x8 + 1) H locs hP hS (UE_up hv c_63) (ho) ls (lv_sub hl [1, 2, 3, 4, 0] rfl) (by rw [hq, s_H_run_b59, if_neg c_63, if_neg c_74, if_pos c_88])
              · refine lv_aload_n hx hb d_H_run_91 rfl (lv_at hl 0 rfl) ?_
                refine lv_iload hx hb d_H_run_92 (lv_at hl 3 rfl) ?_
                refine lv_iload hx hb d_H_run_94 (lv_at hl 4 rfl) ?_
                refine k_mvv (rest := []) (c_H_take l E ad X Z A x7 x8) mi_H_take ml_H_43 hx hb hml hts hown hK hP hD hS rvH hl ⟨rfl, rfl⟩ ⟨(Nat.le_of_ble_eq_true rfl), (Nat.le_of_ble_eq_true rfl)⟩ ⟨Nat.zero_le _, Nat.zero_le _⟩ rfl (Nat.le_of_ble_eq_true rfl) rfl d_H_run_96 (fun H locs hP hS => ?_)
                have hP : va_P E.1 vwCl (wb E ad (s_H_take Z x7 x8) ++ X) H := hP
                refine lv_iinc (v := (x8 + 1)) (lv' := [(8, .int (x8 + 1)), (0, .ref (ad 44)), (5, .int x5), (6, .int x6), (7, .int x7)]) hx hb d_H_run_99 hl (k := 4) rfl rfl (by decide) rfl (fun ls hl => ?_)
                refine lv_goto (tgt := 59) hx hb d_H_run_102 (by decide) ?_
                exact ih59 (s_H_take Z x7 x8) x5 x6 x7 (x8 + 1) H locs hP hS (UE_up hv c_63) (ho) ls (lv_sub hl [1, 2, 3, 4, 0] rfl) (by rw [hq, s_H_run_b59, if_neg c_63, if_neg c_74, if_neg c_88])
      intro Z x5 x6 x7 H locs hP hS hv ls hl hq
      refine lv_iload hx hb d_H_run_48 (lv_at hl 3 rfl) ?_
      refine lv_iload hx hb d_H_run_50 (lv_at hl 2 rfl) ?_
      refine lv_icmp_gt (tgt := 111) hx hb d_H_run_52 (by decide) (fun c_52 => ?_) (fun c_52 => ?_)
      · exact hend _ _ _ _ _ (by rw [hq, s_H_run_b48, if_pos c_52]) hP hS d_H_run_111
      · refine lv_iload hx hb d_H_run_55 (lv_at hl 1 rfl) ?_
        refine lv_istore (lv' := [(8, .int x5), (0, .ref (ad 44)), (5, .int x5), (6, .int x6), (7, .int x7)]) hx hb d_H_run_57 hl (by decide) rfl (fun ls hl => ?_)
        exact b59 ((x6.toInt + 1 - x5.toInt).toNat + 1) Z x5 x6 x7 x5 H locs hP hS (UE_in hv.2.2) (UE_up hv c_52) ls (lv_sub hl [1, 2, 3, 4, 0] rfl) (by rw [hq, s_H_run_b48, if_neg c_52])
  refine lv_aload_n hx hb d_H_run_0 rfl (lv_at hl 0 rfl) ?_
  refine lv_iload_n hx hb d_H_run_1 rfl (lv_at hl 2 rfl) ?_
  refine p_H_k hx hb hts hown hK hP hD hS d_H_run_2 (fun H locs hP hS => ?_)
  have hP : va_P E.1 vwCl (wb E ad (sV S 25 a2) ++ X) H := hP
  refine lv_aload_n hx hb d_H_run_5 rfl (lv_at hl 0 rfl) ?_
  refine lv_iload_n hx hb d_H_run_6 rfl (lv_at hl 3 rfl) ?_
  refine lv_bipush (v := (100 : Int32)) hx hb d_H_run_7 rfl ?_
  refine lv_idiv hx hb d_H_run_9 (by decide) ?_
  refine p_H_u hx hb hts hown hK hP hD hS d_H_run_10 (fun H locs hP hS => ?_)
  have hP : va_P E.1 vwCl (wb E ad (sV (sV S 25 a2) 26 (a3 / (100 : Int32))) ++ X) H := hP
  refine lv_aload_n hx hb d_H_run_13 rfl (lv_at hl 0 rfl) ?_
  refine lv_iload_n hx hb d_H_run_14 rfl (lv_at hl 3 rfl) ?_
  refine lv_bipush (v := (100 : Int32)) hx hb d_H_run_15 rfl ?_
  refine lv_irem hx hb d_H_run_17 (by decide) ?_
  refine p_H_w hx hb hts hown hK hP hD hS d_H_run_18 (fun H locs hP hS => ?_)
  have hP : va_P E.1 vwCl (wb E ad (sV (sV (sV S 25 a2) 26 (a3 / (100 : Int32))) 27 (a3 - a3 / (100 : Int32) * (100 : Int32))) ++ X) H := hP
  refine lv_aload_n hx hb d_H_run_21 rfl (lv_at hl 0 rfl) ?_
  refine lv_iload hx hb d_H_run_22 (lv_at hl 4 rfl) ?_
  refine p_H_t hx hb hts hown hK hP hD hS d_H_run_24 (fun H locs hP hS => ?_)
  have hP : va_P E.1 vwCl (wb E ad (sV (sV (sV (sV S 25 a2) 26 (a3 / (100 : Int32))) 27 (a3 - a3 / (100 : Int32) * (100 : Int32))) 28 a4) ++ X) H := hP
  refine lv_aload_n hx hb d_H_run_27 rfl (lv_at hl 0 rfl) ?_
  refine lv_iconst (v := (0 : Int32)) hx hb d_H_run_28 rfl ?_
  refine p_H_found hx hb hts hown hK hP hD hS d_H_run_29 (fun H locs hP hS => ?_)
  have hP : va_P E.1 vwCl (wb E ad (sV (sV (sV (sV (sV S 25 a2) 26 (a3 / (100 : Int32))) 27 (a3 - a3 / (100 : Int32) * (100 : Int32))) 28 a4) 29 (0 : Int32)) ++ X) H := hP
  refine lv_iload_n hx hb d_H_run_32 rfl (lv_at hl 1 rfl) ?_
  refine lv_bipush (v := (100 : Int32)) hx hb d_H_run_33 rfl ?_
  refine lv_idiv hx hb d_H_run_35 (by decide) ?_
  refine lv_istore (lv' := [(5, .int (a1 / (100 : Int32))), (0, .ref (ad 44)), (1, .int a1), (2, .int a2), (3, .int a3), (4, .int a4)]) hx hb d_H_run_36 hl (by decide) rfl (fun ls hl => ?_)
  refine lv_iload_n hx hb d_H_run_38 rfl (lv_at hl 2 rfl) ?_
  refine lv_bipush (v := (100 : Int32)) hx hb d_H_run_39 rfl ?_
  refine lv_irem hx hb d_H_run_41 (by decide) ?_
  refine lv_istore (lv' := [(6, .int (a1 - a1 / (100 : Int32) * (100 : Int32))), (5, .int (a1 / (100 : Int32))), (0, .ref (ad 44)), (1, .int a1), (2, .int a2), (3, .int a3), (4, .int a4)]) hx hb d_H_run_42 hl (by decide) rfl (fun ls hl => ?_)
  refine lv_iload hx hb d_H_run_44 (lv_at hl 1 rfl) ?_
  refine lv_istore (lv' := [(7, .int (a1 / (100 : Int32))), (6, .int (a1 - a1 / (100 : Int32) * (100 : Int32))), (5, .int (a1 / (100 : Int32))), (0, .ref (ad 44)), (1, .int a1), (2, .int a2), (3, .int a3), (4, .int a4)]) hx hb d_H_run_46 hl (by decide) rfl (fun ls hl => ?_)
  exact b48 (((a1 - a1 / (100 : Int32) * (100 : Int32)).toInt + 1 - (a1 / (100 : Int32)).toInt).toNat + 1) (sV (sV (sV (sV (sV S 25 a2) 26 (a3 / (100 : Int32))) 27 (a3 - a3 / (100 : Int32) * (100 : Int32))) 28 a4) 29 (0 : Int32)) (a1 / (100 : Int32)) (a1 - a1 / (100 : Int32) * (100 : Int32)) (a1 / (100 : Int32)) H locs hP hS (UE_in (rem100_lt a1)) ls (lv_sub hl [3, 2, 1, 0] rfl) (by rw [s_H_run])
