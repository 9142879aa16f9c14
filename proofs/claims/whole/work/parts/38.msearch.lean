/-! by program (wip/whole/mdl.py) -/
def s_M_off (a0 : Int32) (a1 : Int32) (a2 : Int32) (a3 : Int32) : Int64 := (if 0 ≤ (lg_cmp ((((2 : Int64) * ((a0 + a1).toInt64)) * (a3.toInt64)) - ((a2.toInt64) * (a0.toInt64))) (0 : Int64)) then ((((2 : Int64) * ((a0 + a1).toInt64)) * (a3.toInt64)) - ((a2.toInt64) * (a0.toInt64))) else (-((((2 : Int64) * ((a0 + a1).toInt64)) * (a3.toInt64)) - ((a2.toInt64) * (a0.toInt64)))))
set_option maxRecDepth 20000 in
theorem c_M_off (l : Launch) (E : Cx) (a0 : Int32) (a1 : Int32) (a2 : Int32) (a3 : Int32) : Met l y_M_off (Cond.code y_M_off b_M_off 6 (some .long) :: TB) (rk 0 0) (va_Pc [.int a0, .int a1, .int a2, .int a3] (preR E [])) (vp_Sl (fun r => r = (s_M_off a0 a1 a2 a3))) 0 0 (fun _ => False) := by
  refine w_roL rfl (Nat.le_of_ble_eq_true rfl) ?_
  intro p e s m args below meth c Q ls hx hb hml hts hown hP hK hl hend
  have hl : lv_has ls 6 [(0, .int a0), (1, .int a1), (2, .int a2), (3, .int a3)] := hl
  have hown : s.vm.findClass R_M = some m.cls := hown
  refine lv_ldc2 (v := (2 : Int64)) hx hb hown (hts _ kl_M_77) d_M_off_0 ?_
  refine lv_iload_n hx hb d_M_off_3 rfl (lv_at hl 0 rfl) ?_
  refine lv_iload_n hx hb d_M_off_4 rfl (lv_at hl 1 rfl) ?_
  refine lv_iadd hx hb d_M_off_5 ?_
  refine lv_i2l hx hb d_M_off_6 rfl ?_
  refine lv_lmul hx hb d_M_off_7 ?_
  refine lv_iload_n hx hb d_M_off_8 rfl (lv_at hl 3 rfl) ?_
  refine lv_i2l hx hb d_M_off_9 rfl ?_
  refine lv_lmul hx hb d_M_off_10 ?_
  refine lv_iload_n hx hb d_M_off_11 rfl (lv_at hl 2 rfl) ?_
  refine lv_i2l hx hb d_M_off_12 rfl ?_
  refine lv_iload_n hx hb d_M_off_13 rfl (lv_at hl 0 rfl) ?_
  refine lv_i2l hx hb d_M_off_14 rfl ?_
  refine lv_lmul hx hb d_M_off_15 ?_
  refine lv_lsub hx hb d_M_off_16 ?_
  refine lv_lstore (lv' := [(4, .long ((((2 : Int64) * ((a0 + a1).toInt64)) * (a3.toInt64)) - ((a2.toInt64) * (a0.toInt64)))), (0, .int a0), (1, .int a1), (2, .int a2), (3, .int a3)]) hx hb d_M_off_17 hl (by decide) rfl (fun ls hl => ?_)
  refine lv_lload hx hb d_M_off_19 (lv_at hl 0 rfl) ?_
  refine lv_lconst (v := (0 : Int64)) hx hb d_M_off_21 rfl ?_
  refine W.lcmp hx hb d_M_off_22 ?_
  refine lv_if_ge (tgt := 32) hx hb d_M_off_23 (by decide) (fun c_23 => ?_) (fun c_23 => ?_)
  · refine lv_lload hx hb d_M_off_32 (lv_at hl 0 rfl) ?_
    exact hend _ _ _ (by rw [s_M_off, if_pos c_23]) d_M_off_34
  · refine lv_lload hx hb d_M_off_26 (lv_at hl 0 rfl) ?_
    refine lv_lneg hx hb d_M_off_28 ?_
    refine lv_goto (tgt := 34) hx hb d_M_off_29 (by decide) ?_
    exact hend _ _ _ (by rw [s_M_off, if_neg c_23]) d_M_off_34

def s_M_teethOf (a0 : Int32) (a1 : Int32) (a2 : Int32) : Int32 := (((a0 + (a2 * a1)) + a0) + ((2 : Int32) * a1))
set_option maxRecDepth 20000 in
theorem c_M_teethOf (l : Launch) (E : Cx) (a0 : Int32) (a1 : Int32) (a2 : Int32) : Met l y_M_teethOf (Cond.code y_M_teethOf b_M_teethOf 3 (some .int) :: TB) (rk 0 0) (va_Pc [.int a0, .int a1, .int a2] (preR E [])) (vp_Si (fun r => r = (s_M_teethOf a0 a1 a2))) 0 0 (fun _ => False) := by
  refine w_roI rfl (Nat.le_of_ble_eq_true rfl) rfl ?_
  intro p e s m args below meth c Q ls hx hb hml hts hown hP hK hl hend
  have hl : lv_has ls 3 [(0, .int a0), (1, .int a1), (2, .int a2)] := hl
  have hown : s.vm.findClass R_M = some m.cls := hown
  refine lv_iload_n hx hb d_M_teethOf_0 rfl (lv_at hl 0 rfl) ?_
  refine lv_iload_n hx hb d_M_teethOf_1 rfl (lv_at hl 2 rfl) ?_
  refine lv_iload_n hx hb d_M_teethOf_2 rfl (lv_at hl 1 rfl) ?_
  refine lv_imul hx hb d_M_teethOf_3 ?_
  refine lv_iadd hx hb d_M_teethOf_4 ?_
  refine lv_iload_n hx hb d_M_teethOf_5 rfl (lv_at hl 0 rfl) ?_
  refine lv_iadd hx hb d_M_teethOf_6 ?_
  refine lv_iconst (v := (2 : Int32)) hx hb d_M_teethOf_7 rfl ?_
  refine lv_iload_n hx hb d_M_teethOf_8 rfl (lv_at hl 1 rfl) ?_
  refine lv_imul hx hb d_M_teethOf_9 ?_
  refine lv_iadd hx hb d_M_teethOf_10 ?_
  exact hend _ _ _ (by rw [s_M_teethOf]) d_M_teethOf_11

def s_M_isBetter (S : St) (a1 : Int32) (a2 : Int32) (a3 : Int32) (a4 : Int32) (a5 : Int32) : Int32 := (if (lg_cmp (((s_M_off a1 a2 a4 a5) * ((S.1 2).toInt64)) - ((s_M_off (S.1 2) (S.1 3) a4 a5) * (a1.toInt64))) (0 : Int64)) < 0 then (1 : Int32) else (if (lg_cmp (((s_M_off a1 a2 a4 a5) * ((S.1 2).toInt64)) - ((s_M_off (S.1 2) (S.1 3) a4 a5) * (a1.toInt64))) (0 : Int64)) = 0 then (if ((s_M_teethOf a1 a2 a3) - (s_M_teethOf (S.1 2) (S.1 3) a3)) < 0 then (1 : Int32) else (if ((s_M_teethOf a1 a2 a3) - (s_M_teethOf (S.1 2) (S.1 3) a3)) = 0 then (if (S.1 2) ≤ a1 then (0 : Int32) else (1 : Int32)) else (0 : Int32))) else (0 : Int32)))
theorem z_M_isBetter (S : St) (a1 : Int32) (a2 : Int32) (a3 : Int32) (a4 : Int32) (a5 : Int32) : (s_M_isBetter S a1 a2 a3 a4 a5) = 0 ∨ (s_M_isBetter S a1 a2 a3 a4 a5) = 1 := by rw [s_M_isBetter]; exact (ite_z (Or.inr rfl) (ite_z (ite_z (Or.inr rfl) (ite_z (ite_z (Or.inl rfl) (Or.inr rfl)) (Or.inl rfl))) (Or.inl rfl)))
set_option maxRecDepth 20000 in
theorem c_M_isBetter (l : Launch) (E : Cx) (ad : Nat → Nat) (X : va_W) (S : St) (a1 : Int32) (a2 : Int32) (a3 : Int32) (a4 : Int32) (a5 : Int32) : Met l y_M_isBetter (Cond.code y_M_isBetter b_M_isBetter 9 (some .boolean) :: TB) (rk 1 25) (va_Pc [.ref (ad 0), .int a1, .int a2, .int a3, .int a4, .int a5] (preR E (wm E ad S ++ X))) (vp_Si (fun r => r = (s_M_isBetter S a1 a2 a3 a4 a5))) 0 0 (fun _ => False) := by
  refine w_roI rfl (Nat.le_of_ble_eq_true rfl) (k_nb (z_M_isBetter S a1 a2 a3 a4 a5)) ?_
  intro p e s m args below meth c Q ls hx hb hml hts hown hP hK hl hend
  have hl : lv_has ls 9 [(0, .ref (ad 0)), (1, .int a1), (2, .int a2), (3, .int a3), (4, .int a4), (5, .int a5)] := hl
  have hP : va_P E.1 vwCl (wm E ad S ++ X) s.heap := hP
  have hown : s.vm.findClass R_M = some m.cls := hown
  refine lv_iload_n hx hb d_M_isBetter_0 rfl (lv_at hl 1 rfl) ?_
  refine lv_iload_n hx hb d_M_isBetter_1 rfl (lv_at hl 2 rfl) ?_
  refine lv_iload hx hb d_M_isBetter_2 (lv_at hl 4 rfl) ?_
  refine lv_iload hx hb d_M_isBetter_4 (lv_at hl 5 rfl) ?_
  refine k_sl (rest := []) (c_M_off l E a1 a2 a4 a5) mi_M_off ml_M_179 hx hb hml hts hown hK va_nil hl ⟨rfl, rfl⟩ ⟨(Nat.le_of_ble_eq_true rfl), (Nat.le_of_ble_eq_true rfl)⟩ ⟨Nat.zero_le _, Nat.zero_le _⟩ rfl (Nat.le_of_ble_eq_true rfl) rfl d_M_isBetter_6 ?_
  refine lv_aload_n hx hb d_M_isBetter_9 rfl (lv_at hl 0 rfl) ?_
  refine g_M_bestSun hx hb hts hown hK hP d_M_isBetter_10 ?_
  refine lv_i2l hx hb d_M_isBetter_13 rfl ?_
  refine lv_lmul hx hb d_M_isBetter_14 ?_
  refine lv_aload_n hx hb d_M_isBetter_15 rfl (lv_at hl 0 rfl) ?_
  refine g_M_bestSun hx hb hts hown hK hP d_M_isBetter_16 ?_
  refine lv_aload_n hx hb d_M_isBetter_19 rfl (lv_at hl 0 rfl) ?_
  refine g_M_bestPlanet hx hb hts hown hK hP d_M_isBetter_20 ?_
  refine lv_iload hx hb d_M_isBetter_23 (lv_at hl 4 rfl) ?_
  refine lv_iload hx hb d_M_isBetter_25 (lv_at hl 5 rfl) ?_
  refine k_sl (rest := [.long ((s_M_off a1 a2 a4 a5) * ((S.1 2).toInt64))]) (c_M_off l E (S.1 2) (S.1 3) a4 a5) mi_M_off ml_M_179 hx hb hml hts hown hK va_nil hl ⟨rfl, rfl⟩ ⟨(Nat.le_of_ble_eq_true rfl), (Nat.le_of_ble_eq_true rfl)⟩ ⟨Nat.zero_le _, Nat.zero_le _⟩ rfl (Nat.le_of_ble_eq_true rfl) rfl d_M_isBetter_27 ?_
  refine lv_iload_n hx hb d_M_isBetter_30 rfl (lv_at hl 1 rfl) ?_
  refine lv_i2l hx hb d_M_isBetter_31 rfl ?_
  refine lv_lmul hx hb d_M_isBetter_32 ?_
  refine lv_lsub hx hb d_M_isBetter_33 ?_
  refine lv_lstore (lv' := [(6, .long (((s_M_off a1 a2 a4 a5) * ((S.1 2).toInt64)) - ((s_M_off (S.1 2) (S.1 3) a4 a5) * (a1.toInt64)))), (0, .ref (ad 0)), (1, .int a1), (2, .int a2), (3, .int a3), (4, .int a4), (5, .int a5)]) hx hb d_M_isBetter_34 hl (by decide) rfl (fun ls hl => ?_)
  refine lv_iload_n hx hb d_M_isBetter_36 rfl (lv_at hl 2 rfl) ?_
  refine lv_iload_n hx hb d_M_isBetter_37 rfl (lv_at hl 3 rfl) ?_
  refine lv_iload_n hx hb d_M_isBetter_38 rfl (lv_at hl 4 rfl) ?_
  refine k_si (rest := []) (c_M_teethOf l E a1 a2 a3) mi_M_teethOf ml_M_195 hx hb hml hts hown hK va_nil hl ⟨rfl, rfl⟩ ⟨(Nat.le_of_ble_eq_true rfl), (Nat.le_of_ble_eq_true rfl)⟩ ⟨Nat.zero_le _, Nat.zero_le _⟩ rfl (Nat.le_of_ble_eq_true rfl) rfl d_M_isBetter_39 ?_
  refine lv_aload_n hx hb d_M_isBetter_42 rfl (lv_at hl 1 rfl) ?_
  refine g_M_bestSun hx hb hts hown hK hP d_M_isBetter_43 ?_
  refine lv_aload_n hx hb d_M_isBetter_46 rfl (lv_at hl 1 rfl) ?_
  refine g_M_bestPlanet hx hb hts hown hK hP d_M_isBetter_47 ?_
  refine lv_iload_n hx hb d_M_isBetter_50 rfl (lv_at hl 4 rfl) ?_
  refine k_si (rest := [.int (s_M_teethOf a1 a2 a3)]) (c_M_teethOf l E (S.1 2) (S.1 3) a3) mi_M_teethOf ml_M_195 hx hb hml hts hown hK va_nil hl ⟨rfl, rfl⟩ ⟨(Nat.le_of_ble_eq_true rfl), (Nat.le_of_ble_eq_true rfl)⟩ ⟨Nat.zero_le _, Nat.zero_le _⟩ rfl (Nat.le_of_ble_eq_true rfl) rfl d_M_isBetter_51 ?_
  refine lv_isub hx hb d_M_isBetter_54 ?_
  refine lv_istore (lv' := [(8, .int ((s_M_teethOf a1 a2 a3) - (s_M_teethOf (S.1 2) (S.1 3) a3))), (6, .long (((s_M_off a1 a2 a4 a5) * ((S.1 2).toInt64)) - ((s_M_off (S.1 2) (S.1 3) a4 a5) * (a1.toInt64)))), (0, .ref (ad 0)), (1, .int a1), (2, .int a2), (3, .int a3), (4, .int a4), (5, .int a5)]) hx hb d_M_isBetter_55 hl (by decide) rfl (fun ls hl => ?_)
  refine lv_lload hx hb d_M_isBetter_57 (lv_at hl 1 rfl) ?_
  refine lv_lconst (v := (0 : Int64)) hx hb d_M_isBetter_59 rfl ?_
  refine W.lcmp hx hb d_M_isBetter_60 ?_
  refine lv_if_lt (tgt := 89) hx hb d_M_isBetter_61 (by decide) (fun c_61 => ?_) (fun c_61 => ?_)
  · refine lv_iconst (v := (1 : Int32)) hx hb d_M_isBetter_89 rfl ?_
    refine lv_goto (tgt := 94) hx hb d_M_isBetter_90 (by decide) ?_
    exact hend _ _ _ (by rw [s_M_isBetter, if_pos c_61]) d_M_isBetter_94
  · refine lv_lload hx hb d_M_isBetter_64 (lv_at hl 1 rfl) ?_
    refine lv_lconst (v := (0 : Int64)) hx hb d_M_isBetter_66 rfl ?_
    refine W.lcmp hx hb d_M_isBetter_67 ?_
    refine lv_if_ne (tgt := 93) hx hb d_M_isBetter_68 (by decide) (fun c_68 => ?_) (fun c_68 => ?_)
    · refine lv_iconst (v := (0 : Int32)) hx hb d_M_isBetter_93 rfl ?_
      exact hend _ _ _ (by rw [s_M_isBetter, if_neg c_61, if_neg c_68]) d_M_isBetter_94
    · refine lv_iload hx hb d_M_isBetter_71 (lv_at hl 0 rfl) ?_
      refine lv_if_lt (tgt := 89) hx hb d_M_isBetter_73 (by decide) (fun c_73 => ?_) (fun c_73 => ?_)
      · refine lv_iconst (v := (1 : Int32)) hx hb d_M_isBetter_89 rfl ?_
        refine lv_goto (tgt := 94) hx hb d_M_isBetter_90 (by decide) ?_
        exact hend _ _ _ (by rw [s_M_isBetter, if_neg c_61, if_pos c_68, if_pos c_73]) d_M_isBetter_94
      · refine lv_iload hx hb d_M_isBetter_76 (lv_at hl 0 rfl) ?_
        refine lv_if_ne (tgt := 93) hx hb d_M_isBetter_78 (by decide) (fun c_78 => ?_) (fun c_78 => ?_)
        · refine lv_iconst (v := (0 : Int32)) hx hb d_M_isBetter_93 rfl ?_
          exact hend _ _ _ (by rw [s_M_isBetter, if_neg c_61, if_pos c_68, if_neg c_73, if_neg c_78]) d_M_isBetter_94
        · refine lv_iload_n hx hb d_M_isBetter_81 rfl (lv_at hl 3 rfl) ?_
          refine lv_aload_n hx hb d_M_isBetter_82 rfl (lv_at hl 2 rfl) ?_
          refine g_M_bestSun hx hb hts hown hK hP d_M_isBetter_83 ?_
          refine lv_icmp_ge (tgt := 93) hx hb d_M_isBetter_86 (by decide) (fun c_86 => ?_) (fun c_86 => ?_)
          · refine lv_iconst (v := (0 : Int32)) hx hb d_M_isBetter_93 rfl ?_
            exact hend _ _ _ (by rw [s_M_isBetter, if_neg c_61, if_pos c_68, if_neg c_73, if_pos c_78, if_pos c_86]) d_M_isBetter_94
          · refine lv_iconst (v := (1 : Int32)) hx hb d_M_isBetter_89 rfl ?_
            refine lv_goto (tgt := 94) hx hb d_M_isBetter_90 (by decide) ?_
            exact hend _ _ _ (by rw [s_M_isBetter, if_neg c_61, if_pos c_68, if_neg c_73, if_pos c_78, if_neg c_86]) d_M_isBetter_94

def s_M_searches_b17 (k8 : St → Int32 → Int32 → Int32 → Int32 → Int32 → Int32 → Int32 → St) : Nat → St → Int32 → Int32 → Int32 → Int32 → Int32 → Int32 → Int32 → Int32 → St
  | 0, Z, _, _, _, _, _, _, _, _ => Z
  | n + 1, Z, x1, x2, x3, x4, x5, x6, x7, x8 => (if x2 < x8 then (k8 Z x1 x2 x3 x4 x5 x6 (x7 + 1)) else (if (s_M_puts Z x7 x8 x3) = (1 : Int32) then (if 0 < (lg_cmp ((s_M_off x7 x8 x4 x5) * (1000 : Int64)) (((x4.toInt64) * (x6.toInt64)) * (x7.toInt64))) then (s_M_searches_b17 k8 n (sV Z 1 ((Z.1 1) + (0 : Int32))) x1 x2 x3 x4 x5 x6 x7 (x8 + 1)) else (if ((Z.1 1) + (1 : Int32)) = (1 : Int32) then (s_M_searches_b17 k8 n (sV (sV (sV Z 1 ((Z.1 1) + (1 : Int32))) 2 x7) 3 x8) x1 x2 x3 x4 x5 x6 x7 (x8 + 1)) else (if (s_M_isBetter (sV Z 1 ((Z.1 1) + (1 : Int32))) x7 x8 x3 x4 x5) = 0 then (s_M_searches_b17 k8 n (sV Z 1 ((Z.1 1) + (1 : Int32))) x1 x2 x3 x4 x5 x6 x7 (x8 + 1)) else (s_M_searches_b17 k8 n (sV (sV (sV Z 1 ((Z.1 1) + (1 : Int32))) 2 x7) 3 x8) x1 x2 x3 x4 x5 x6 x7 (x8 + 1))))) else (s_M_searches_b17 k8 n (sV Z 1 ((Z.1 1) + (0 : Int32))) x1 x2 x3 x4 x5 x6 x7 (x8 + 1))))
def s_M_searches_b8 : Nat → St → Int32 → Int32 → Int32 → Int32 → Int32 → Int32 → Int32 → St
  | 0, Z, _, _, _, _, _, _, _ => Z
  | n + 1, Z, x1, x2, x3, x4, x5, x6, x7 => (if x2 < x7 then Z else (s_M_searches_b17 (fun Z x1 x2 x3 x4 x5 x6 x7 => s_M_searches_b8 n Z x1 x2 x3 x4 x5 x6 x7) ((x2.toInt + 1 - x1.toInt).toNat + 1) Z x1 x2 x3 x4 x5 x6 x7 x1))
def s_M_searches (S : St) (a1 : Int32) (a2 : Int32) (a3 : Int32) (a4 : Int32) (a5 : Int32) (a6 : Int32) : St := (s_M_searches_b8 ((a2.toInt + 1 - a1.toInt).toNat + 1) (sV S 1 (0 : Int32)) a1 a2 a3 a4 a5 a6 a1)
set_option maxRecDepth 20000 in
theorem c_M_searches (l : Launch) (E : Cx) (ad : Nat → Nat) (X : va_W) (S : St) (A : Nat → Prop) (a1 : Int32) (a2 : Int32) (a3 : Int32) (a4 : Int32) (a5 : Int32) (a6 : Int32) (hk : k18 a3) (hB : a2.toInt < 1000) : Met l y_M_searches (Cond.code y_M_searches b_M_searches 10 none :: TB) (rk 2 53) (va_Pc [.ref (ad 0), .int a1, .int a2, .int a3, .int a4, .int a5, .int a6] (preM E A (fun S => wm E ad S ++ X) S)) (va_Qv (fun u => u = (s_M_searches S a1 a2 a3 a4 a5 a6)) (fun u t => va_P E.1 vwCl ((fun S => wm E ad S ++ X) u) t.heap) A) 0 0 A := by
  refine w_muV rfl (Nat.le_of_ble_eq_true rfl) ?_
  intro p e s m args below meth c Q ls hx hb hml hts hown hP hK hD hS hl hend
  have hl : lv_has ls 10 [(0, .ref (ad 0)), (1, .int a1), (2, .int a2), (3, .int a3), (4, .int a4), (5, .int a5), (6, .int a6)] := hl
  have hP : va_P E.1 vwCl (wm E ad S ++ X) s.heap := hP
  have hown : s.vm.findClass R_M = some m.cls := hown
  have hD : ∀ S' : St, va_D A (wm E ad S' ++ X) := hD
  have b8 : ∀ (n : Nat) (Z : St) (x1 : Int32) (x2 : Int32) (x3 : Int32) (x4 : Int32) (x5 : Int32) (x6 : Int32) (x7 : Int32) (H : Heap) (locs : List Loc), va_P E.1 vwCl (wm E ad Z ++ X) H → va_S A s.heap H locs → (UE n x2 x7) → (k18 x3) → ∀ (ls : Array Slot), lv_has ls 10 [(0, .ref (ad 0)), (1, .int x1), (2, .int x2), (3, .int x3), (4, .int x4), (5, .int x5), (6, .int x6), (7, .int x7)] → (s_M_searches S a1 a2 a3 a4 a5 a6) = s_M_searches_b8 n Z x1 x2 x3 x4 x5 x6 x7 → W p l e (rk 2 53) s m args below meth c H locs 0 0 Q (F0 m 8 ls []) := by
    intro n8
    induction n8 with
    | zero => intro Z x1 x2 x3 x4 x5 x6 x7 H locs hP hS hv; exact absurd hv (UE_z)
    | succ n8 ih8 =>
      have b17 : ∀ (n : Nat) (Z : St) (x1 : Int32) (x2 : Int32) (x3 : Int32) (x4 : Int32) (x5 : Int32) (x6 : Int32) (x7 : Int32) (x8 : Int32) (H : Heap) (locs : List Loc), va_P E.1 vwCl (wm E ad Z ++ X) H → va_S A s.heap H locs → (UE n x2 x8) → (UE n8 x2 (x7 + 1)) → (k18 x3) → ∀ (ls : Array Slot), lv_has ls 10 [(0, .ref (ad 0)), (1, .int x1), (2, .int x2), (3, .int x3), (4, .int x4), (5, .int x5), (6, .int x6), (7, .int x7), (8, .int x8)] → (s_M_searches S a1 a2 a3 a4 a5 a6) = s_M_searches_b17 (fun Z x1 x2 x3 x4 x5 x6 x7 => s_M_searches_b8 n8 Z x1 x2 x3 x4 x5 x6 x7) n Z x1 x2 x3 x4 x5 x6 x7 x8 → W p l e (rk 2 53) s m args below meth c H locs 0 0 Q (F0 m 17 ls []) := by
        intro n17
        induction n17 with
        | zero => intro Z x1 x2 x3 x4 x5 x6 x7 x8 H locs hP hS hv; exact absurd hv (UE_z)
        | succ n17 ih17 =>
          intro Z x1 x2 x3 x4 x5 x6 x7 x8 H locs hP hS hv ho hk ls hl hq
          refine lv_iload hx hb d_M_searches_17 (lv_at hl 8 rfl) ?_
          refine lv_iload_n hx hb d_M_searches_19 rfl (lv_at hl 2 rfl) ?_
          refine lv_icmp_gt (tgt := 139) hx hb d_M_searches_20 (by decide) (fun c_20 => ?_) (fun c_20 => ?_)
          · refine lv_iinc (v := (x7 + 1)) (lv' := [(7, .int (x7 + 1)), (0, .ref (ad 0)), (1, .int x1), (2, .int x2), (3, .int x3), (4, .int x4), (5, .int x5), (6, .int x6), (8, .int x8)]) hx hb d_M_searches_139 hl (k := 7) rfl rfl (by decide) rfl (fun ls hl => ?_)
            refine lv_goto (tgt := 8) hx hb d_M_searches_142 (by decide) ?_
            exact ih8 Z x1 x2 x3 x4 x5 x6 (x7 + 1) H locs hP hS (ho) (by assumption) ls (lv_sub hl [1, 2, 3, 4, 5, 6, 7, 0] rfl) (by rw [hq, s_M_searches_b17, if_pos c_20])
          · refine lv_aload_n hx hb d_M_searches_23 rfl (lv_at hl 0 rfl) ?_
            refine lv_iload hx hb d_M_searches_24 (lv_at hl 7 rfl) ?_
            refine lv_iload hx hb d_M_searches_26 (lv_at hl 8 rfl) ?_
            refine lv_iload_n hx hb d_M_searches_28 rfl (lv_at hl 3 rfl) ?_
            refine k_vi (rest := []) (c_M_puts l E ad X Z x7 x8 x3 hk) mi_M_puts ml_M_171 hx hb hml hts hown hK hP rvM hl ⟨rfl, rfl⟩ ⟨(Nat.le_of_ble_eq_true rfl), (Nat.le_of_ble_eq_true rfl)⟩ ⟨Nat.zero_le _, Nat.zero_le _⟩ rfl (Nat.le_of_ble_eq_true rfl) rfl d_M_searches_29 ?_
            refine lv_iconst (v := (1 : Int32)) hx hb d_M_searches_32 rfl ?_
            refine lv_icmp_ne (tgt := 70) hx hb d_M_searches_33 (by decide) (fun c_33 => ?_) (fun c_33 => ?_)
            · refine lv_iconst (v := (0 : Int32)) hx hb d_M_searches_70 rfl ?_
              refine lv_istore (lv' := [(9, .int (0 : Int32)), (0, .ref (ad 0)), (1, .int x1), (2, .int x2), (3, .int x3), (4, .int x4), (5, .int x5), (6, .int x6), (7, .int x7), (8, .int x8)]) hx hb d_M_searches_71 hl (by decide) rfl (fun ls hl => ?_)
              refine lv_aload_n hx hb d_M_searches_73 rfl (lv_at hl 1 rfl) ?_
              refine lv_dup hx hb d_M_searches_74 rfl ?_
              refine g_M_searchedMany hx hb hts hown hK hP d_M_searches_75 ?_
              refine lv_iload hx hb d_M_searches_78 (lv_at hl 0 rfl) ?_
              refine lv_if_eq (tgt := 87) hx hb d_M_searches_80 (by decide) (fun c_80 => ?_) (fun c_80 => absurd c_80 (by decide))
              refine lv_iconst (v := (0 : Int32)) hx hb d_M_searches_87 rfl ?_
              refine lv_iadd hx hb d_M_searches_88 ?_
              refine p_M_searchedMany hx hb hts hown hK hP hD hS d_M_searches_89 (fun H locs hP hS => ?_)
              have hP : va_P E.1 vwCl (wm E ad (sV Z 1 ((Z.1 1) + (0 : Int32))) ++ X) H := hP
              refine lv_iload hx hb d_M_searches_92 (lv_at hl 0 rfl) ?_
              refine lv_if_eq (tgt := 133) hx hb d_M_searches_94 (by decide) (fun c_94 => ?_) (fun c_94 => absurd c_94 (by decide))
              refine lv_iinc (v := (x8 + 1)) (lv' := [(8, .int (x8 + 1)), (9, .int (0 : Int32)), (0, .ref (ad 0)), (1, .int x1), (2, .int x2), (3, .int x3), (4, .int x4), (5, .int x5), (6, .int x6), (7, .int x7)]) hx hb d_M_searches_133 hl (k := 9) rfl rfl (by decide) rfl (fun ls hl => ?_)
              refine lv_goto (tgt := 17) hx hb d_M_searches_136 (by decide) ?_
              exact ih17 (sV Z 1 ((Z.1 1) + (0 : Int32))) x1 x2 x3 x4 x5 x6 x7 (x8 + 1) H locs hP hS (UE_up hv c_20) (ho) (by assumption) ls (lv_sub hl [2, 3, 4, 5, 6, 7, 8, 9, 0] rfl) (by rw [hq, s_M_searches_b17, if_neg c_20, if_neg c_33])
            · refine lv_iload hx hb d_M_searches_36 (lv_at hl 7 rfl) ?_
              refine lv_iload hx hb d_M_searches_38 (lv_at hl 8 rfl) ?_
              refine lv_iload hx hb d_M_searches_40 (lv_at hl 4 rfl) ?_
              refine lv_iload hx hb d_M_searches_42 (lv_at hl 5 rfl) ?_
              refine k_sl (rest := []) (c_M_off l E x7 x8 x4 x5) mi_M_off ml_M_179 hx hb hml hts hown hK va_nil hl ⟨rfl, rfl⟩ ⟨(Nat.le_of_ble_eq_true rfl), (Nat.le_of_ble_eq_true rfl)⟩ ⟨Nat.zero_le _, Nat.zero_le _⟩ rfl (Nat.le_of_ble_eq_true rfl) rfl d_M_searches_44 ?_
              refine lv_ldc2 (v := (1000 : Int64)) hx hb hown (hts _ kl_M_183) d_M_searches_47 ?_
              refine lv_lmul hx hb d_M_searches_50 ?_
              refine lv_iload hx hb d_M_searches_51 (lv_at hl 4 rfl) ?_
              refine lv_i2l hx hb d_M_searches_53 rfl ?_
              refine lv_iload hx hb d_M_searches_54 (lv_at hl 6 rfl) ?_
              refine lv_i2l hx hb d_M_searches_56 rfl ?_
              refine lv_lmul hx hb d_M_searches_57 ?_
              refine lv_iload hx hb d_M_searches_58 (lv_at hl 7 rfl) ?_
              refine lv_i2l hx hb d_M_searches_60 rfl ?_
              refine lv_lmul hx hb d_M_searches_61 ?_
              refine W.lcmp hx hb d_M_searches_62 ?_
              refine lv_if_gt (tgt := 70) hx hb d_M_searches_63 (by decide) (fun c_63 => ?_) (fun c_63 => ?_)
              · refine lv_iconst (v := (0 : Int32)) hx hb d_M_searches_70 rfl ?_
                refine lv_istore (lv' := [(9, .int (0 : Int32)), (0, .ref (ad 0)), (1, .int x1), (2, .int x2), (3, .int x3), (4, .int x4), (5, .int x5), (6, .int x6), (7, .int x7), (8, .int x8)]) hx hb d_M_searches_71 hl (by decide) rfl (fun ls hl => ?_)
                refine lv_aload_n hx hb d_M_searches_73 rfl (lv_at hl 1 rfl) ?_
                refine lv_dup hx hb d_M_searches_74 rfl ?_
                refine g_M_searchedMany hx hb hts hown hK hP d_M_searches_75 ?_
                refine lv_iload hx hb d_M_searches_78 (lv_at hl 0 rfl) ?_
                refine lv_if_eq (tgt := 87) hx hb d_M_searches_80 (by decide) (fun c_80 => ?_) (fun c_80 => absurd c_80 (by decide))
                refine lv_iconst (v := (0 : Int32)) hx hb d_M_searches_87 rfl ?_
                refine lv_iadd hx hb d_M_searches_88 ?_
                refine p_M_searchedMany hx hb hts hown hK hP hD hS d_M_searches_89 (fun H locs hP hS => ?_)
                have hP : va_P E.1 vwCl (wm E ad (sV Z 1 ((Z.1 1) + (0 : Int32))) ++ X) H := hP
                refine lv_iload hx hb d_M_searches_92 (lv_at hl 0 rfl) ?_
                refine lv_if_eq (tgt := 133) hx hb d_M_searches_94 (by decide) (fun c_94 => ?_) (fun c_94 => absurd c_94 (by decide))
                refine lv_iinc (v := (x8 + 1)) (lv' := [(8, .int (x8 + 1)), (9, .int (0 : Int32)), (0, .ref (ad 0)), (1, .int x1), (2, .int x2), (3, .int x3), (4, .int x4), (5, .int x5), (6, .int x6), (7, .int x7)]) hx hb d_M_searches_133 hl (k := 9) rfl rfl (by decide) rfl (fun ls hl => ?_)
                refine lv_goto (tgt := 17) hx hb d_M_searches_136 (by decide) ?_
                exact ih17 (sV Z 1 ((Z.1 1) + (0 : Int32))) x1 x2 x3 x4 x5 x6 x7 (x8 + 1) H locs hP hS (UE_up hv c_20) (ho) (by assumption) ls (lv_sub hl [2, 3, 4, 5, 6, 7, 8, 9, 0] rfl) (by rw [hq, s_M_searches_b17, if_neg c_20, if_pos c_33, if_pos c_63])
              · refine lv_iconst (v := (1 : Int32)) hx hb d_M_searches_66 rfl ?_
                refine lv_goto (tgt := 71) hx hb d_M_searches_67 (by decide) ?_
                refine lv_istore (lv' := [(9, .int (1 : Int32)), (0, .ref (ad 0)), (1, .int x1), (2, .int x2), (3, .int x3), (4, .int x4), (5, .int x5), (6, .int x6), (7, .int x7), (8, .int x8)]) hx hb d_M_searches_71 hl (by decide) rfl (fun ls hl => ?_)
                refine lv_aload_n hx hb d_M_searches_73 rfl (lv_at hl 1 rfl) ?_
                refine lv_dup hx hb d_M_searches_74 rfl ?_
                refine g_M_searchedMany hx hb hts hown hK hP d_M_searches_75 ?_
                refine lv_iload hx hb d_M_searches_78 (lv_at hl 0 rfl) ?_
                refine lv_if_eq (tgt := 87) hx hb d_M_searches_80 (by decide) (fun c_80 => absurd c_80 (by decide)) (fun c_80 => ?_)
                refine lv_iconst (v := (1 : Int32)) hx hb d_M_searches_83 rfl ?_
                refine lv_goto (tgt := 88) hx hb d_M_searches_84 (by decide) ?_
                refine lv_iadd hx hb d_M_searches_88 ?_
                refine p_M_searchedMany hx hb hts hown hK hP hD hS d_M_searches_89 (fun H locs hP hS => ?_)
                have hP : va_P E.1 vwCl (wm E ad (sV Z 1 ((Z.1 1) + (1 : Int32))) ++ X) H := hP
                refine lv_iload hx hb d_M_searches_92 (lv_at hl 0 rfl) ?_
                refine lv_if_eq (tgt := 133) hx hb d_M_searches_94 (by decide) (fun c_94 => absurd c_94 (by decide)) (fun c_94 => ?_)
                refine lv_aload_n hx hb d_M_searches_97 rfl (lv_at hl 1 rfl) ?_
                refine g_M_searchedMany hx hb hts hown hK hP d_M_searches_98 ?_
                refine k_topi (y := ((Z.1 1) + (1 : Int32))) rfl ?_
                refine lv_iconst (v := (1 : Int32)) hx hb d_M_searches_101 rfl ?_
                refine lv_icmp_eq (tgt := 121) hx hb d_M_searches_102 (by decide) (fun c_102 => ?_) (fun c_102 => ?_)
                · refine lv_aload_n hx hb d_M_searches_121 rfl (lv_at hl 1 rfl) ?_
                  refine lv_iload hx hb d_M_searches_122 (lv_at hl 8 rfl) ?_
                  refine p_M_bestSun hx hb hts hown hK hP hD hS d_M_searches_124 (fun H locs hP hS => ?_)
                  have hP : va_P E.1 vwCl (wm E ad (sV (sV Z 1 ((Z.1 1) + (1 : Int32))) 2 x7) ++ X) H := hP
                  refine lv_aload_n hx hb d_M_searches_127 rfl (lv_at hl 1 rfl) ?_
                  refine lv_iload hx hb d_M_searches_128 (lv_at hl 9 rfl) ?_
                  refine p_M_bestPlanet hx hb hts hown hK hP hD hS d_M_searches_130 (fun H locs hP hS => ?_)
                  have hP : va_P E.1 vwCl (wm E ad (sV (sV (sV Z 1 ((Z.1 1) + (1 : Int32))) 2 x7) 3 x8) ++ X) H := hP
                  refine lv_iinc (v := (x8 + 1)) (lv' := [(8, .int (x8 + 1)), (9, .int (1 : Int32)), (0, .ref (ad 0)), (1, .int x1), (2, .int x2), (3, .int x3), (4, .int x4), (5, .int x5), (6, .int x6), (7, .int x7)]) hx hb d_M_searches_133 hl (k := 9) rfl rfl (by decide) rfl (fun ls hl => ?_)
                  refine lv_goto (tgt := 17) hx hb d_M_searches_136 (by decide) ?_
                  exact ih17 (sV (sV (sV Z 1 ((Z.1 1) + (1 : Int32))) 2 x7) 3 x8) x1 x2 x3 x4 x5 x6 x7 (x8 + 1) H locs hP hS (UE_up hv c_20) (ho) (by assumption) ls (lv_sub hl [2, 3, 4, 5, 6, 7, 8, 9, 0] rfl) (by rw [hq, s_M_searches_b17, if_neg c_20, if_pos c_33, if_neg c_63, if_pos c_102])
                · refine lv_aload_n hx hb d_M_searches_105 rfl (lv_at hl 1 rfl) ?_
                  refine lv_iload hx hb d_M_searches_106 (lv_at hl 8 rfl) ?_
                  refine lv_iload hx hb d_M_searches_108 (lv_at hl 9 rfl) ?_
                  refine lv_iload_n hx hb d_M_searches_110 rfl (lv_at hl 4 rfl) ?_
                  refine lv_iload hx hb d_M_searches_111 (lv_at hl 5 rfl) ?_
                  refine lv_iload hx hb d_M_searches_113 (lv_at hl 6 rfl) ?_
                  refine k_vi (rest := []) (c_M_isBetter l E ad X (sV Z 1 ((Z.1 1) + (1 : Int32))) x7 x8 x3 x4 x5) mi_M_isBetter ml_M_185 hx hb hml hts hown hK hP rvM hl ⟨rfl, rfl⟩ ⟨(Nat.le_of_ble_eq_true rfl), (Nat.le_of_ble_eq_true rfl)⟩ ⟨Nat.zero_le _, Nat.zero_le _⟩ rfl (Nat.le_of_ble_eq_true rfl) rfl d_M_searches_115 ?_
                  refine lv_if_eq (tgt := 133) hx hb d_M_searches_118 (by decide) (fun c_118 => ?_) (fun c_118 => ?_)
                  · refine lv_iinc (v := (x8 + 1)) (lv' := [(8, .int (x8 + 1)), (9, .int (1 : Int32)), (0, .ref (ad 0)), (1, .int x1), (2, .int x2), (3, .int x3), (4, .int x4), (5, .int x5), (6, .int x6), (7, .int x7)]) hx hb d_M_searches_133 hl (k := 9) rfl rfl (by decide) rfl (fun ls hl => ?_)
                    refine lv_goto (tgt := 17) hx hb d_M_searches_136 (by decide) ?_
                    exact ih17 (sV Z 1 ((Z.1 1) + (1 : Int32))) x1 x2 x3 x4 x5 x6 x7 (x8 + 1) H locs hP hS (UE_up hv c_20) (ho) (by assumption) ls (lv_sub hl [2, 3, 4, 5, 6, 7, 8, 9, 0] rfl) (by rw [hq, s_M_searches_b17, if_neg c_20, if_pos c_33, if_neg c_63, if_neg c_102, if_pos c_118])
                  · refine lv_aload_n hx hb d_M_searches_121 rfl (lv_at hl 1 rfl) ?_
                    refine lv_iload hx hb d_M_searches_122 (lv_at hl 8 rfl) ?_
                    refine p_M_bestSun hx hb hts hown hK hP hD hS d_M_searches_124 (fun H locs hP hS => ?_)
                    have hP : va_P E.1 vwCl (wm E ad (sV (sV Z 1 ((Z.1 1) + (1 : Int32))) 2 x7) ++ X) H := hP
                    refine lv_aload_n hx hb d_M_searches_127 rfl (lv_at hl 1 rfl) ?_
                    refine lv_iload hx hb d_M_searches_128 (lv_at hl 9 rfl) ?_
                    refine p_M_bestPlanet hx hb hts hown hK hP hD hS d_M_searches_130 (fun H locs hP hS => ?_)
                    have hP : va_P E.1 vwCl (wm E ad (sV (sV (sV Z 1 ((Z.1 1) + (1 : Int32))) 2 x7) 3 x8) ++ X) H := hP
                    refine lv_iinc (v := (x8 + 1)) (lv' := [(8, .int (x8 + 1)), (9, .int (1 : Int32)), (0, .ref (ad 0)), (1, .int x1), (2, .int x2), (3, .int x3), (4, .int x4), (5, .int x5), (6, .int x6), (7, .int x7)]) hx hb d_M_searches_133 hl (k := 9) rfl rfl (by decide) rfl (fun ls hl => ?_)
                    refine lv_goto (tgt := 17) hx hb d_M_searches_136 (by decide) ?_
                    exact ih17 (sV (sV (sV Z 1 ((Z.1 1) + (1 : Int32))) 2 x7) 3 x8) x1 x2 x3 x4 x5 x6 x7 (x8 + 1) H locs hP hS (UE_up hv c_20) (ho) (by assumption) ls (lv_sub hl [2, 3, 4, 5, 6, 7, 8, 9, 0] rfl) (by rw [hq, s_M_searches_b17, if_neg c_20, if_pos c_33, if_neg c_63, if_neg c_102, if_neg c_118])
      intro Z x1 x2 x3 x4 x5 x6 x7 H locs hP hS hv hk ls hl hq
      refine lv_iload hx hb d_M_searches_8 (lv_at hl 7 rfl) ?_
      refine lv_iload_n hx hb d_M_searches_10 rfl (lv_at hl 2 rfl) ?_
      refine lv_icmp_gt (tgt := 145) hx hb d_M_searches_11 (by decide) (fun c_11 => ?_) (fun c_11 => ?_)
      · exact hend _ _ _ _ _ (by rw [hq, s_M_searches_b8, if_pos c_11]) hP hS d_M_searches_145
      · refine lv_iload_n hx hb d_M_searches_14 rfl (lv_at hl 1 rfl) ?_
        refine lv_istore (lv' := [(8, .int x1), (0, .ref (ad 0)), (1, .int x1), (2, .int x2), (3, .int x3), (4, .int x4), (5, .int x5), (6, .int x6), (7, .int x7)]) hx hb d_M_searches_15 hl (by decide) rfl (fun ls hl => ?_)
        exact b17 ((x2.toInt + 1 - x1.toInt).toNat + 1) Z x1 x2 x3 x4 x5 x6 x7 x1 H locs hP hS (UE_in hv.2.2) (UE_up hv c_11) (by assumption) ls (lv_sub hl [1, 2, 3, 4, 5, 6, 7, 8, 0] rfl) (by rw [hq, s_M_searches_b8, if_neg c_11])
  refine lv_aload_n hx hb d_M_searches_0 rfl (lv_at hl 0 rfl) ?_
  refine lv_iconst (v := (0 : Int32)) hx hb d_M_searches_1 rfl ?_
  refine p_M_searchedMany hx hb hts hown hK hP hD hS d_M_searches_2 (fun H locs hP hS => ?_)
  have hP : va_P E.1 vwCl (wm E ad (sV S 1 (0 : Int32)) ++ X) H := hP
  refine lv_iload_n hx hb d_M_searches_5 rfl (lv_at hl 1 rfl) ?_
  refine lv_istore (lv' := [(7, .int a1), (0, .ref (ad 0)), (1, .int a1), (2, .int a2), (3, .int a3), (4, .int a4), (5, .int a5), (6, .int a6)]) hx hb d_M_searches_6 hl (by decide) rfl (fun ls hl => ?_)
  exact b8 ((a2.toInt + 1 - a1.toInt).toNat + 1) (sV S 1 (0 : Int32)) a1 a2 a3 a4 a5 a6 a1 H locs hP hS (UE_in hB) (by assumption) ls (lv_sub hl [1, 2, 3, 4, 5, 6, 7, 0] rfl) (by rw [s_M_searches])

def s_M_searched (S : St) (a1 : Int32) (a2 : Int32) (a3 : Int32) (a4 : Int32) (a5 : Int32) : Int32 × St := (if (s_M_in ((a1 / (100 : Int32)).toInt64) (5 : Int64) (60 : Int64)) = 0 then ((-1 : Int32), S) else (if (s_M_in ((a1 - a1 / (100 : Int32) * (100 : Int32)).toInt64) ((a1 / (100 : Int32)).toInt64) (60 : Int64)) = 0 then ((-1 : Int32), S) else (if (s_M_in (a2.toInt64) (1 : Int64) (8 : Int64)) = 0 then ((-1 : Int32), S) else (if (s_M_in ((a3 / (100 : Int32)).toInt64) (1 : Int64) (99 : Int64)) = 0 then ((-1 : Int32), S) else (if (s_M_in ((a3 - a3 / (100 : Int32) * (100 : Int32)).toInt64) (1 : Int64) (99 : Int64)) = 0 then ((-1 : Int32), S) else (if (s_M_in (a4.toInt64) (0 : Int64) (200 : Int64)) = 0 then ((-1 : Int32), S) else (if (s_M_in (a5.toInt64) (0 : Int64) (3 : Int64)) = 0 then ((-1 : Int32), S) else (if a5 = 0 then (((s_M_searches S (a1 / (100 : Int32)) (a1 - a1 / (100 : Int32) * (100 : Int32)) a2 (a3 / (100 : Int32)) (a3 - a3 / (100 : Int32) * (100 : Int32)) a4).1 1), (s_M_searches S (a1 / (100 : Int32)) (a1 - a1 / (100 : Int32) * (100 : Int32)) a2 (a3 / (100 : Int32)) (a3 - a3 / (100 : Int32) * (100 : Int32)) a4)) else (if ((s_M_searches S (a1 / (100 : Int32)) (a1 - a1 / (100 : Int32) * (100 : Int32)) a2 (a3 / (100 : Int32)) (a3 - a3 / (100 : Int32) * (100 : Int32)) a4).1 1) = 0 then ((-2 : Int32), (s_M_searches S (a1 / (100 : Int32)) (a1 - a1 / (100 : Int32) * (100 : Int32)) a2 (a3 / (100 : Int32)) (a3 - a3 / (100 : Int32) * (100 : Int32)) a4)) else (if a5 = (1 : Int32) then (((s_M_searches S (a1 / (100 : Int32)) (a1 - a1 / (100 : Int32) * (100 : Int32)) a2 (a3 / (100 : Int32)) (a3 - a3 / (100 : Int32) * (100 : Int32)) a4).1 2), (s_M_searches S (a1 / (100 : Int32)) (a1 - a1 / (100 : Int32) * (100 : Int32)) a2 (a3 / (100 : Int32)) (a3 - a3 / (100 : Int32) * (100 : Int32)) a4)) else (if a5 = (2 : Int32) then (((s_M_searches S (a1 / (100 : Int32)) (a1 - a1 / (100 : Int32) * (100 : Int32)) a2 (a3 / (100 : Int32)) (a3 - a3 / (100 : Int32) * (100 : Int32)) a4).1 3), (s_M_searches S (a1 / (100 : Int32)) (a1 - a1 / (100 : Int32) * (100 : Int32)) a2 (a3 / (100 : Int32)) (a3 - a3 / (100 : Int32) * (100 : Int32)) a4)) else ((s_M_teethOf ((s_M_searches S (a1 / (100 : Int32)) (a1 - a1 / (100 : Int32) * (100 : Int32)) a2 (a3 / (100 : Int32)) (a3 - a3 / (100 : Int32) * (100 : Int32)) a4).1 2) ((s_M_searches S (a1 / (100 : Int32)) (a1 - a1 / (100 : Int32) * (100 : Int32)) a2 (a3 / (100 : Int32)) (a3 - a3 / (100 : Int32) * (100 : Int32)) a4).1 3) a2), (s_M_searches S (a1 / (100 : Int32)) (a1 - a1 / (100 : Int32) * (100 : Int32)) a2 (a3 / (100 : Int32)) (a3 - a3 / (100 : Int32) * (100 : Int32)) a4)))))))))))))
set_option maxRecDepth 20000 in
theorem c_M_searched (l : Launch) (E : Cx) (ad : Nat → Nat) (X : va_W) (S : St) (A : Nat → Prop) (a1 : Int32) (a2 : Int32) (a3 : Int32) (a4 : Int32) (a5 : Int32) : Met l y_M_searched (Cond.code y_M_searched b_M_searched 10 (some .int) :: TB) (rk 3 82) (va_Pc [.ref (ad 0), .int a1, .int a2, .int a3, .int a4, .int a5] (preM E A (fun S => wm E ad S ++ X) S)) (va_Qi (fun r u => (r, u) = (s_M_searched S a1 a2 a3 a4 a5)) (fun u t => va_P E.1 vwCl ((fun S => wm E ad S ++ X) u) t.heap) A) 0 0 A := by
  refine w_muI rfl (Nat.le_of_ble_eq_true rfl) rfl ?_
  intro p e s m args below meth c Q ls hx hb hml hts hown hP hK hD hS hl hend
  have hl : lv_has ls 10 [(0, .ref (ad 0)), (1, .int a1), (2, .int a2), (3, .int a3), (4, .int a4), (5, .int a5)] := hl
  have hP : va_P E.1 vwCl (wm E ad S ++ X) s.heap := hP
  have hown : s.vm.findClass R_M = some m.cls := hown
  have hD : ∀ S' : St, va_D A (wm E ad S' ++ X) := hD
  refine lv_iload_n hx hb d_M_searched_0 rfl (lv_at hl 1 rfl) ?_
  refine lv_bipush (v := (100 : Int32)) hx hb d_M_searched_1 rfl ?_
  refine lv_idiv hx hb d_M_searched_3 (by decide) ?_
  refine lv_istore (lv' := [(6, .int (a1 / (100 : Int32))), (0, .ref (ad 0)), (1, .int a1), (2, .int a2), (3, .int a3), (4, .int a4), (5, .int a5)]) hx hb d_M_searched_4 hl (by decide) rfl (fun ls hl => ?_)
  refine lv_iload_n hx hb d_M_searched_6 rfl (lv_at hl 2 rfl) ?_
  refine lv_bipush (v := (100 : Int32)) hx hb d_M_searched_7 rfl ?_
  refine lv_irem hx hb d_M_searched_9 (by decide) ?_
  refine lv_istore (lv' := [(7, .int (a1 - a1 / (100 : Int32) * (100 : Int32))), (6, .int (a1 / (100 : Int32))), (0, .ref (ad 0)), (1, .int a1), (2, .int a2), (3, .int a3), (4, .int a4), (5, .int a5)]) hx hb d_M_searched_10 hl (by decide) rfl (fun ls hl => ?_)
  refine lv_iload_n hx hb d_M_searched_12 rfl (lv_at hl 5 rfl) ?_
  refine lv_bipush (v := (100 : Int32)) hx hb d_M_searched_13 rfl ?_
  refine lv_idiv hx hb d_M_searched_15 (by decide) ?_
  refine lv_istore (lv' := [(8, .int (a3 / (100 : Int32))), (7, .int (a1 - a1 / (100 : Int32) * (100 : Int32))), (6, .int (a1 / (100 : Int32))), (0, .ref (ad 0)), (1, .int a1), (2, .int a2), (3, .int a3), (4, .int a4), (5, .int a5)]) hx hb d_M_searched_16 hl (by decide) rfl (fun ls hl => ?_)
  refine lv_iload_n hx hb d_M_searched_18 rfl (lv_at hl 6 rfl) ?_
  refine lv_bipush (v := (100 : Int32)) hx hb d_M_searched_19 rfl ?_
  refine lv_irem hx hb d_M_searched_21 (by decide) ?_
  refine lv_istore (lv' := [(9, .int (a3 - a3 / (100 : Int32) * (100 : Int32))), (8, .int (a3 / (100 : Int32))), (7, .int (a1 - a1 / (100 : Int32) * (100 : Int32))), (6, .int (a1 / (100 : Int32))), (0, .ref (ad 0)), (1, .int a1), (2, .int a2), (3, .int a3), (4, .int a4), (5, .int a5)]) hx hb d_M_searched_22 hl (by decide) rfl (fun ls hl => ?_)
  refine lv_iload hx hb d_M_searched_24 (lv_at hl 3 rfl) ?_
  refine lv_i2l hx hb d_M_searched_26 rfl ?_
  refine lv_ldc2 (v := (5 : Int64)) hx hb hown (hts _ kl_M_62) d_M_searched_27 ?_
  refine lv_ldc2 (v := (60 : Int64)) hx hb hown (hts _ kl_M_198) d_M_searched_30 ?_
  refine k_si (rest := []) (c_M_in l E ((a1 / (100 : Int32)).toInt64) (5 : Int64) (60 : Int64)) mi_M_in ml_M_46 hx hb hml hts hown hK va_nil hl ⟨rfl, rfl⟩ ⟨(Nat.le_of_ble_eq_true rfl), (Nat.le_of_ble_eq_true rfl)⟩ ⟨Nat.zero_le _, Nat.zero_le _⟩ rfl (Nat.le_of_ble_eq_true rfl) rfl d_M_searched_33 ?_
  refine lv_if_eq (tgt := 118) hx hb d_M_searched_36 (by decide) (fun c_36 => ?_) (fun c_36 => ?_)
  · refine lv_iconst (v := (-1 : Int32)) hx hb d_M_searched_118 rfl ?_
    exact hend _ _ _ _ _ _ (by rw [s_M_searched, if_pos c_36]) hP hS d_M_searched_119
  · refine lv_iload hx hb d_M_searched_39 (lv_at hl 2 rfl) ?_
    refine lv_i2l hx hb d_M_searched_41 rfl ?_
    refine lv_iload hx hb d_M_searched_42 (lv_at hl 3 rfl) ?_
    refine lv_i2l hx hb d_M_searched_44 rfl ?_
    refine lv_ldc2 (v := (60 : Int64)) hx hb hown (hts _ kl_M_198) d_M_searched_45 ?_
    refine k_si (rest := []) (c_M_in l E ((a1 - a1 / (100 : Int32) * (100 : Int32)).toInt64) ((a1 / (100 : Int32)).toInt64) (60 : Int64)) mi_M_in ml_M_46 hx hb hml hts hown hK va_nil hl ⟨rfl, rfl⟩ ⟨(Nat.le_of_ble_eq_true rfl), (Nat.le_of_ble_eq_true rfl)⟩ ⟨Nat.zero_le _, Nat.zero_le _⟩ rfl (Nat.le_of_ble_eq_true rfl) rfl d_M_searched_48 ?_
    refine lv_if_eq (tgt := 118) hx hb d_M_searched_51 (by decide) (fun c_51 => ?_) (fun c_51 => ?_)
    · refine lv_iconst (v := (-1 : Int32)) hx hb d_M_searched_118 rfl ?_
      exact hend _ _ _ _ _ _ (by rw [s_M_searched, if_neg c_36, if_pos c_51]) hP hS d_M_searched_119
    · refine lv_iload_n hx hb d_M_searched_54 rfl (lv_at hl 6 rfl) ?_
      refine lv_i2l hx hb d_M_searched_55 rfl ?_
      refine lv_lconst (v := (1 : Int64)) hx hb d_M_searched_56 rfl ?_
      refine lv_ldc2 (v := (8 : Int64)) hx hb hown (hts _ kl_M_169) d_M_searched_57 ?_
      refine k_si (rest := []) (c_M_in l E (a2.toInt64) (1 : Int64) (8 : Int64)) mi_M_in ml_M_46 hx hb hml hts hown hK va_nil hl ⟨rfl, rfl⟩ ⟨(Nat.le_of_ble_eq_true rfl), (Nat.le_of_ble_eq_true rfl)⟩ ⟨Nat.zero_le _, Nat.zero_le _⟩ rfl (Nat.le_of_ble_eq_true rfl) rfl d_M_searched_60 ?_
      refine lv_if_eq (tgt := 118) hx hb d_M_searched_63 (by decide) (fun c_63 => ?_) (fun c_63 => ?_)
      · refine lv_iconst (v := (-1 : Int32)) hx hb d_M_searched_118 rfl ?_
        exact hend _ _ _ _ _ _ (by rw [s_M_searched, if_neg c_36, if_neg c_51, if_pos c_63]) hP hS d_M_searched_119
      · refine lv_iload hx hb d_M_searched_66 (lv_at hl 1 rfl) ?_
        refine lv_i2l hx hb d_M_searched_68 rfl ?_
        refine lv_lconst (v := (1 : Int64)) hx hb d_M_searched_69 rfl ?_
        refine lv_ldc2 (v := (99 : Int64)) hx hb hown (hts _ kl_M_64) d_M_searched_70 ?_
        refine k_si (rest := []) (c_M_in l E ((a3 / (100 : Int32)).toInt64) (1 : Int64) (99 : Int64)) mi_M_in ml_M_46 hx hb hml hts hown hK va_nil hl ⟨rfl, rfl⟩ ⟨(Nat.le_of_ble_eq_true rfl), (Nat.le_of_ble_eq_true rfl)⟩ ⟨Nat.zero_le _, Nat.zero_le _⟩ rfl (Nat.le_of_ble_eq_true rfl) rfl d_M_searched_73 ?_
        refine lv_if_eq (tgt := 118) hx hb d_M_searched_76 (by decide) (fun c_76 => ?_) (fun c_76 => ?_)
        · refine lv_iconst (v := (-1 : Int32)) hx hb d_M_searched_118 rfl ?_
          exact hend _ _ _ _ _ _ (by rw [s_M_searched, if_neg c_36, if_neg c_51, if_neg c_63, if_pos c_76]) hP hS d_M_searched_119
        · refine lv_iload hx hb d_M_searched_79 (lv_at hl 0 rfl) ?_
          refine lv_i2l hx hb d_M_searched_81 rfl ?_
          refine lv_lconst (v := (1 : Int64)) hx hb d_M_searched_82 rfl ?_
          refine lv_ldc2 (v := (99 : Int64)) hx hb hown (hts _ kl_M_64) d_M_searched_83 ?_
          refine k_si (rest := []) (c_M_in l E ((a3 - a3 / (100 : Int32) * (100 : Int32)).toInt64) (1 : Int64) (99 : Int64)) mi_M_in ml_M_46 hx hb hml hts hown hK va_nil hl ⟨rfl, rfl⟩ ⟨(Nat.le_of_ble_eq_true rfl), (Nat.le_of_ble_eq_true rfl)⟩ ⟨Nat.zero_le _, Nat.zero_le _⟩ rfl (Nat.le_of_ble_eq_true rfl) rfl d_M_searched_86 ?_
          refine lv_if_eq (tgt := 118) hx hb d_M_searched_89 (by decide) (fun c_89 => ?_) (fun c_89 => ?_)
          · refine lv_iconst (v := (-1 : Int32)) hx hb d_M_searched_118 rfl ?_
            exact hend _ _ _ _ _ _ (by rw [s_M_searched, if_neg c_36, if_neg c_51, if_neg c_63, if_neg c_76, if_pos c_89]) hP hS d_M_searched_119
          · refine lv_iload hx hb d_M_searched_92 (lv_at hl 8 rfl) ?_
            refine lv_i2l hx hb d_M_searched_94 rfl ?_
            refine lv_lconst (v := (0 : Int64)) hx hb d_M_searched_95 rfl ?_
            refine lv_ldc2 (v := (200 : Int64)) hx hb hown (hts _ kl_M_200) d_M_searched_96 ?_
            refine k_si (rest := []) (c_M_in l E (a4.toInt64) (0 : Int64) (200 : Int64)) mi_M_in ml_M_46 hx hb hml hts hown hK va_nil hl ⟨rfl, rfl⟩ ⟨(Nat.le_of_ble_eq_true rfl), (Nat.le_of_ble_eq_true rfl)⟩ ⟨Nat.zero_le _, Nat.zero_le _⟩ rfl (Nat.le_of_ble_eq_true rfl) rfl d_M_searched_99 ?_
            refine lv_if_eq (tgt := 118) hx hb d_M_searched_102 (by decide) (fun c_102 => ?_) (fun c_102 => ?_)
            · refine lv_iconst (v := (-1 : Int32)) hx hb d_M_searched_118 rfl ?_
              exact hend _ _ _ _ _ _ (by rw [s_M_searched, if_neg c_36, if_neg c_51, if_neg c_63, if_neg c_76, if_neg c_89, if_pos c_102]) hP hS d_M_searched_119
            · refine lv_iload hx hb d_M_searched_105 (lv_at hl 9 rfl) ?_
              refine lv_i2l hx hb d_M_searched_107 rfl ?_
              refine lv_lconst (v := (0 : Int64)) hx hb d_M_searched_108 rfl ?_
              refine lv_ldc2 (v := (3 : Int64)) hx hb hown (hts _ kl_M_99) d_M_searched_109 ?_
              refine k_si (rest := []) (c_M_in l E (a5.toInt64) (0 : Int64) (3 : Int64)) mi_M_in ml_M_46 hx hb hml hts hown hK va_nil hl ⟨rfl, rfl⟩ ⟨(Nat.le_of_ble_eq_true rfl), (Nat.le_of_ble_eq_true rfl)⟩ ⟨Nat.zero_le _, Nat.zero_le _⟩ rfl (Nat.le_of_ble_eq_true rfl) rfl d_M_searched_112 ?_
              refine lv_if_ne (tgt := 120) hx hb d_M_searched_115 (by decide) (fun c_115 => ?_) (fun c_115 => ?_)
              · refine lv_aload_n hx hb d_M_searched_120 rfl (lv_at hl 4 rfl) ?_
                refine lv_iload hx hb d_M_searched_121 (lv_at hl 3 rfl) ?_
                refine lv_iload hx hb d_M_searched_123 (lv_at hl 2 rfl) ?_
                refine lv_iload_n hx hb d_M_searched_125 rfl (lv_at hl 6 rfl) ?_
                refine lv_iload hx hb d_M_searched_126 (lv_at hl 1 rfl) ?_
                refine lv_iload hx hb d_M_searched_128 (lv_at hl 0 rfl) ?_
                refine lv_iload hx hb d_M_searched_130 (lv_at hl 8 rfl) ?_
                refine k_mvv (rest := []) (c_M_searches l E ad X S A (a1 / (100 : Int32)) (a1 - a1 / (100 : Int32) * (100 : Int32)) a2 (a3 / (100 : Int32)) (a3 - a3 / (100 : Int32) * (100 : Int32)) a4 (in18 c_63) (rem100_lt a1)) mi_M_searches ml_M_202 hx hb hml hts hown hK hP hD hS rvM hl ⟨rfl, rfl⟩ ⟨(Nat.le_of_ble_eq_true rfl), (Nat.le_of_ble_eq_true rfl)⟩ ⟨Nat.zero_le _, Nat.zero_le _⟩ rfl (Nat.le_of_ble_eq_true rfl) rfl d_M_searched_132 (fun H locs hP hS => ?_)
                have hP : va_P E.1 vwCl (wm E ad (s_M_searches S (a1 / (100 : Int32)) (a1 - a1 / (100 : Int32) * (100 : Int32)) a2 (a3 / (100 : Int32)) (a3 - a3 / (100 : Int32) * (100 : Int32)) a4) ++ X) H := hP
                refine lv_iload hx hb d_M_searched_135 (lv_at hl 9 rfl) ?_
                refine lv_if_ne (tgt := 145) hx hb d_M_searched_137 (by decide) (fun c_137 => ?_) (fun c_137 => ?_)
                · refine lv_aload_n hx hb d_M_searched_145 rfl (lv_at hl 4 rfl) ?_
                  refine g_M_searchedMany hx hb hts hown hK hP d_M_searched_146 ?_
                  refine lv_if_ne (tgt := 155) hx hb d_M_searched_149 (by decide) (fun c_149 => ?_) (fun c_149 => ?_)
                  · refine lv_iload hx hb d_M_searched_155 (lv_at hl 9 rfl) ?_
                    refine lv_iconst (v := (1 : Int32)) hx hb d_M_searched_157 rfl ?_
                    refine lv_icmp_ne (tgt := 168) hx hb d_M_searched_158 (by decide) (fun c_158 => ?_) (fun c_158 => ?_)
                    · refine lv_iload hx hb d_M_searched_168 (lv_at hl 9 rfl) ?_
                      refine lv_iconst (v := (2 : Int32)) hx hb d_M_searched_170 rfl ?_
                      refine lv_icmp_ne (tgt := 181) hx hb d_M_searched_171 (by decide) (fun c_171 => ?_) (fun c_171 => ?_)
                      · refine lv_aload_n hx hb d_M_searched_181 rfl (lv_at hl 4 rfl) ?_
                        refine g_M_bestSun hx hb hts hown hK hP d_M_searched_182 ?_
                        refine lv_aload_n hx hb d_M_searched_185 rfl (lv_at hl 4 rfl) ?_
                        refine g_M_bestPlanet hx hb hts hown hK hP d_M_searched_186 ?_
                        refine lv_iload_n hx hb d_M_searched_189 rfl (lv_at hl 6 rfl) ?_
                        refine k_si (rest := []) (c_M_teethOf l E ((s_M_searches S (a1 / (100 : Int32)) (a1 - a1 / (100 : Int32) * (100 : Int32)) a2 (a3 / (100 : Int32)) (a3 - a3 / (100 : Int32) * (100 : Int32)) a4).1 2) ((s_M_searches S (a1 / (100 : Int32)) (a1 - a1 / (100 : Int32) * (100 : Int32)) a2 (a3 / (100 : Int32)) (a3 - a3 / (100 : Int32) * (100 : Int32)) a4).1 3) a2) mi_M_teethOf ml_M_195 hx hb hml hts hown hK va_nil hl ⟨rfl, rfl⟩ ⟨(Nat.le_of_ble_eq_true rfl), (Nat.le_of_ble_eq_true rfl)⟩ ⟨Nat.zero_le _, Nat.zero_le _⟩ rfl (Nat.le_of_ble_eq_true rfl) rfl d_M_searched_190 ?_
                        exact hend _ _ _ _ _ _ (by rw [s_M_searched, if_neg c_36, if_neg c_51, if_neg c_63, if_neg c_76, if_neg c_89, if_neg c_102, if_neg c_115, if_neg c_137, if_neg c_149, if_neg c_158, if_neg c_171]) hP hS d_M_searched_193
                      · refine lv_aload_n hx hb d_M_searched_174 rfl (lv_at hl 4 rfl) ?_
                        refine g_M_bestPlanet hx hb hts hown hK hP d_M_searched_175 ?_
                        refine lv_goto (tgt := 193) hx hb d_M_searched_178 (by decide) ?_
                        exact hend _ _ _ _ _ _ (by rw [s_M_searched, if_neg c_36, if_neg c_51, if_neg c_63, if_neg c_76, if_neg c_89, if_neg c_102, if_neg c_115, if_neg c_137, if_neg c_149, if_neg c_158, if_pos c_171]) hP hS d_M_searched_193
                    · refine lv_aload_n hx hb d_M_searched_161 rfl (lv_at hl 4 rfl) ?_
                      refine g_M_bestSun hx hb hts hown hK hP d_M_searched_162 ?_
                      refine lv_goto (tgt := 193) hx hb d_M_searched_165 (by decide) ?_
                      exact hend _ _ _ _ _ _ (by rw [s_M_searched, if_neg c_36, if_neg c_51, if_neg c_63, if_neg c_76, if_neg c_89, if_neg c_102, if_neg c_115, if_neg c_137, if_neg c_149, if_pos c_158]) hP hS d_M_searched_193
                  · refine lv_bipush (v := (-2 : Int32)) hx hb d_M_searched_152 rfl ?_
                    exact hend _ _ _ _ _ _ (by rw [s_M_searched, if_neg c_36, if_neg c_51, if_neg c_63, if_neg c_76, if_neg c_89, if_neg c_102, if_neg c_115, if_neg c_137, if_pos c_149]) hP hS d_M_searched_154
                · refine lv_aload_n hx hb d_M_searched_140 rfl (lv_at hl 4 rfl) ?_
                  refine g_M_searchedMany hx hb hts hown hK hP d_M_searched_141 ?_
                  exact hend _ _ _ _ _ _ (by rw [s_M_searched, if_neg c_36, if_neg c_51, if_neg c_63, if_neg c_76, if_neg c_89, if_neg c_102, if_neg c_115, if_pos c_137]) hP hS d_M_searched_144
              · refine lv_iconst (v := (-1 : Int32)) hx hb d_M_searched_118 rfl ?_
                exact hend _ _ _ _ _ _ (by rw [s_M_searched, if_neg c_36, if_neg c_51, if_neg c_63, if_neg c_76, if_neg c_89, if_neg c_102, if_pos c_115]) hP hS d_M_searched_119
