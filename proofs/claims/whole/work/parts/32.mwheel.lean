/-! by program (wip/whole/mdl.py) -/
def s_M_wheel_b30 (Z : St) (x1 : Int32) : Int32 × St := (if (Z.2.1 0 0) = (16 : Int32) then ((-3 : Int32), Z) else ((Z.2.1 0 0), (sA (sA (sA Z 0 ((1 : Int32) + (Z.2.1 0 0)).toNatClampNeg x1) 0 ((17 : Int32) + (Z.2.1 0 0)).toNatClampNeg (0 : Int32)) 0 0 (((sA (sA Z 0 ((1 : Int32) + (Z.2.1 0 0)).toNatClampNeg x1) 0 ((17 : Int32) + (Z.2.1 0 0)).toNatClampNeg (0 : Int32)).2.1 0 0) + (1 : Int32)))))
def s_M_wheel (S : St) (a1 : Int32) : Int32 × St := (if (s_M_in (a1.toInt64) (-99 : Int64) (-20 : Int64)) = 0 then (if (s_M_in (a1.toInt64) (5 : Int64) (99 : Int64)) = 0 then ((-1 : Int32), S) else (s_M_wheel_b30 S a1)) else (s_M_wheel_b30 S a1))
set_option maxRecDepth 20000 in
theorem c_M_wheel (l : Launch) (E : Cx) (ad : Nat → Nat) (X : va_W) (S : St) (A : Nat → Prop) (a1 : Int32) (hG : GI (S.2.1 0)) : Met l y_M_wheel (Cond.code y_M_wheel b_M_wheel 3 (some .int) :: TB) (rk 1 25) (va_Pc [.ref (ad 0), .int a1] (preM E A (fun S => wm E ad S ++ X) S)) (va_Qi (fun r u => (r, u) = (s_M_wheel S a1)) (fun u t => va_P E.1 vwCl ((fun S => wm E ad S ++ X) u) t.heap) A) 0 0 A := by
  refine w_muI rfl (Nat.le_of_ble_eq_true rfl) rfl ?_
  intro p e s m args below meth c Q ls hx hb hml hts hown hP hK hD hS hl hend
  have hl : lv_has ls 3 [(0, .ref (ad 0)), (1, .int a1)] := hl
  have hP : va_P E.1 vwCl (wm E ad S ++ X) s.heap := hP
  have hown : s.vm.findClass R_M = some m.cls := hown
  have hD : ∀ S' : St, va_D A (wm E ad S' ++ X) := hD
  have b30 : ∀ (Z : St) (x1 : Int32) (H : Heap) (locs : List Loc), va_P E.1 vwCl (wm E ad Z ++ X) H → va_S A s.heap H locs → (GI (Z.2.1 0)) → ∀ (ls : Array Slot), lv_has ls 3 [(0, .ref (ad 0)), (1, .int x1)] → (s_M_wheel S a1) = s_M_wheel_b30 Z x1 → W p l e (rk 1 25) s m args below meth c H locs 0 0 Q (F0 m 30 ls []) := by
    intro Z x1 H locs hP hS hZ ls hl hq
    refine lv_aload_n hx hb d_M_wheel_30 rfl (lv_at hl 0 rfl) ?_
    refine g_M_g hx hb hts hown hK hP d_M_wheel_31 ?_
    refine lv_iconst (v := (0 : Int32)) hx hb d_M_wheel_34 rfl ?_
    refine lm_g hx hb hK hP (k := 0) (v := (Z.2.1 0 0)) rfl rfl (vin_k (by decide)) d_M_wheel_35 ?_
    refine lv_istore_n (lv' := [(2, .int (Z.2.1 0 0)), (0, .ref (ad 0)), (1, .int x1)]) hx hb d_M_wheel_36 rfl hl (by decide) rfl (fun ls hl => ?_)
    refine lv_iload_n hx hb d_M_wheel_37 rfl (lv_at hl 0 rfl) ?_
    refine lv_bipush (v := (16 : Int32)) hx hb d_M_wheel_38 rfl ?_
    refine lv_icmp_ne (tgt := 46) hx hb d_M_wheel_40 (by decide) (fun c_40 => ?_) (fun c_40 => ?_)
    · refine lv_aload_n hx hb d_M_wheel_46 rfl (lv_at hl 1 rfl) ?_
      refine g_M_g hx hb hts hown hK hP d_M_wheel_47 ?_
      refine lv_iconst (v := (1 : Int32)) hx hb d_M_wheel_50 rfl ?_
      refine lv_iload_n hx hb d_M_wheel_51 rfl (lv_at hl 0 rfl) ?_
      refine lv_iadd hx hb d_M_wheel_52 ?_
      refine lv_iload_n hx hb d_M_wheel_53 rfl (lv_at hl 2 rfl) ?_
      refine am_g hx hb hK hP hD hS (k := ((1 : Int32) + (Z.2.1 0 0)).toNatClampNeg) rfl (ix_add (gi_w hZ c_40) (by decide)) d_M_wheel_54 (fun H locs hP hS => ?_)
      have hP : va_P E.1 vwCl (wm E ad (sA Z 0 ((1 : Int32) + (Z.2.1 0 0)).toNatClampNeg x1) ++ X) H := hP
      refine lv_aload_n hx hb d_M_wheel_55 rfl (lv_at hl 1 rfl) ?_
      refine g_M_g hx hb hts hown hK hP d_M_wheel_56 ?_
      refine lv_bipush (v := (17 : Int32)) hx hb d_M_wheel_59 rfl ?_
      refine lv_iload_n hx hb d_M_wheel_61 rfl (lv_at hl 0 rfl) ?_
      refine lv_iadd hx hb d_M_wheel_62 ?_
      refine lv_iconst (v := (0 : Int32)) hx hb d_M_wheel_63 rfl ?_
      refine am_g hx hb hK hP hD hS (k := ((17 : Int32) + (Z.2.1 0 0)).toNatClampNeg) rfl (ix_add (gi_w hZ c_40) (by decide)) d_M_wheel_64 (fun H locs hP hS => ?_)
      have hP : va_P E.1 vwCl (wm E ad (sA (sA Z 0 ((1 : Int32) + (Z.2.1 0 0)).toNatClampNeg x1) 0 ((17 : Int32) + (Z.2.1 0 0)).toNatClampNeg (0 : Int32)) ++ X) H := hP
      refine lv_aload_n hx hb d_M_wheel_65 rfl (lv_at hl 1 rfl) ?_
      refine g_M_g hx hb hts hown hK hP d_M_wheel_66 ?_
      refine lv_iconst (v := (0 : Int32)) hx hb d_M_wheel_69 rfl ?_
      refine lv_dup2_11 hx hb d_M_wheel_70 rfl rfl ?_
      refine lm_g hx hb hK hP (k := 0) (v := ((sA (sA Z 0 ((1 : Int32) + (Z.2.1 0 0)).toNatClampNeg x1) 0 ((17 : Int32) + (Z.2.1 0 0)).toNatClampNeg (0 : Int32)).2.1 0 0)) rfl rfl (vin_k (by decide)) d_M_wheel_71 ?_
      refine lv_iconst (v := (1 : Int32)) hx hb d_M_wheel_72 rfl ?_
      refine lv_iadd hx hb d_M_wheel_73 ?_
      refine am_g hx hb hK hP hD hS (k := 0) rfl (vin_k (by decide)) d_M_wheel_74 (fun H locs hP hS => ?_)
      have hP : va_P E.1 vwCl (wm E ad (sA (sA (sA Z 0 ((1 : Int32) + (Z.2.1 0 0)).toNatClampNeg x1) 0 ((17 : Int32) + (Z.2.1 0 0)).toNatClampNeg (0 : Int32)) 0 0 (((sA (sA Z 0 ((1 : Int32) + (Z.2.1 0 0)).toNatClampNeg x1) 0 ((17 : Int32) + (Z.2.1 0 0)).toNatClampNeg (0 : Int32)).2.1 0 0) + (1 : Int32))) ++ X) H := hP
      refine lv_iload_n hx hb d_M_wheel_75 rfl (lv_at hl 0 rfl) ?_
      exact hend _ _ _ _ _ _ (by rw [hq, s_M_wheel_b30, if_neg c_40]) hP hS d_M_wheel_76
    · refine lv_bipush (v := (-3 : Int32)) hx hb d_M_wheel_43 rfl ?_
      exact hend _ _ _ _ _ _ (by rw [hq, s_M_wheel_b30, if_pos c_40]) hP hS d_M_wheel_45
  refine lv_iload_n hx hb d_M_wheel_0 rfl (lv_at hl 1 rfl) ?_
  refine lv_i2l hx hb d_M_wheel_1 rfl ?_
  refine lv_ldc2 (v := (-99 : Int64)) hx hb hown (hts _ kl_M_58) d_M_wheel_2 ?_
  refine lv_ldc2 (v := (-20 : Int64)) hx hb hown (hts _ kl_M_60) d_M_wheel_5 ?_
  refine k_si (rest := []) (c_M_in l E (a1.toInt64) (-99 : Int64) (-20 : Int64)) mi_M_in ml_M_46 hx hb hml hts hown hK va_nil hl ⟨rfl, rfl⟩ ⟨(Nat.le_of_ble_eq_true rfl), (Nat.le_of_ble_eq_true rfl)⟩ ⟨Nat.zero_le _, Nat.zero_le _⟩ rfl (Nat.le_of_ble_eq_true rfl) rfl d_M_wheel_8 ?_
  refine lv_if_ne (tgt := 30) hx hb d_M_wheel_11 (by decide) (fun c_11 => ?_) (fun c_11 => ?_)
  · exact b30 S a1 s.heap [] hP hS (by assumption) ls (lv_sub hl [0, 1] rfl) (by rw [s_M_wheel, if_neg c_11])
  · refine lv_iload_n hx hb d_M_wheel_14 rfl (lv_at hl 1 rfl) ?_
    refine lv_i2l hx hb d_M_wheel_15 rfl ?_
    refine lv_ldc2 (v := (5 : Int64)) hx hb hown (hts _ kl_M_62) d_M_wheel_16 ?_
    refine lv_ldc2 (v := (99 : Int64)) hx hb hown (hts _ kl_M_64) d_M_wheel_19 ?_
    refine k_si (rest := []) (c_M_in l E (a1.toInt64) (5 : Int64) (99 : Int64)) mi_M_in ml_M_46 hx hb hml hts hown hK va_nil hl ⟨rfl, rfl⟩ ⟨(Nat.le_of_ble_eq_true rfl), (Nat.le_of_ble_eq_true rfl)⟩ ⟨Nat.zero_le _, Nat.zero_le _⟩ rfl (Nat.le_of_ble_eq_true rfl) rfl d_M_wheel_22 ?_
    refine lv_if_ne (tgt := 30) hx hb d_M_wheel_25 (by decide) (fun c_25 => ?_) (fun c_25 => ?_)
    · exact b30 S a1 s.heap [] hP hS (by assumption) ls (lv_sub hl [0, 1] rfl) (by rw [s_M_wheel, if_pos c_11, if_neg c_25])
    · refine lv_iconst (v := (-1 : Int32)) hx hb d_M_wheel_28 rfl ?_
      exact hend _ _ _ _ _ _ (by rw [s_M_wheel, if_pos c_11, if_pos c_25]) hP hS d_M_wheel_29

def s_M_shift (S : St) (a1 : Int32) (a2 : Int32) : Int32 × St := (if (s_M_isWheel S a1) = 0 then ((-1000 : Int32), S) else (if (s_M_in (a2.toInt64) (-50 : Int64) (100 : Int64)) = 0 then ((-1000 : Int32), S) else ((s_M_becomes S ((17 : Int32) + a1) a2).1, (s_M_becomes S ((17 : Int32) + a1) a2).2)))
set_option maxRecDepth 20000 in
theorem c_M_shift (l : Launch) (E : Cx) (ad : Nat → Nat) (X : va_W) (S : St) (A : Nat → Prop) (a1 : Int32) (a2 : Int32) (hG : GI (S.2.1 0)) : Met l y_M_shift (Cond.code y_M_shift b_M_shift 3 (some .int) :: TB) (rk 2 46) (va_Pc [.ref (ad 0), .int a1, .int a2] (preM E A (fun S => wm E ad S ++ X) S)) (va_Qi (fun r u => (r, u) = (s_M_shift S a1 a2)) (fun u t => va_P E.1 vwCl ((fun S => wm E ad S ++ X) u) t.heap) A) 0 0 A := by
  refine w_muI rfl (Nat.le_of_ble_eq_true rfl) rfl ?_
  intro p e s m args below meth c Q ls hx hb hml hts hown hP hK hD hS hl hend
  have hl : lv_has ls 3 [(0, .ref (ad 0)), (1, .int a1), (2, .int a2)] := hl
  have hP : va_P E.1 vwCl (wm E ad S ++ X) s.heap := hP
  have hown : s.vm.findClass R_M = some m.cls := hown
  have hD : ∀ S' : St, va_D A (wm E ad S' ++ X) := hD
  refine lv_aload_n hx hb d_M_shift_0 rfl (lv_at hl 0 rfl) ?_
  refine lv_iload_n hx hb d_M_shift_1 rfl (lv_at hl 1 rfl) ?_
  refine k_vi (rest := []) (c_M_isWheel l E ad X S a1) mi_M_isWheel ml_M_66 hx hb hml hts hown hK hP rvM hl ⟨rfl, rfl⟩ ⟨(Nat.le_of_ble_eq_true rfl), (Nat.le_of_ble_eq_true rfl)⟩ ⟨Nat.zero_le _, Nat.zero_le _⟩ rfl (Nat.le_of_ble_eq_true rfl) rfl d_M_shift_2 ?_
  refine lv_if_eq (tgt := 34) hx hb d_M_shift_5 (by decide) (fun c_5 => ?_) (fun c_5 => ?_)
  · refine lv_sipush (v := (-1000 : Int32)) hx hb d_M_shift_34 rfl ?_
    exact hend _ _ _ _ _ _ (by rw [s_M_shift, if_pos c_5]) hP hS d_M_shift_37
  · refine lv_iload_n hx hb d_M_shift_8 rfl (lv_at hl 2 rfl) ?_
    refine lv_i2l hx hb d_M_shift_9 rfl ?_
    refine lv_ldc2 (v := (-50 : Int64)) hx hb hown (hts _ kl_M_69) d_M_shift_10 ?_
    refine lv_ldc2 (v := (100 : Int64)) hx hb hown (hts _ kl_M_71) d_M_shift_13 ?_
    refine k_si (rest := []) (c_M_in l E (a2.toInt64) (-50 : Int64) (100 : Int64)) mi_M_in ml_M_46 hx hb hml hts hown hK va_nil hl ⟨rfl, rfl⟩ ⟨(Nat.le_of_ble_eq_true rfl), (Nat.le_of_ble_eq_true rfl)⟩ ⟨Nat.zero_le _, Nat.zero_le _⟩ rfl (Nat.le_of_ble_eq_true rfl) rfl d_M_shift_16 ?_
    refine lv_if_eq (tgt := 34) hx hb d_M_shift_19 (by decide) (fun c_19 => ?_) (fun c_19 => ?_)
    · refine lv_sipush (v := (-1000 : Int32)) hx hb d_M_shift_34 rfl ?_
      exact hend _ _ _ _ _ _ (by rw [s_M_shift, if_neg c_5, if_pos c_19]) hP hS d_M_shift_37
    · refine lv_aload_n hx hb d_M_shift_22 rfl (lv_at hl 0 rfl) ?_
      refine lv_bipush (v := (17 : Int32)) hx hb d_M_shift_23 rfl ?_
      refine lv_iload_n hx hb d_M_shift_25 rfl (lv_at hl 1 rfl) ?_
      refine lv_iadd hx hb d_M_shift_26 ?_
      refine lv_iload_n hx hb d_M_shift_27 rfl (lv_at hl 2 rfl) ?_
      refine k_mvi (rest := []) (c_M_becomes l E ad X S A ((17 : Int32) + a1) a2 (ix_add (isW16 hG c_5) (by decide))) mi_M_becomes ml_M_73 hx hb hml hts hown hK hP hD hS rvM hl ⟨rfl, rfl⟩ ⟨(Nat.le_of_ble_eq_true rfl), (Nat.le_of_ble_eq_true rfl)⟩ ⟨Nat.zero_le _, Nat.zero_le _⟩ rfl (Nat.le_of_ble_eq_true rfl) rfl d_M_shift_28 (fun H locs hP hS => ?_)
      have hP : va_P E.1 vwCl (wm E ad (s_M_becomes S ((17 : Int32) + a1) a2).2 ++ X) H := hP
      refine lv_goto (tgt := 37) hx hb d_M_shift_31 (by decide) ?_
      exact hend _ _ _ _ _ _ (by rw [s_M_shift, if_neg c_5, if_neg c_19]) hP hS d_M_shift_37

def s_M_pressure (S : St) (a1 : Int32) : Int32 × St := (if (s_M_in (a1.toInt64) (0 : Int64) (2 : Int64)) = 0 then ((-1 : Int32), S) else ((s_M_becomes S (33 : Int32) a1).1, (s_M_becomes S (33 : Int32) a1).2))
set_option maxRecDepth 20000 in
theorem c_M_pressure (l : Launch) (E : Cx) (ad : Nat → Nat) (X : va_W) (S : St) (A : Nat → Prop) (a1 : Int32) : Met l y_M_pressure (Cond.code y_M_pressure b_M_pressure 2 (some .int) :: TB) (rk 1 25) (va_Pc [.ref (ad 0), .int a1] (preM E A (fun S => wm E ad S ++ X) S)) (va_Qi (fun r u => (r, u) = (s_M_pressure S a1)) (fun u t => va_P E.1 vwCl ((fun S => wm E ad S ++ X) u) t.heap) A) 0 0 A := by
  refine w_muI rfl (Nat.le_of_ble_eq_true rfl) rfl ?_
  intro p e s m args below meth c Q ls hx hb hml hts hown hP hK hD hS hl hend
  have hl : lv_has ls 2 [(0, .ref (ad 0)), (1, .int a1)] := hl
  have hP : va_P E.1 vwCl (wm E ad S ++ X) s.heap := hP
  have hown : s.vm.findClass R_M = some m.cls := hown
  have hD : ∀ S' : St, va_D A (wm E ad S' ++ X) := hD
  refine lv_iload_n hx hb d_M_pressure_0 rfl (lv_at hl 1 rfl) ?_
  refine lv_i2l hx hb d_M_pressure_1 rfl ?_
  refine lv_lconst (v := (0 : Int64)) hx hb d_M_pressure_2 rfl ?_
  refine lv_ldc2 (v := (2 : Int64)) hx hb hown (hts _ kl_M_77) d_M_pressure_3 ?_
  refine k_si (rest := []) (c_M_in l E (a1.toInt64) (0 : Int64) (2 : Int64)) mi_M_in ml_M_46 hx hb hml hts hown hK va_nil hl ⟨rfl, rfl⟩ ⟨(Nat.le_of_ble_eq_true rfl), (Nat.le_of_ble_eq_true rfl)⟩ ⟨Nat.zero_le _, Nat.zero_le _⟩ rfl (Nat.le_of_ble_eq_true rfl) rfl d_M_pressure_6 ?_
  refine lv_if_eq (tgt := 22) hx hb d_M_pressure_9 (by decide) (fun c_9 => ?_) (fun c_9 => ?_)
  · refine lv_iconst (v := (-1 : Int32)) hx hb d_M_pressure_22 rfl ?_
    exact hend _ _ _ _ _ _ (by rw [s_M_pressure, if_pos c_9]) hP hS d_M_pressure_23
  · refine lv_aload_n hx hb d_M_pressure_12 rfl (lv_at hl 0 rfl) ?_
    refine lv_bipush (v := (33 : Int32)) hx hb d_M_pressure_13 rfl ?_
    refine lv_iload_n hx hb d_M_pressure_15 rfl (lv_at hl 1 rfl) ?_
    refine k_mvi (rest := []) (c_M_becomes l E ad X S A (33 : Int32) a1 (vin_k (by decide))) mi_M_becomes ml_M_73 hx hb hml hts hown hK hP hD hS rvM hl ⟨rfl, rfl⟩ ⟨(Nat.le_of_ble_eq_true rfl), (Nat.le_of_ble_eq_true rfl)⟩ ⟨Nat.zero_le _, Nat.zero_le _⟩ rfl (Nat.le_of_ble_eq_true rfl) rfl d_M_pressure_16 (fun H locs hP hS => ?_)
    have hP : va_P E.1 vwCl (wm E ad (s_M_becomes S (33 : Int32) a1).2 ++ X) H := hP
    refine lv_goto (tgt := 23) hx hb d_M_pressure_19 (by decide) ?_
    exact hend _ _ _ _ _ _ (by rw [s_M_pressure, if_neg c_9]) hP hS d_M_pressure_23

def s_M_square (S : St) : Int32 := (sqF (S.2.1 0 33).toNatClampNeg)
set_option maxRecDepth 20000 in
theorem c_M_square (l : Launch) (E : Cx) (ad : Nat → Nat) (X : va_W) (S : St) (hG : GI (S.2.1 0)) : Met l y_M_square (Cond.code y_M_square b_M_square 1 (some .int) :: TB) (rk 0 0) (va_Pc [.ref (ad 0)] (preR E (wm E ad S ++ X))) (vp_Si (fun r => r = (s_M_square S))) 0 0 (fun _ => False) := by
  refine w_roI rfl (Nat.le_of_ble_eq_true rfl) rfl ?_
  intro p e s m args below meth c Q ls hx hb hml hts hown hP hK hl hend
  have hl : lv_has ls 1 [(0, .ref (ad 0))] := hl
  have hP : va_P E.1 vwCl (wm E ad S ++ X) s.heap := hP
  have hown : s.vm.findClass R_M = some m.cls := hown
  refine lv_aload_n hx hb d_M_square_0 rfl (lv_at hl 0 rfl) ?_
  refine g_M_squares hx hb hts hown hK hP d_M_square_1 ?_
  refine lv_aload_n hx hb d_M_square_4 rfl (lv_at hl 0 rfl) ?_
  refine g_M_g hx hb hts hown hK hP d_M_square_5 ?_
  refine lv_bipush (v := (33 : Int32)) hx hb d_M_square_8 rfl ?_
  refine lm_g hx hb hK hP (k := 33) (v := (S.2.1 0 33)) rfl rfl (vin_k (by decide)) d_M_square_10 ?_
  refine lm_squares hx hb hK hP (k := (S.2.1 0 33).toNatClampNeg) (v := (sqF (S.2.1 0 33).toNatClampNeg)) rfl rfl (vin_k (gi_p hG)) d_M_square_11 ?_
  exact hend _ _ _ (by rw [s_M_square]) d_M_square_12

def s_M_isCut (S : St) (a1 : Int32) (a2 : Int32) : Int32 := (if ((200 : Int32) * ((100 : Int32) - a2)) ≤ (a1 * (s_M_square S)) then (0 : Int32) else (1 : Int32))
theorem z_M_isCut (S : St) (a1 : Int32) (a2 : Int32) : (s_M_isCut S a1 a2) = 0 ∨ (s_M_isCut S a1 a2) = 1 := by rw [s_M_isCut]; exact (ite_z (Or.inl rfl) (Or.inr rfl))
set_option maxRecDepth 20000 in
theorem c_M_isCut (l : Launch) (E : Cx) (ad : Nat → Nat) (X : va_W) (S : St) (a1 : Int32) (a2 : Int32) (hG : GI (S.2.1 0)) : Met l y_M_isCut (Cond.code y_M_isCut b_M_isCut 3 (some .boolean) :: TB) (rk 1 20) (va_Pc [.ref (ad 0), .int a1, .int a2] (preR E (wm E ad S ++ X))) (vp_Si (fun r => r = (s_M_isCut S a1 a2))) 0 0 (fun _ => False) := by
  refine w_roI rfl (Nat.le_of_ble_eq_true rfl) (k_nb (z_M_isCut S a1 a2)) ?_
  intro p e s m args below meth c Q ls hx hb hml hts hown hP hK hl hend
  have hl : lv_has ls 3 [(0, .ref (ad 0)), (1, .int a1), (2, .int a2)] := hl
  have hP : va_P E.1 vwCl (wm E ad S ++ X) s.heap := hP
  have hown : s.vm.findClass R_M = some m.cls := hown
  refine lv_iload_n hx hb d_M_isCut_0 rfl (lv_at hl 1 rfl) ?_
  refine lv_aload_n hx hb d_M_isCut_1 rfl (lv_at hl 0 rfl) ?_
  refine k_vi (rest := [.int a1]) (c_M_square l E ad X S hG) mi_M_square ml_M_79 hx hb hml hts hown hK hP rvM hl ⟨rfl, rfl⟩ ⟨(Nat.le_of_ble_eq_true rfl), (Nat.le_of_ble_eq_true rfl)⟩ ⟨Nat.zero_le _, Nat.zero_le _⟩ rfl (Nat.le_of_ble_eq_true rfl) rfl d_M_isCut_2 ?_
  refine lv_imul hx hb d_M_isCut_5 ?_
  refine lv_sipush (v := (200 : Int32)) hx hb d_M_isCut_6 rfl ?_
  refine lv_bipush (v := (100 : Int32)) hx hb d_M_isCut_9 rfl ?_
  refine lv_iload_n hx hb d_M_isCut_11 rfl (lv_at hl 2 rfl) ?_
  refine lv_isub hx hb d_M_isCut_12 ?_
  refine lv_imul hx hb d_M_isCut_13 ?_
  refine lv_icmp_ge (tgt := 21) hx hb d_M_isCut_14 (by decide) (fun c_14 => ?_) (fun c_14 => ?_)
  · refine lv_iconst (v := (0 : Int32)) hx hb d_M_isCut_21 rfl ?_
    exact hend _ _ _ (by rw [s_M_isCut, if_pos c_14]) d_M_isCut_22
  · refine lv_iconst (v := (1 : Int32)) hx hb d_M_isCut_17 rfl ?_
    refine lv_goto (tgt := 22) hx hb d_M_isCut_18 (by decide) ?_
    exact hend _ _ _ (by rw [s_M_isCut, if_neg c_14]) d_M_isCut_22

def s_M_isUndercut (S : St) (a1 : Int32) : Int32 := (if (s_M_isRing S a1) = 0 then (if (s_M_isCut S (s_M_teeth S a1) (S.2.1 0 ((17 : Int32) + a1).toNatClampNeg)) = 0 then (0 : Int32) else (1 : Int32)) else (0 : Int32))
theorem z_M_isUndercut (S : St) (a1 : Int32) : (s_M_isUndercut S a1) = 0 ∨ (s_M_isUndercut S a1) = 1 := by rw [s_M_isUndercut]; exact (ite_z (ite_z (Or.inl rfl) (Or.inr rfl)) (Or.inl rfl))
set_option maxRecDepth 20000 in
theorem c_M_isUndercut (l : Launch) (E : Cx) (ad : Nat → Nat) (X : va_W) (S : St) (a1 : Int32) (hG : GI (S.2.1 0)) (hw : w16 a1) : Met l y_M_isUndercut (Cond.code y_M_isUndercut b_M_isUndercut 2 (some .boolean) :: TB) (rk 2 42) (va_Pc [.ref (ad 0), .int a1] (preR E (wm E ad S ++ X))) (vp_Si (fun r => r = (s_M_isUndercut S a1))) 0 0 (fun _ => False) := by
  refine w_roI rfl (Nat.le_of_ble_eq_true rfl) (k_nb (z_M_isUndercut S a1)) ?_
  intro p e s m args below meth c Q ls hx hb hml hts hown hP hK hl hend
  have hl : lv_has ls 2 [(0, .ref (ad 0)), (1, .int a1)] := hl
  have hP : va_P E.1 vwCl (wm E ad S ++ X) s.heap := hP
  have hown : s.vm.findClass R_M = some m.cls := hown
  refine lv_aload_n hx hb d_M_isUndercut_0 rfl (lv_at hl 0 rfl) ?_
  refine lv_iload_n hx hb d_M_isUndercut_1 rfl (lv_at hl 1 rfl) ?_
  refine k_vi (rest := []) (c_M_isRing l E ad X S a1 hw) mi_M_isRing ml_M_54 hx hb hml hts hown hK hP rvM hl ⟨rfl, rfl⟩ ⟨(Nat.le_of_ble_eq_true rfl), (Nat.le_of_ble_eq_true rfl)⟩ ⟨Nat.zero_le _, Nat.zero_le _⟩ rfl (Nat.le_of_ble_eq_true rfl) rfl d_M_isUndercut_2 ?_
  refine lv_if_ne (tgt := 33) hx hb d_M_isUndercut_5 (by decide) (fun c_5 => ?_) (fun c_5 => ?_)
  · refine lv_iconst (v := (0 : Int32)) hx hb d_M_isUndercut_33 rfl ?_
    exact hend _ _ _ (by rw [s_M_isUndercut, if_neg c_5]) d_M_isUndercut_34
  · refine lv_aload_n hx hb d_M_isUndercut_8 rfl (lv_at hl 0 rfl) ?_
    refine lv_aload_n hx hb d_M_isUndercut_9 rfl (lv_at hl 0 rfl) ?_
    refine lv_iload_n hx hb d_M_isUndercut_10 rfl (lv_at hl 1 rfl) ?_
    refine k_vi (rest := [.ref (ad 0)]) (c_M_teeth l E ad X S a1 hw) mi_M_teeth ml_M_50 hx hb hml hts hown hK hP rvM hl ⟨rfl, rfl⟩ ⟨(Nat.le_of_ble_eq_true rfl), (Nat.le_of_ble_eq_true rfl)⟩ ⟨Nat.zero_le _, Nat.zero_le _⟩ rfl (Nat.le_of_ble_eq_true rfl) rfl d_M_isUndercut_11 ?_
    refine lv_aload_n hx hb d_M_isUndercut_14 rfl (lv_at hl 0 rfl) ?_
    refine g_M_g hx hb hts hown hK hP d_M_isUndercut_15 ?_
    refine lv_bipush (v := (17 : Int32)) hx hb d_M_isUndercut_18 rfl ?_
    refine lv_iload_n hx hb d_M_isUndercut_20 rfl (lv_at hl 1 rfl) ?_
    refine lv_iadd hx hb d_M_isUndercut_21 ?_
    refine lm_g hx hb hK hP (k := ((17 : Int32) + a1).toNatClampNeg) (v := (S.2.1 0 ((17 : Int32) + a1).toNatClampNeg)) rfl rfl (ix_add hw (by decide)) d_M_isUndercut_22 ?_
    refine k_vi (rest := []) (c_M_isCut l E ad X S (s_M_teeth S a1) (S.2.1 0 ((17 : Int32) + a1).toNatClampNeg) hG) mi_M_isCut ml_M_83 hx hb hml hts hown hK hP rvM hl ⟨rfl, rfl⟩ ⟨(Nat.le_of_ble_eq_true rfl), (Nat.le_of_ble_eq_true rfl)⟩ ⟨Nat.zero_le _, Nat.zero_le _⟩ rfl (Nat.le_of_ble_eq_true rfl) rfl d_M_isUndercut_23 ?_
    refine lv_if_eq (tgt := 33) hx hb d_M_isUndercut_26 (by decide) (fun c_26 => ?_) (fun c_26 => ?_)
    · refine lv_iconst (v := (0 : Int32)) hx hb d_M_isUndercut_33 rfl ?_
      exact hend _ _ _ (by rw [s_M_isUndercut, if_pos c_5, if_pos c_26]) d_M_isUndercut_34
    · refine lv_iconst (v := (1 : Int32)) hx hb d_M_isUndercut_29 rfl ?_
      refine lv_goto (tgt := 34) hx hb d_M_isUndercut_30 (by decide) ?_
      exact hend _ _ _ (by rw [s_M_isUndercut, if_pos c_5, if_neg c_26]) d_M_isUndercut_34

def s_M_isPointed (S : St) (a1 : Int32) : Int32 := (if (s_M_isRing S a1) = 0 then (if (S.2.1 0 ((17 : Int32) + a1).toNatClampNeg) ≤ (((5 : Int32) * (s_M_teeth S a1)) - (10 : Int32)) then (0 : Int32) else (1 : Int32)) else (0 : Int32))
theorem z_M_isPointed (S : St) (a1 : Int32) : (s_M_isPointed S a1) = 0 ∨ (s_M_isPointed S a1) = 1 := by rw [s_M_isPointed]; exact (ite_z (ite_z (Or.inl rfl) (Or.inr rfl)) (Or.inl rfl))
set_option maxRecDepth 20000 in
theorem c_M_isPointed (l : Launch) (E : Cx) (ad : Nat → Nat) (X : va_W) (S : St) (a1 : Int32) (hw : w16 a1) : Met l y_M_isPointed (Cond.code y_M_isPointed b_M_isPointed 2 (some .boolean) :: TB) (rk 2 42) (va_Pc [.ref (ad 0), .int a1] (preR E (wm E ad S ++ X))) (vp_Si (fun r => r = (s_M_isPointed S a1))) 0 0 (fun _ => False) := by
  refine w_roI rfl (Nat.le_of_ble_eq_true rfl) (k_nb (z_M_isPointed S a1)) ?_
  intro p e s m args below meth c Q ls hx hb hml hts hown hP hK hl hend
  have hl : lv_has ls 2 [(0, .ref (ad 0)), (1, .int a1)] := hl
  have hP : va_P E.1 vwCl (wm E ad S ++ X) s.heap := hP
  have hown : s.vm.findClass R_M = some m.cls := hown
  refine lv_aload_n hx hb d_M_isPointed_0 rfl (lv_at hl 0 rfl) ?_
  refine lv_iload_n hx hb d_M_isPointed_1 rfl (lv_at hl 1 rfl) ?_
  refine k_vi (rest := []) (c_M_isRing l E ad X S a1 hw) mi_M_isRing ml_M_54 hx hb hml hts hown hK hP rvM hl ⟨rfl, rfl⟩ ⟨(Nat.le_of_ble_eq_true rfl), (Nat.le_of_ble_eq_true rfl)⟩ ⟨Nat.zero_le _, Nat.zero_le _⟩ rfl (Nat.le_of_ble_eq_true rfl) rfl d_M_isPointed_2 ?_
  refine lv_if_ne (tgt := 34) hx hb d_M_isPointed_5 (by decide) (fun c_5 => ?_) (fun c_5 => ?_)
  · refine lv_iconst (v := (0 : Int32)) hx hb d_M_isPointed_34 rfl ?_
    exact hend _ _ _ (by rw [s_M_isPointed, if_neg c_5]) d_M_isPointed_35
  · refine lv_aload_n hx hb d_M_isPointed_8 rfl (lv_at hl 0 rfl) ?_
    refine g_M_g hx hb hts hown hK hP d_M_isPointed_9 ?_
    refine lv_bipush (v := (17 : Int32)) hx hb d_M_isPointed_12 rfl ?_
    refine lv_iload_n hx hb d_M_isPointed_14 rfl (lv_at hl 1 rfl) ?_
    refine lv_iadd hx hb d_M_isPointed_15 ?_
    refine lm_g hx hb hK hP (k := ((17 : Int32) + a1).toNatClampNeg) (v := (S.2.1 0 ((17 : Int32) + a1).toNatClampNeg)) rfl rfl (ix_add hw (by decide)) d_M_isPointed_16 ?_
    refine lv_iconst (v := (5 : Int32)) hx hb d_M_isPointed_17 rfl ?_
    refine lv_aload_n hx hb d_M_isPointed_18 rfl (lv_at hl 0 rfl) ?_
    refine lv_iload_n hx hb d_M_isPointed_19 rfl (lv_at hl 1 rfl) ?_
    refine k_vi (rest := [.int (5 : Int32), .int (S.2.1 0 ((17 : Int32) + a1).toNatClampNeg)]) (c_M_teeth l E ad X S a1 hw) mi_M_teeth ml_M_50 hx hb hml hts hown hK hP rvM hl ⟨rfl, rfl⟩ ⟨(Nat.le_of_ble_eq_true rfl), (Nat.le_of_ble_eq_true rfl)⟩ ⟨Nat.zero_le _, Nat.zero_le _⟩ rfl (Nat.le_of_ble_eq_true rfl) rfl d_M_isPointed_20 ?_
    refine lv_imul hx hb d_M_isPointed_23 ?_
    refine lv_bipush (v := (10 : Int32)) hx hb d_M_isPointed_24 rfl ?_
    refine lv_isub hx hb d_M_isPointed_26 ?_
    refine lv_icmp_le (tgt := 34) hx hb d_M_isPointed_27 (by decide) (fun c_27 => ?_) (fun c_27 => ?_)
    · refine lv_iconst (v := (0 : Int32)) hx hb d_M_isPointed_34 rfl ?_
      exact hend _ _ _ (by rw [s_M_isPointed, if_pos c_5, if_pos c_27]) d_M_isPointed_35
    · refine lv_iconst (v := (1 : Int32)) hx hb d_M_isPointed_30 rfl ?_
      refine lv_goto (tgt := 35) hx hb d_M_isPointed_31 (by decide) ?_
      exact hend _ _ _ (by rw [s_M_isPointed, if_pos c_5, if_neg c_27]) d_M_isPointed_35

def s_M_leastShift_b40 (S : St) (x2 : Int32) : Int32 := (if x2 ≤ (100 : Int32) then x2 else (-1001 : Int32))
def s_M_leastShift_b15 (S : St) : Nat → Int32 → Int32 → Int32
  | 0, _, _ => 0
  | n + 1, x1, x2 => (if (100 : Int32) < x2 then (s_M_leastShift_b40 S x2) else (if (s_M_isCut S (s_M_teeth S x1) x2) = 0 then (s_M_leastShift_b40 S x2) else (s_M_leastShift_b15 S n x1 (x2 + 1))))
def s_M_leastShift (S : St) (a1 : Int32) : Int32 := (if (s_M_isRing S a1) = 0 then (s_M_leastShift_b15 S (152) a1 (-50 : Int32)) else (-1001 : Int32))
set_option maxRecDepth 20000 in
theorem c_M_leastShift (l : Launch) (E : Cx) (ad : Nat → Nat) (X : va_W) (S : St) (a1 : Int32) (hG : GI (S.2.1 0)) (hw : w16 a1) : Met l y_M_leastShift (Cond.code y_M_leastShift b_M_leastShift 3 (some .int) :: TB) (rk 2 42) (va_Pc [.ref (ad 0), .int a1] (preR E (wm E ad S ++ X))) (vp_Si (fun r => r = (s_M_leastShift S a1))) 0 0 (fun _ => False) := by
  refine w_roI rfl (Nat.le_of_ble_eq_true rfl) rfl ?_
  intro p e s m args below meth c Q ls hx hb hml hts hown hP hK hl hend
  have hl : lv_has ls 3 [(0, .ref (ad 0)), (1, .int a1)] := hl
  have hP : va_P E.1 vwCl (wm E ad S ++ X) s.heap := hP
  have hown : s.vm.findClass R_M = some m.cls := hown
  have b40 : ∀ (x2 : Int32), ∀ (ls : Array Slot), lv_has ls 3 [(2, .int x2)] → (s_M_leastShift S a1) = s_M_leastShift_b40 S x2 → W p l e (rk 2 42) s m args below meth c s.heap [] 0 0 Q (F0 m 40 ls []) := by
    intro x2 ls hl hq
    refine lv_iload_n hx hb d_M_leastShift_40 rfl (lv_at hl 0 rfl) ?_
    refine lv_bipush (v := (100 : Int32)) hx hb d_M_leastShift_41 rfl ?_
    refine lv_icmp_le (tgt := 52) hx hb d_M_leastShift_43 (by decide) (fun c_43 => ?_) (fun c_43 => ?_)
    · refine lv_iload_n hx hb d_M_leastShift_52 rfl (lv_at hl 0 rfl) ?_
      exact hend _ _ _ (by rw [hq, s_M_leastShift_b40, if_pos c_43]) d_M_leastShift_53
    · refine lv_sipush (v := (-1001 : Int32)) hx hb d_M_leastShift_46 rfl ?_
      refine lv_goto (tgt := 53) hx hb d_M_leastShift_49 (by decide) ?_
      exact hend _ _ _ (by rw [hq, s_M_leastShift_b40, if_neg c_43]) d_M_leastShift_53
  have b15 : ∀ (n : Nat) (x1 : Int32) (x2 : Int32), (UE n 100 x2) → (w16 x1) → ∀ (ls : Array Slot), lv_has ls 3 [(0, .ref (ad 0)), (1, .int x1), (2, .int x2)] → (s_M_leastShift S a1) = s_M_leastShift_b15 S n x1 x2 → W p l e (rk 2 42) s m args below meth c s.heap [] 0 0 Q (F0 m 15 ls []) := by
    intro n15
    induction n15 with
    | zero => intro x1 x2 hv; exact absurd hv (UE_z)
    | succ n15 ih15 =>
      intro x1 x2 hv hw1 ls hl hq
      refine lv_iload_n hx hb d_M_leastShift_15 rfl (lv_at hl 2 rfl) ?_
      refine lv_bipush (v := (100 : Int32)) hx hb d_M_leastShift_16 rfl ?_
      refine lv_icmp_gt (tgt := 40) hx hb d_M_leastShift_18 (by decide) (fun c_18 => ?_) (fun c_18 => ?_)
      · exact b40 x2 ls (lv_sub hl [2] rfl) (by rw [hq, s_M_leastShift_b15, if_pos c_18])
      · refine lv_aload_n hx hb d_M_leastShift_21 rfl (lv_at hl 0 rfl) ?_
        refine lv_aload_n hx hb d_M_leastShift_22 rfl (lv_at hl 0 rfl) ?_
        refine lv_iload_n hx hb d_M_leastShift_23 rfl (lv_at hl 1 rfl) ?_
        refine k_vi (rest := [.ref (ad 0)]) (c_M_teeth l E ad X S x1 hw1) mi_M_teeth ml_M_50 hx hb hml hts hown hK hP rvM hl ⟨rfl, rfl⟩ ⟨(Nat.le_of_ble_eq_true rfl), (Nat.le_of_ble_eq_true rfl)⟩ ⟨Nat.zero_le _, Nat.zero_le _⟩ rfl (Nat.le_of_ble_eq_true rfl) rfl d_M_leastShift_24 ?_
        refine lv_iload_n hx hb d_M_leastShift_27 rfl (lv_at hl 2 rfl) ?_
        refine k_vi (rest := []) (c_M_isCut l E ad X S (s_M_teeth S x1) x2 hG) mi_M_isCut ml_M_83 hx hb hml hts hown hK hP rvM hl ⟨rfl, rfl⟩ ⟨(Nat.le_of_ble_eq_true rfl), (Nat.le_of_ble_eq_true rfl)⟩ ⟨Nat.zero_le _, Nat.zero_le _⟩ rfl (Nat.le_of_ble_eq_true rfl) rfl d_M_leastShift_28 ?_
        refine lv_if_eq (tgt := 40) hx hb d_M_leastShift_31 (by decide) (fun c_31 => ?_) (fun c_31 => ?_)
        · exact b40 x2 ls (lv_sub hl [2] rfl) (by rw [hq, s_M_leastShift_b15, if_neg c_18, if_pos c_31])
        · refine lv_iinc (v := (x2 + 1)) (lv' := [(2, .int (x2 + 1)), (0, .ref (ad 0)), (1, .int x1)]) hx hb d_M_leastShift_34 hl (k := 2) rfl rfl (by decide) rfl (fun ls hl => ?_)
          refine lv_goto (tgt := 15) hx hb d_M_leastShift_37 (by decide) ?_
          exact ih15 x1 (x2 + 1) (UE_up hv c_18) (by assumption) ls (lv_sub hl [1, 2, 0] rfl) (by rw [hq, s_M_leastShift_b15, if_neg c_18, if_neg c_31])
  refine lv_aload_n hx hb d_M_leastShift_0 rfl (lv_at hl 0 rfl) ?_
  refine lv_iload_n hx hb d_M_leastShift_1 rfl (lv_at hl 1 rfl) ?_
  refine k_vi (rest := []) (c_M_isRing l E ad X S a1 hw) mi_M_isRing ml_M_54 hx hb hml hts hown hK hP rvM hl ⟨rfl, rfl⟩ ⟨(Nat.le_of_ble_eq_true rfl), (Nat.le_of_ble_eq_true rfl)⟩ ⟨Nat.zero_le _, Nat.zero_le _⟩ rfl (Nat.le_of_ble_eq_true rfl) rfl d_M_leastShift_2 ?_
  refine lv_if_eq (tgt := 12) hx hb d_M_leastShift_5 (by decide) (fun c_5 => ?_) (fun c_5 => ?_)
  · refine lv_bipush (v := (-50 : Int32)) hx hb d_M_leastShift_12 rfl ?_
    refine lv_istore_n (lv' := [(2, .int (-50 : Int32)), (0, .ref (ad 0)), (1, .int a1)]) hx hb d_M_leastShift_14 rfl hl (by decide) rfl (fun ls hl => ?_)
    exact b15 (152) a1 (-50 : Int32) (UE_in' (by decide) (by decide) (by decide)) (by assumption) ls (lv_sub hl [1, 2, 0] rfl) (by rw [s_M_leastShift, if_pos c_5])
  · refine lv_sipush (v := (-1001 : Int32)) hx hb d_M_leastShift_8 rfl ?_
    exact hend _ _ _ (by rw [s_M_leastShift, if_neg c_5]) d_M_leastShift_11

def s_M_pairsWith_b4 (S : St) : Nat → Int32 → Int32 → Int32 → Int32
  | 0, _, _, _ => 0
  | n + 1, x1, x2, x3 => (if (S.2.1 0 34) ≤ x3 then x2 else (if (S.2.1 0 ((35 : Int32) + x3).toNatClampNeg) = x1 then (s_M_pairsWith_b4 S n x1 (x2 + (1 : Int32)) (x3 + 1)) else (if (S.2.1 0 ((44 : Int32) + x3).toNatClampNeg) = x1 then (s_M_pairsWith_b4 S n x1 (x2 + (1 : Int32)) (x3 + 1)) else (s_M_pairsWith_b4 S n x1 (x2 + (0 : Int32)) (x3 + 1)))))
def s_M_pairsWith (S : St) (a1 : Int32) : Int32 := (s_M_pairsWith_b4 S ((S.2.1 0 34).toInt.toNat + 1) a1 (0 : Int32) (0 : Int32))
set_option maxRecDepth 20000 in
theorem c_M_pairsWith (l : Launch) (E : Cx) (ad : Nat → Nat) (X : va_W) (S : St) (a1 : Int32) (hG : GI (S.2.1 0)) : Met l y_M_pairsWith (Cond.code y_M_pairsWith b_M_pairsWith 4 (some .int) :: TB) (rk 0 0) (va_Pc [.ref (ad 0), .int a1] (preR E (wm E ad S ++ X))) (vp_Si (fun r => r = (s_M_pairsWith S a1))) 0 0 (fun _ => False) := by
  refine w_roI rfl (Nat.le_of_ble_eq_true rfl) rfl ?_
  intro p e s m args below meth c Q ls hx hb hml hts hown hP hK hl hend
  have hl : lv_has ls 4 [(0, .ref (ad 0)), (1, .int a1)] := hl
  have hP : va_P E.1 vwCl (wm E ad S ++ X) s.heap := hP
  have hown : s.vm.findClass R_M = some m.cls := hown
  have b4 : ∀ (n : Nat) (x1 : Int32) (x2 : Int32) (x3 : Int32), (UP n (S.2.1 0 34) x3) → ∀ (ls : Array Slot), lv_has ls 4 [(0, .ref (ad 0)), (1, .int x1), (2, .int x2), (3, .int x3)] → (s_M_pairsWith S a1) = s_M_pairsWith_b4 S n x1 x2 x3 → W p l e (rk 0 0) s m args below meth c s.heap [] 0 0 Q (F0 m 4 ls []) := by
    intro n4
    induction n4 with
    | zero => intro x1 x2 x3 hv; exact absurd hv (UP_z)
    | succ n4 ih4 =>
      intro x1 x2 x3 hv ls hl hq
      refine lv_iload_n hx hb d_M_pairsWith_4 rfl (lv_at hl 3 rfl) ?_
      refine lv_aload_n hx hb d_M_pairsWith_5 rfl (lv_at hl 0 rfl) ?_
      refine g_M_g hx hb hts hown hK hP d_M_pairsWith_6 ?_
      refine lv_bipush (v := (34 : Int32)) hx hb d_M_pairsWith_9 rfl ?_
      refine lm_g hx hb hK hP (k := 34) (v := (S.2.1 0 34)) rfl rfl (vin_k (by decide)) d_M_pairsWith_11 ?_
      refine lv_icmp_ge (tgt := 55) hx hb d_M_pairsWith_12 (by decide) (fun c_12 => ?_) (fun c_12 => ?_)
      · refine lv_iload_n hx hb d_M_pairsWith_55 rfl (lv_at hl 2 rfl) ?_
        exact hend _ _ _ (by rw [hq, s_M_pairsWith_b4, if_pos c_12]) d_M_pairsWith_56
      · refine lv_iload_n hx hb d_M_pairsWith_15 rfl (lv_at hl 2 rfl) ?_
        refine lv_aload_n hx hb d_M_pairsWith_16 rfl (lv_at hl 0 rfl) ?_
        refine g_M_g hx hb hts hown hK hP d_M_pairsWith_17 ?_
        refine lv_bipush (v := (35 : Int32)) hx hb d_M_pairsWith_20 rfl ?_
        refine lv_iload_n hx hb d_M_pairsWith_22 rfl (lv_at hl 3 rfl) ?_
        refine lv_iadd hx hb d_M_pairsWith_23 ?_
        refine lm_g hx hb hK hP (k := ((35 : Int32) + x3).toNatClampNeg) (v := (S.2.1 0 ((35 : Int32) + x3).toNatClampNeg)) rfl rfl (ix_add9 (w9_of hv.2.2 c_12 hG) (by decide)) d_M_pairsWith_24 ?_
        refine lv_iload_n hx hb d_M_pairsWith_25 rfl (lv_at hl 1 rfl) ?_
        refine lv_icmp_eq (tgt := 42) hx hb d_M_pairsWith_26 (by decide) (fun c_26 => ?_) (fun c_26 => ?_)
        · refine lv_iconst (v := (1 : Int32)) hx hb d_M_pairsWith_42 rfl ?_
          refine lv_goto (tgt := 47) hx hb d_M_pairsWith_43 (by decide) ?_
          refine lv_iadd hx hb d_M_pairsWith_47 ?_
          refine lv_istore_n (lv' := [(2, .int (x2 + (1 : Int32))), (0, .ref (ad 0)), (1, .int x1), (3, .int x3)]) hx hb d_M_pairsWith_48 rfl hl (by decide) rfl (fun ls hl => ?_)
          refine lv_iinc (v := (x3 + 1)) (lv' := [(3, .int (x3 + 1)), (2, .int (x2 + (1 : Int32))), (0, .ref (ad 0)), (1, .int x1)]) hx hb d_M_pairsWith_49 hl (k := 3) rfl rfl (by decide) rfl (fun ls hl => ?_)
          refine lv_goto (tgt := 4) hx hb d_M_pairsWith_52 (by decide) ?_
          exact ih4 x1 (x2 + (1 : Int32)) (x3 + 1) (UP_up hv c_12) ls (lv_sub hl [2, 3, 1, 0] rfl) (by rw [hq, s_M_pairsWith_b4, if_neg c_12, if_pos c_26])
        · refine lv_aload_n hx hb d_M_pairsWith_29 rfl (lv_at hl 0 rfl) ?_
          refine g_M_g hx hb hts hown hK hP d_M_pairsWith_30 ?_
          refine lv_bipush (v := (44 : Int32)) hx hb d_M_pairsWith_33 rfl ?_
          refine lv_iload_n hx hb d_M_pairsWith_35 rfl (lv_at hl 3 rfl) ?_
          refine lv_iadd hx hb d_M_pairsWith_36 ?_
          refine lm_g hx hb hK hP (k := ((44 : Int32) + x3).toNatClampNeg) (v := (S.2.1 0 ((44 : Int32) + x3).toNatClampNeg)) rfl rfl (ix_add9 (w9_of hv.2.2 c_12 hG) (by decide)) d_M_pairsWith_37 ?_
          refine lv_iload_n hx hb d_M_pairsWith_38 rfl (lv_at hl 1 rfl) ?_
          refine lv_icmp_ne (tgt := 46) hx hb d_M_pairsWith_39 (by decide) (fun c_39 => ?_) (fun c_39 => ?_)
          · refine lv_iconst (v := (0 : Int32)) hx hb d_M_pairsWith_46 rfl ?_
            refine lv_iadd hx hb d_M_pairsWith_47 ?_
            refine lv_istore_n (lv' := [(2, .int (x2 + (0 : Int32))), (0, .ref (ad 0)), (1, .int x1), (3, .int x3)]) hx hb d_M_pairsWith_48 rfl hl (by decide) rfl (fun ls hl => ?_)
            refine lv_iinc (v := (x3 + 1)) (lv' := [(3, .int (x3 + 1)), (2, .int (x2 + (0 : Int32))), (0, .ref (ad 0)), (1, .int x1)]) hx hb d_M_pairsWith_49 hl (k := 3) rfl rfl (by decide) rfl (fun ls hl => ?_)
            refine lv_goto (tgt := 4) hx hb d_M_pairsWith_52 (by decide) ?_
            exact ih4 x1 (x2 + (0 : Int32)) (x3 + 1) (UP_up hv c_12) ls (lv_sub hl [2, 3, 1, 0] rfl) (by rw [hq, s_M_pairsWith_b4, if_neg c_12, if_neg c_26, if_neg c_39])
          · refine lv_iconst (v := (1 : Int32)) hx hb d_M_pairsWith_42 rfl ?_
            refine lv_goto (tgt := 47) hx hb d_M_pairsWith_43 (by decide) ?_
            refine lv_iadd hx hb d_M_pairsWith_47 ?_
            refine lv_istore_n (lv' := [(2, .int (x2 + (1 : Int32))), (0, .ref (ad 0)), (1, .int x1), (3, .int x3)]) hx hb d_M_pairsWith_48 rfl hl (by decide) rfl (fun ls hl => ?_)
            refine lv_iinc (v := (x3 + 1)) (lv' := [(3, .int (x3 + 1)), (2, .int (x2 + (1 : Int32))), (0, .ref (ad 0)), (1, .int x1)]) hx hb d_M_pairsWith_49 hl (k := 3) rfl rfl (by decide) rfl (fun ls hl => ?_)
            refine lv_goto (tgt := 4) hx hb d_M_pairsWith_52 (by decide) ?_
            exact ih4 x1 (x2 + (1 : Int32)) (x3 + 1) (UP_up hv c_12) ls (lv_sub hl [2, 3, 1, 0] rfl) (by rw [hq, s_M_pairsWith_b4, if_neg c_12, if_neg c_26, if_pos c_39])
  refine lv_iconst (v := (0 : Int32)) hx hb d_M_pairsWith_0 rfl ?_
  refine lv_istore_n (lv' := [(2, .int (0 : Int32)), (0, .ref (ad 0)), (1, .int a1)]) hx hb d_M_pairsWith_1 rfl hl (by decide) rfl (fun ls hl => ?_)
  refine lv_iconst (v := (0 : Int32)) hx hb d_M_pairsWith_2 rfl ?_
  refine lv_istore_n (lv' := [(3, .int (0 : Int32)), (2, .int (0 : Int32)), (0, .ref (ad 0)), (1, .int a1)]) hx hb d_M_pairsWith_3 rfl hl (by decide) rfl (fun ls hl => ?_)
  exact b4 ((S.2.1 0 34).toInt.toNat + 1) a1 (0 : Int32) (0 : Int32) (UP_in (by decide)) ls (lv_sub hl [2, 3, 1, 0] rfl) (by rw [s_M_pairsWith])

def s_M_of (S : St) (a1 : Int32) (a2 : Int32) : Int32 := (if (s_M_isWheel S a1) = 0 then (-1000 : Int32) else (if a2 = 0 then (s_M_teeth S a1) else (if a2 = 1 then (S.2.1 0 ((17 : Int32) + a1).toNatClampNeg) else (if a2 = 2 then (if (s_M_isUndercut S a1) = 0 then (0 : Int32) else (1 : Int32)) else (if a2 = 3 then (if (s_M_isPointed S a1) = 0 then (0 : Int32) else (1 : Int32)) else (if a2 = 4 then (s_M_leastShift S a1) else (if a2 = 5 then (s_M_pairsWith S a1) else (-1000 : Int32))))))))
set_option maxRecDepth 20000 in
theorem c_M_of (l : Launch) (E : Cx) (ad : Nat → Nat) (X : va_W) (S : St) (a1 : Int32) (a2 : Int32) (hG : GI (S.2.1 0)) : Met l y_M_of (Cond.code y_M_of b_M_of 3 (some .int) :: TB) (rk 3 64) (va_Pc [.ref (ad 0), .int a1, .int a2] (preR E (wm E ad S ++ X))) (vp_Si (fun r => r = (s_M_of S a1 a2))) 0 0 (fun _ => False) := by
  refine w_roI rfl (Nat.le_of_ble_eq_true rfl) rfl ?_
  intro p e s m args below meth c Q ls hx hb hml hts hown hP hK hl hend
  have hl : lv_has ls 3 [(0, .ref (ad 0)), (1, .int a1), (2, .int a2)] := hl
  have hP : va_P E.1 vwCl (wm E ad S ++ X) s.heap := hP
  have hown : s.vm.findClass R_M = some m.cls := hown
  refine lv_aload_n hx hb d_M_of_0 rfl (lv_at hl 0 rfl) ?_
  refine lv_iload_n hx hb d_M_of_1 rfl (lv_at hl 1 rfl) ?_
  refine k_vi (rest := []) (c_M_isWheel l E ad X S a1) mi_M_isWheel ml_M_66 hx hb hml hts hown hK hP rvM hl ⟨rfl, rfl⟩ ⟨(Nat.le_of_ble_eq_true rfl), (Nat.le_of_ble_eq_true rfl)⟩ ⟨Nat.zero_le _, Nat.zero_le _⟩ rfl (Nat.le_of_ble_eq_true rfl) rfl d_M_of_2 ?_
  refine lv_if_ne (tgt := 12) hx hb d_M_of_5 (by decide) (fun c_5 => ?_) (fun c_5 => ?_)
  · refine lv_iload_n hx hb d_M_of_12 rfl (lv_at hl 2 rfl) ?_
    by_cases c_13_0 : a2 = (0 : Int32)
    · refine lv_tableIn (x := a2) (off := 39) (tgt := 52) hx hb d_M_of_13 (by rw [c_13_0]; decide) (by rw [c_13_0]; decide) (by rw [c_13_0]; rfl) (by decide) ?_
      refine lv_aload_n hx hb d_M_of_52 rfl (lv_at hl 0 rfl) ?_
      refine lv_iload_n hx hb d_M_of_53 rfl (lv_at hl 1 rfl) ?_
      refine k_vi (rest := []) (c_M_teeth l E ad X S a1 (isW16 hG c_5)) mi_M_teeth ml_M_50 hx hb hml hts hown hK hP rvM hl ⟨rfl, rfl⟩ ⟨(Nat.le_of_ble_eq_true rfl), (Nat.le_of_ble_eq_true rfl)⟩ ⟨Nat.zero_le _, Nat.zero_le _⟩ rfl (Nat.le_of_ble_eq_true rfl) rfl d_M_of_54 ?_
      exact hend _ _ _ (by rw [s_M_of, if_neg c_5, if_pos c_13_0]) d_M_of_57
    by_cases c_13_1 : a2 = (1 : Int32)
    · refine lv_tableIn (x := a2) (off := 45) (tgt := 58) hx hb d_M_of_13 (by rw [c_13_1]; decide) (by rw [c_13_1]; decide) (by rw [c_13_1]; rfl) (by decide) ?_
      refine lv_aload_n hx hb d_M_of_58 rfl (lv_at hl 0 rfl) ?_
      refine g_M_g hx hb hts hown hK hP d_M_of_59 ?_
      refine lv_bipush (v := (17 : Int32)) hx hb d_M_of_62 rfl ?_
      refine lv_iload_n hx hb d_M_of_64 rfl (lv_at hl 1 rfl) ?_
      refine lv_iadd hx hb d_M_of_65 ?_
      refine lm_g hx hb hK hP (k := ((17 : Int32) + a1).toNatClampNeg) (v := (S.2.1 0 ((17 : Int32) + a1).toNatClampNeg)) rfl rfl (ix_add (isW16 hG c_5) (by decide)) d_M_of_66 ?_
      exact hend _ _ _ (by rw [s_M_of, if_neg c_5, if_neg c_13_0, if_pos c_13_1]) d_M_of_67
    by_cases c_13_2 : a2 = (2 : Int32)
    · refine lv_tableIn (x := a2) (off := 55) (tgt := 68) hx hb d_M_of_13 (by rw [c_13_2]; decide) (by rw [c_13_2]; decide) (by rw [c_13_2]; rfl) (by decide) ?_
      refine lv_aload_n hx hb d_M_of_68 rfl (lv_at hl 0 rfl) ?_
      refine lv_iload_n hx hb d_M_of_69 rfl (lv_at hl 1 rfl) ?_
      refine k_vi (rest := []) (c_M_isUndercut l E ad X S a1 hG (isW16 hG c_5)) mi_M_isUndercut ml_M_87 hx hb hml hts hown hK hP rvM hl ⟨rfl, rfl⟩ ⟨(Nat.le_of_ble_eq_true rfl), (Nat.le_of_ble_eq_true rfl)⟩ ⟨Nat.zero_le _, Nat.zero_le _⟩ rfl (Nat.le_of_ble_eq_true rfl) rfl d_M_of_70 ?_
      refine lv_if_eq (tgt := 80) hx hb d_M_of_73 (by decide) (fun c_73 => ?_) (fun c_73 => ?_)
      · refine lv_iconst (v := (0 : Int32)) hx hb d_M_of_80 rfl ?_
        exact hend _ _ _ (by rw [s_M_of, if_neg c_5, if_neg c_13_0, if_neg c_13_1, if_pos c_13_2, if_pos c_73]) d_M_of_81
      · refine lv_iconst (v := (1 : Int32)) hx hb d_M_of_76 rfl ?_
        refine lv_goto (tgt := 81) hx hb d_M_of_77 (by decide) ?_
        exact hend _ _ _ (by rw [s_M_of, if_neg c_5, if_neg c_13_0, if_neg c_13_1, if_pos c_13_2, if_neg c_73]) d_M_of_81
    by_cases c_13_3 : a2 = (3 : Int32)
    · refine lv_tableIn (x := a2) (off := 69) (tgt := 82) hx hb d_M_of_13 (by rw [c_13_3]; decide) (by rw [c_13_3]; decide) (by rw [c_13_3]; rfl) (by decide) ?_
      refine lv_aload_n hx hb d_M_of_82 rfl (lv_at hl 0 rfl) ?_
      refine lv_iload_n hx hb d_M_of_83 rfl (lv_at hl 1 rfl) ?_
      refine k_vi (rest := []) (c_M_isPointed l E ad X S a1 (isW16 hG c_5)) mi_M_isPointed ml_M_90 hx hb hml hts hown hK hP rvM hl ⟨rfl, rfl⟩ ⟨(Nat.le_of_ble_eq_true rfl), (Nat.le_of_ble_eq_true rfl)⟩ ⟨Nat.zero_le _, Nat.zero_le _⟩ rfl (Nat.le_of_ble_eq_true rfl) rfl d_M_of_84 ?_
      refine lv_if_eq (tgt := 94) hx hb d_M_of_87 (by decide) (fun c_87 => ?_) (fun c_87 => ?_)
      · refine lv_iconst (v := (0 : Int32)) hx hb d_M_of_94 rfl ?_
        exact hend _ _ _ (by rw [s_M_of, if_neg c_5, if_neg c_13_0, if_neg c_13_1, if_neg c_13_2, if_pos c_13_3, if_pos c_87]) d_M_of_95
      · refine lv_iconst (v := (1 : Int32)) hx hb d_M_of_90 rfl ?_
        refine lv_goto (tgt := 95) hx hb d_M_of_91 (by decide) ?_
        exact hend _ _ _ (by rw [s_M_of, if_neg c_5, if_neg c_13_0, if_neg c_13_1, if_neg c_13_2, if_pos c_13_3, if_neg c_87]) d_M_of_95
    by_cases c_13_4 : a2 = (4 : Int32)
    · refine lv_tableIn (x := a2) (off := 83) (tgt := 96) hx hb d_M_of_13 (by rw [c_13_4]; decide) (by rw [c_13_4]; decide) (by rw [c_13_4]; rfl) (by decide) ?_
      refine lv_aload_n hx hb d_M_of_96 rfl (lv_at hl 0 rfl) ?_
      refine lv_iload_n hx hb d_M_of_97 rfl (lv_at hl 1 rfl) ?_
      refine k_vi (rest := []) (c_M_leastShift l E ad X S a1 hG (isW16 hG c_5)) mi_M_leastShift ml_M_93 hx hb hml hts hown hK hP rvM hl ⟨rfl, rfl⟩ ⟨(Nat.le_of_ble_eq_true rfl), (Nat.le_of_ble_eq_true rfl)⟩ ⟨Nat.zero_le _, Nat.zero_le _⟩ rfl (Nat.le_of_ble_eq_true rfl) rfl d_M_of_98 ?_
      exact hend _ _ _ (by rw [s_M_of, if_neg c_5, if_neg c_13_0, if_neg c_13_1, if_neg c_13_2, if_neg c_13_3, if_pos c_13_4]) d_M_of_101
    by_cases c_13_5 : a2 = (5 : Int32)
    · refine lv_tableIn (x := a2) (off := 89) (tgt := 102) hx hb d_M_of_13 (by rw [c_13_5]; decide) (by rw [c_13_5]; decide) (by rw [c_13_5]; rfl) (by decide) ?_
      refine lv_aload_n hx hb d_M_of_102 rfl (lv_at hl 0 rfl) ?_
      refine lv_iload_n hx hb d_M_of_103 rfl (lv_at hl 1 rfl) ?_
      refine k_vi (rest := []) (c_M_pairsWith l E ad X S a1 hG) mi_M_pairsWith ml_M_96 hx hb hml hts hown hK hP rvM hl ⟨rfl, rfl⟩ ⟨(Nat.le_of_ble_eq_true rfl), (Nat.le_of_ble_eq_true rfl)⟩ ⟨Nat.zero_le _, Nat.zero_le _⟩ rfl (Nat.le_of_ble_eq_true rfl) rfl d_M_of_104 ?_
      exact hend _ _ _ (by rw [s_M_of, if_neg c_5, if_neg c_13_0, if_neg c_13_1, if_neg c_13_2, if_neg c_13_3, if_neg c_13_4, if_pos c_13_5]) d_M_of_107
    have kd : W p l e (rk 3 64) s m args below meth c s.heap [] 0 0 Q (F0 m 108 ls []) := by
      refine lv_sipush (v := (-1000 : Int32)) hx hb d_M_of_108 rfl ?_
      exact hend _ _ _ (by rw [s_M_of, if_neg c_5, if_neg c_13_0, if_neg c_13_1, if_neg c_13_2, if_neg c_13_3, if_neg c_13_4, if_neg c_13_5]) d_M_of_111
    have n_0 := lv_neT c_13_0 (a := 0) rfl
    have n_1 := lv_neT c_13_1 (a := 1) rfl
    have n_2 := lv_neT c_13_2 (a := 2) rfl
    have n_3 := lv_neT c_13_3 (a := 3) rfl
    have n_4 := lv_neT c_13_4 (a := 4) rfl
    have n_5 := lv_neT c_13_5 (a := 5) rfl
    exact lv_tableOut (x := a2) (tgt := 108) hx hb d_M_of_13 (by omega) (by decide) kd
  · refine lv_sipush (v := (-1000 : Int32)) hx hb d_M_of_8 rfl ?_
    exact hend _ _ _ (by rw [s_M_of, if_pos c_5]) d_M_of_11

def s_M_fewest_b39 (S : St) (x2 : Int32) : Int32 := (if x2 = (100 : Int32) then (-2 : Int32) else x2)
def s_M_fewest_b18 (S : St) : Nat → Int32 → Int32 → Int32
  | 0, _, _ => 0
  | n + 1, x1, x2 => (if (100 : Int32) ≤ x2 then (s_M_fewest_b39 S x2) else (if (s_M_isCut S x2 x1) = 0 then (s_M_fewest_b39 S x2) else (s_M_fewest_b18 S n x1 (x2 + 1))))
def s_M_fewest (S : St) (a1 : Int32) : Int32 := (if (s_M_in (a1.toInt64) (-50 : Int64) (100 : Int64)) = 0 then (-1 : Int32) else (s_M_fewest_b18 S (101) a1 (5 : Int32)))
set_option maxRecDepth 20000 in
theorem c_M_fewest (l : Launch) (E : Cx) (ad : Nat → Nat) (X : va_W) (S : St) (a1 : Int32) (hG : GI (S.2.1 0)) : Met l y_M_fewest (Cond.code y_M_fewest b_M_fewest 3 (some .int) :: TB) (rk 2 42) (va_Pc [.ref (ad 0), .int a1] (preR E (wm E ad S ++ X))) (vp_Si (fun r => r = (s_M_fewest S a1))) 0 0 (fun _ => False) := by
  refine w_roI rfl (Nat.le_of_ble_eq_true rfl) rfl ?_
  intro p e s m args below meth c Q ls hx hb hml hts hown hP hK hl hend
  have hl : lv_has ls 3 [(0, .ref (ad 0)), (1, .int a1)] := hl
  have hP : va_P E.1 vwCl (wm E ad S ++ X) s.heap := hP
  have hown : s.vm.findClass R_M = some m.cls := hown
  have b39 : ∀ (x2 : Int32), ∀ (ls : Array Slot), lv_has ls 3 [(2, .int x2)] → (s_M_fewest S a1) = s_M_fewest_b39 S x2 → W p l e (rk 2 42) s m args below meth c s.heap [] 0 0 Q (F0 m 39 ls []) := by
    intro x2 ls hl hq
    refine lv_iload_n hx hb d_M_fewest_39 rfl (lv_at hl 0 rfl) ?_
    refine lv_bipush (v := (100 : Int32)) hx hb d_M_fewest_40 rfl ?_
    refine lv_icmp_ne (tgt := 50) hx hb d_M_fewest_42 (by decide) (fun c_42 => ?_) (fun c_42 => ?_)
    · refine lv_iload_n hx hb d_M_fewest_50 rfl (lv_at hl 0 rfl) ?_
      exact hend _ _ _ (by rw [hq, s_M_fewest_b39, if_neg c_42]) d_M_fewest_51
    · refine lv_bipush (v := (-2 : Int32)) hx hb d_M_fewest_45 rfl ?_
      refine lv_goto (tgt := 51) hx hb d_M_fewest_47 (by decide) ?_
      exact hend _ _ _ (by rw [hq, s_M_fewest_b39, if_pos c_42]) d_M_fewest_51
  have b18 : ∀ (n : Nat) (x1 : Int32) (x2 : Int32), (UP n 100 x2) → ∀ (ls : Array Slot), lv_has ls 3 [(0, .ref (ad 0)), (1, .int x1), (2, .int x2)] → (s_M_fewest S a1) = s_M_fewest_b18 S n x1 x2 → W p l e (rk 2 42) s m args below meth c s.heap [] 0 0 Q (F0 m 18 ls []) := by
    intro n18
    induction n18 with
    | zero => intro x1 x2 hv; exact absurd hv (UP_z)
    | succ n18 ih18 =>
      intro x1 x2 hv ls hl hq
      refine lv_iload_n hx hb d_M_fewest_18 rfl (lv_at hl 2 rfl) ?_
      refine lv_bipush (v := (100 : Int32)) hx hb d_M_fewest_19 rfl ?_
      refine lv_icmp_ge (tgt := 39) hx hb d_M_fewest_21 (by decide) (fun c_21 => ?_) (fun c_21 => ?_)
      · exact b39 x2 ls (lv_sub hl [2] rfl) (by rw [hq, s_M_fewest_b18, if_pos c_21])
      · refine lv_aload_n hx hb d_M_fewest_24 rfl (lv_at hl 0 rfl) ?_
        refine lv_iload_n hx hb d_M_fewest_25 rfl (lv_at hl 2 rfl) ?_
        refine lv_iload_n hx hb d_M_fewest_26 rfl (lv_at hl 1 rfl) ?_
        refine k_vi (rest := []) (c_M_isCut l E ad X S x2 x1 hG) mi_M_isCut ml_M_83 hx hb hml hts hown hK hP rvM hl ⟨rfl, rfl⟩ ⟨(Nat.le_of_ble_eq_true rfl), (Nat.le_of_ble_eq_true rfl)⟩ ⟨Nat.zero_le _, Nat.zero_le _⟩ rfl (Nat.le_of_ble_eq_true rfl) rfl d_M_fewest_27 ?_
        refine lv_if_eq (tgt := 39) hx hb d_M_fewest_30 (by decide) (fun c_30 => ?_) (fun c_30 => ?_)
        · exact b39 x2 ls (lv_sub hl [2] rfl) (by rw [hq, s_M_fewest_b18, if_neg c_21, if_pos c_30])
        · refine lv_iinc (v := (x2 + 1)) (lv' := [(2, .int (x2 + 1)), (0, .ref (ad 0)), (1, .int x1)]) hx hb d_M_fewest_33 hl (k := 2) rfl rfl (by decide) rfl (fun ls hl => ?_)
          refine lv_goto (tgt := 18) hx hb d_M_fewest_36 (by decide) ?_
          exact ih18 x1 (x2 + 1) (UP_up hv c_21) ls (lv_sub hl [1, 2, 0] rfl) (by rw [hq, s_M_fewest_b18, if_neg c_21, if_neg c_30])
  refine lv_iload_n hx hb d_M_fewest_0 rfl (lv_at hl 1 rfl) ?_
  refine lv_i2l hx hb d_M_fewest_1 rfl ?_
  refine lv_ldc2 (v := (-50 : Int64)) hx hb hown (hts _ kl_M_69) d_M_fewest_2 ?_
  refine lv_ldc2 (v := (100 : Int64)) hx hb hown (hts _ kl_M_71) d_M_fewest_5 ?_
  refine k_si (rest := []) (c_M_in l E (a1.toInt64) (-50 : Int64) (100 : Int64)) mi_M_in ml_M_46 hx hb hml hts hown hK va_nil hl ⟨rfl, rfl⟩ ⟨(Nat.le_of_ble_eq_true rfl), (Nat.le_of_ble_eq_true rfl)⟩ ⟨Nat.zero_le _, Nat.zero_le _⟩ rfl (Nat.le_of_ble_eq_true rfl) rfl d_M_fewest_8 ?_
  refine lv_if_ne (tgt := 16) hx hb d_M_fewest_11 (by decide) (fun c_11 => ?_) (fun c_11 => ?_)
  · refine lv_iconst (v := (5 : Int32)) hx hb d_M_fewest_16 rfl ?_
    refine lv_istore_n (lv' := [(2, .int (5 : Int32)), (0, .ref (ad 0)), (1, .int a1)]) hx hb d_M_fewest_17 rfl hl (by decide) rfl (fun ls hl => ?_)
    exact b18 (101) a1 (5 : Int32) (UP_in' (by decide) (by decide)) ls (lv_sub hl [1, 2, 0] rfl) (by rw [s_M_fewest, if_neg c_11])
  · refine lv_iconst (v := (-1 : Int32)) hx hb d_M_fewest_14 rfl ?_
    exact hend _ _ _ (by rw [s_M_fewest, if_pos c_11]) d_M_fewest_15

def s_M_isFirst_b4 (S : St) : Nat → Int32 → Int32 → Int32 → Int32
  | 0, _, _, _ => 0
  | n + 1, x1, x2, x3 => (if x1 ≤ x3 then x2 else (if x2 = 0 then (s_M_isFirst_b4 S n x1 (0 : Int32) (x3 + 1)) else (if (s_M_teeth S x3) = (s_M_teeth S x1) then (s_M_isFirst_b4 S n x1 (0 : Int32) (x3 + 1)) else (s_M_isFirst_b4 S n x1 (1 : Int32) (x3 + 1)))))
def s_M_isFirst (S : St) (a1 : Int32) : Int32 := (s_M_isFirst_b4 S ((a1).toInt.toNat + 1) a1 (1 : Int32) (0 : Int32))
theorem z_M_isFirst_b4 (S : St) (n : Nat) (x1 : Int32) (x2 : Int32) (x3 : Int32) (hx2 : x2 = 0 ∨ x2 = 1) : (s_M_isFirst_b4 S n x1 x2 x3) = 0 ∨ (s_M_isFirst_b4 S n x1 x2 x3) = 1 := by
  induction n generalizing x1 x2 x3 with
  | zero => exact Or.inl rfl
  | succ n ih => rw [s_M_isFirst_b4]; exact (ite_z hx2 (ite_z (ih x1 (0 : Int32) (x3 + 1) (Or.inl rfl)) (ite_z (ih x1 (0 : Int32) (x3 + 1) (Or.inl rfl)) (ih x1 (1 : Int32) (x3 + 1) (Or.inr rfl)))))
theorem z_M_isFirst (S : St) (a1 : Int32) : (s_M_isFirst S a1) = 0 ∨ (s_M_isFirst S a1) = 1 := by rw [s_M_isFirst]; exact (z_M_isFirst_b4 S ((a1).toInt.toNat + 1) a1 (1 : Int32) (0 : Int32) (Or.inr rfl))
set_option maxRecDepth 20000 in
theorem c_M_isFirst (l : Launch) (E : Cx) (ad : Nat → Nat) (X : va_W) (S : St) (a1 : Int32) (hw : w16 a1) : Met l y_M_isFirst (Cond.code y_M_isFirst b_M_isFirst 4 (some .boolean) :: TB) (rk 1 21) (va_Pc [.ref (ad 0), .int a1] (preR E (wm E ad S ++ X))) (vp_Si (fun r => r = (s_M_isFirst S a1))) 0 0 (fun _ => False) := by
  refine w_roI rfl (Nat.le_of_ble_eq_true rfl) (k_nb (z_M_isFirst S a1)) ?_
  intro p e s m args below meth c Q ls hx hb hml hts hown hP hK hl hend
  have hl : lv_has ls 4 [(0, .ref (ad 0)), (1, .int a1)] := hl
  have hP : va_P E.1 vwCl (wm E ad S ++ X) s.heap := hP
  have hown : s.vm.findClass R_M = some m.cls := hown
  have b4 : ∀ (n : Nat) (x1 : Int32) (x2 : Int32) (x3 : Int32), (UP n x1 x3) → (w16 x1) → (x2 = 0 ∨ x2 = 1) → ∀ (ls : Array Slot), lv_has ls 4 [(0, .ref (ad 0)), (1, .int x1), (2, .int x2), (3, .int x3)] → (s_M_isFirst S a1) = s_M_isFirst_b4 S n x1 x2 x3 → W p l e (rk 1 21) s m args below meth c s.heap [] 0 0 Q (F0 m 4 ls []) := by
    intro n4
    induction n4 with
    | zero => intro x1 x2 x3 hv; exact absurd hv (UP_z)
    | succ n4 ih4 =>
      intro x1 x2 x3 hv hw1 hx2 ls hl hq
      refine lv_iload_n hx hb d_M_isFirst_4 rfl (lv_at hl 3 rfl) ?_
      refine lv_iload_n hx hb d_M_isFirst_5 rfl (lv_at hl 1 rfl) ?_
      refine lv_icmp_ge (tgt := 38) hx hb d_M_isFirst_6 (by decide) (fun c_6 => ?_) (fun c_6 => ?_)
      · refine lv_iload_n hx hb d_M_isFirst_38 rfl (lv_at hl 2 rfl) ?_
        exact hend _ _ _ (by rw [hq, s_M_isFirst_b4, if_pos c_6]) d_M_isFirst_39
      · refine lv_iload_n hx hb d_M_isFirst_9 rfl (lv_at hl 2 rfl) ?_
        refine lv_if_eq (tgt := 30) hx hb d_M_isFirst_10 (by decide) (fun c_10 => ?_) (fun c_10 => ?_)
        · refine lv_iconst (v := (0 : Int32)) hx hb d_M_isFirst_30 rfl ?_
          refine lv_istore_n (lv' := [(2, .int (0 : Int32)), (0, .ref (ad 0)), (1, .int x1), (3, .int x3)]) hx hb d_M_isFirst_31 rfl hl (by decide) rfl (fun ls hl => ?_)
          refine lv_iinc (v := (x3 + 1)) (lv' := [(3, .int (x3 + 1)), (2, .int (0 : Int32)), (0, .ref (ad 0)), (1, .int x1)]) hx hb d_M_isFirst_32 hl (k := 3) rfl rfl (by decide) rfl (fun ls hl => ?_)
          refine lv_goto (tgt := 4) hx hb d_M_isFirst_35 (by decide) ?_
          exact ih4 x1 (0 : Int32) (x3 + 1) (UP_up hv c_6) (by assumption) (Or.inl rfl) ls (lv_sub hl [2, 3, 1, 0] rfl) (by rw [hq, s_M_isFirst_b4, if_neg c_6, if_pos c_10])
        · refine lv_aload_n hx hb d_M_isFirst_13 rfl (lv_at hl 0 rfl) ?_
          refine lv_iload_n hx hb d_M_isFirst_14 rfl (lv_at hl 3 rfl) ?_
          refine k_vi (rest := []) (c_M_teeth l E ad X S x3 (w16_lt hv.2.2 c_6 hw1)) mi_M_teeth ml_M_50 hx hb hml hts hown hK hP rvM hl ⟨rfl, rfl⟩ ⟨(Nat.le_of_ble_eq_true rfl), (Nat.le_of_ble_eq_true rfl)⟩ ⟨Nat.zero_le _, Nat.zero_le _⟩ rfl (Nat.le_of_ble_eq_true rfl) rfl d_M_isFirst_15 ?_
          refine lv_aload_n hx hb d_M_isFirst_18 rfl (lv_at hl 0 rfl) ?_
          refine lv_iload_n hx hb d_M_isFirst_19 rfl (lv_at hl 1 rfl) ?_
          refine k_vi (rest := [.int (s_M_teeth S x3)]) (c_M_teeth l E ad X S x1 hw1) mi_M_teeth ml_M_50 hx hb hml hts hown hK hP rvM hl ⟨rfl, rfl⟩ ⟨(Nat.le_of_ble_eq_true rfl), (Nat.le_of_ble_eq_true rfl)⟩ ⟨Nat.zero_le _, Nat.zero_le _⟩ rfl (Nat.le_of_ble_eq_true rfl) rfl d_M_isFirst_20 ?_
          refine lv_icmp_eq (tgt := 30) hx hb d_M_isFirst_23 (by decide) (fun c_23 => ?_) (fun c_23 => ?_)
          · refine lv_iconst (v := (0 : Int32)) hx hb d_M_isFirst_30 rfl ?_
            refine lv_istore_n (lv' := [(2, .int (0 : Int32)), (0, .ref (ad 0)), (1, .int x1), (3, .int x3)]) hx hb d_M_isFirst_31 rfl hl (by decide) rfl (fun ls hl => ?_)
            refine lv_iinc (v := (x3 + 1)) (lv' := [(3, .int (x3 + 1)), (2, .int (0 : Int32)), (0, .ref (ad 0)), (1, .int x1)]) hx hb d_M_isFirst_32 hl (k := 3) rfl rfl (by decide) rfl (fun ls hl => ?_)
            refine lv_goto (tgt := 4) hx hb d_M_isFirst_35 (by decide) ?_
            exact ih4 x1 (0 : Int32) (x3 + 1) (UP_up hv c_6) (by assumption) (Or.inl rfl) ls (lv_sub hl [2, 3, 1, 0] rfl) (by rw [hq, s_M_isFirst_b4, if_neg c_6, if_neg c_10, if_pos c_23])
          · refine lv_iconst (v := (1 : Int32)) hx hb d_M_isFirst_26 rfl ?_
            refine lv_goto (tgt := 31) hx hb d_M_isFirst_27 (by decide) ?_
            refine lv_istore_n (lv' := [(2, .int (1 : Int32)), (0, .ref (ad 0)), (1, .int x1), (3, .int x3)]) hx hb d_M_isFirst_31 rfl hl (by decide) rfl (fun ls hl => ?_)
            refine lv_iinc (v := (x3 + 1)) (lv' := [(3, .int (x3 + 1)), (2, .int (1 : Int32)), (0, .ref (ad 0)), (1, .int x1)]) hx hb d_M_isFirst_32 hl (k := 3) rfl rfl (by decide) rfl (fun ls hl => ?_)
            refine lv_goto (tgt := 4) hx hb d_M_isFirst_35 (by decide) ?_
            exact ih4 x1 (1 : Int32) (x3 + 1) (UP_up hv c_6) (by assumption) (Or.inr rfl) ls (lv_sub hl [2, 3, 1, 0] rfl) (by rw [hq, s_M_isFirst_b4, if_neg c_6, if_neg c_10, if_neg c_23])
  refine lv_iconst (v := (1 : Int32)) hx hb d_M_isFirst_0 rfl ?_
  refine lv_istore_n (lv' := [(2, .int (1 : Int32)), (0, .ref (ad 0)), (1, .int a1)]) hx hb d_M_isFirst_1 rfl hl (by decide) rfl (fun ls hl => ?_)
  refine lv_iconst (v := (0 : Int32)) hx hb d_M_isFirst_2 rfl ?_
  refine lv_istore_n (lv' := [(3, .int (0 : Int32)), (2, .int (1 : Int32)), (0, .ref (ad 0)), (1, .int a1)]) hx hb d_M_isFirst_3 rfl hl (by decide) rfl (fun ls hl => ?_)
  exact b4 ((a1).toInt.toNat + 1) a1 (1 : Int32) (0 : Int32) (UP_in (by decide)) (by assumption) (Or.inr rfl) ls (lv_sub hl [2, 3, 1, 0] rfl) (by rw [s_M_isFirst])

def s_M_wheels_b71 (S : St) (k18 : Int32 → Int32 → Int32 → Int32) (x1 : Int32) (x2 : Int32) (x3 : Int32) (t0 : Int32) : Int32 := (if t0 = 0 then (k18 x1 (x2 + (0 : Int32)) (x3 + 1)) else (k18 x1 (x2 + (1 : Int32)) (x3 + 1)))
def s_M_wheels_b18 (S : St) : Nat → Int32 → Int32 → Int32 → Int32
  | 0, _, _, _ => 0
  | n + 1, x1, x2, x3 => (if (S.2.1 0 0) ≤ x3 then x2 else (if x1 = 0 then (s_M_wheels_b71 S (fun x1 x2 x3 => s_M_wheels_b18 S n x1 x2 x3) x1 x2 x3 (s_M_isUndercut S x3)) else (if x1 = (1 : Int32) then (s_M_wheels_b71 S (fun x1 x2 x3 => s_M_wheels_b18 S n x1 x2 x3) x1 x2 x3 (s_M_isPointed S x3)) else (if x1 = (2 : Int32) then (s_M_wheels_b71 S (fun x1 x2 x3 => s_M_wheels_b18 S n x1 x2 x3) x1 x2 x3 (s_M_isRing S x3)) else (s_M_wheels_b71 S (fun x1 x2 x3 => s_M_wheels_b18 S n x1 x2 x3) x1 x2 x3 (s_M_isFirst S x3))))))
def s_M_wheels (S : St) (a1 : Int32) : Int32 := (if (s_M_in (a1.toInt64) (0 : Int64) (3 : Int64)) = 0 then (-1 : Int32) else (s_M_wheels_b18 S ((S.2.1 0 0).toInt.toNat + 1) a1 (0 : Int32) (0 : Int32)))
set_option maxRecDepth 20000 in
theorem c_M_wheels (l : Launch) (E : Cx) (ad : Nat → Nat) (X : va_W) (S : St) (a1 : Int32) (hG : GI (S.2.1 0)) : Met l y_M_wheels (Cond.code y_M_wheels b_M_wheels 5 (some .int) :: TB) (rk 3 63) (va_Pc [.ref (ad 0), .int a1] (preR E (wm E ad S ++ X))) (vp_Si (fun r => r = (s_M_wheels S a1))) 0 0 (fun _ => False) := by
  refine w_roI rfl (Nat.le_of_ble_eq_true rfl) rfl ?_
  intro p e s m args below meth c Q ls hx hb hml hts hown hP hK hl hend
  have hl : lv_has ls 5 [(0, .ref (ad 0)), (1, .int a1)] := hl
  have hP : va_P E.1 vwCl (wm E ad S ++ X) s.heap := hP
  have hown : s.vm.findClass R_M = some m.cls := hown
  have b18 : ∀ (n : Nat) (x1 : Int32) (x2 : Int32) (x3 : Int32), (UP n (S.2.1 0 0) x3) → ∀ (ls : Array Slot), lv_has ls 5 [(0, .ref (ad 0)), (1, .int x1), (2, .int x2), (3, .int x3)] → (s_M_wheels S a1) = s_M_wheels_b18 S n x1 x2 x3 → W p l e (rk 3 63) s m args below meth c s.heap [] 0 0 Q (F0 m 18 ls []) := by
    intro n18
    induction n18 with
    | zero => intro x1 x2 x3 hv; exact absurd hv (UP_z)
    | succ n18 ih18 =>
      have b71 : ∀ (x1 : Int32) (x2 : Int32) (x3 : Int32) (t0 : Int32), (UP n18 (S.2.1 0 0) (x3 + 1)) → ∀ (ls : Array Slot), lv_has ls 5 [(0, .ref (ad 0)), (1, .int x1), (2, .int x2), (3, .int x3)] → (s_M_wheels S a1) = s_M_wheels_b71 S (fun x1 x2 x3 => s_M_wheels_b18 S n18 x1 x2 x3) x1 x2 x3 t0 → W p l e (rk 3 63) s m args below meth c s.heap [] 0 0 Q (F0 m 71 ls [.int t0]) := by
        intro x1 x2 x3 t0 hs ls hl hq
        refine lv_istore (lv' := [(4, .int t0), (0, .ref (ad 0)), (1, .int x1), (2, .int x2), (3, .int x3)]) hx hb d_M_wheels_71 hl (by decide) rfl (fun ls hl => ?_)
        refine lv_iload_n hx hb d_M_wheels_73 rfl (lv_at hl 3 rfl) ?_
        refine lv_iload hx hb d_M_wheels_74 (lv_at hl 0 rfl) ?_
        refine lv_if_eq (tgt := 83) hx hb d_M_wheels_76 (by decide) (fun c_76 => ?_) (fun c_76 => ?_)
        · refine lv_iconst (v := (0 : Int32)) hx hb d_M_wheels_83 rfl ?_
          refine lv_iadd hx hb d_M_wheels_84 ?_
          refine lv_istore_n (lv' := [(2, .int (x2 + (0 : Int32))), (4, .int t0), (0, .ref (ad 0)), (1, .int x1), (3, .int x3)]) hx hb d_M_wheels_85 rfl hl (by decide) rfl (fun ls hl => ?_)
          refine lv_iinc (v := (x3 + 1)) (lv' := [(3, .int (x3 + 1)), (2, .int (x2 + (0 : Int32))), (4, .int t0), (0, .ref (ad 0)), (1, .int x1)]) hx hb d_M_wheels_86 hl (k := 4) rfl rfl (by decide) rfl (fun ls hl => ?_)
          refine lv_goto (tgt := 18) hx hb d_M_wheels_89 (by decide) ?_
          exact ih18 x1 (x2 + (0 : Int32)) (x3 + 1) (hs) ls (lv_sub hl [3, 4, 1, 0] rfl) (by rw [hq, s_M_wheels_b71, if_pos c_76])
        · refine lv_iconst (v := (1 : Int32)) hx hb d_M_wheels_79 rfl ?_
          refine lv_goto (tgt := 84) hx hb d_M_wheels_80 (by decide) ?_
          refine lv_iadd hx hb d_M_wheels_84 ?_
          refine lv_istore_n (lv' := [(2, .int (x2 + (1 : Int32))), (4, .int t0), (0, .ref (ad 0)), (1, .int x1), (3, .int x3)]) hx hb d_M_wheels_85 rfl hl (by decide) rfl (fun ls hl => ?_)
          refine lv_iinc (v := (x3 + 1)) (lv' := [(3, .int (x3 + 1)), (2, .int (x2 + (1 : Int32))), (4, .int t0), (0, .ref (ad 0)), (1, .int x1)]) hx hb d_M_wheels_86 hl (k := 4) rfl rfl (by decide) rfl (fun ls hl => ?_)
          refine lv_goto (tgt := 18) hx hb d_M_wheels_89 (by decide) ?_
          exact ih18 x1 (x2 + (1 : Int32)) (x3 + 1) (hs) ls (lv_sub hl [3, 4, 1, 0] rfl) (by rw [hq, s_M_wheels_b71, if_neg c_76])
      intro x1 x2 x3 hv ls hl hq
      refine lv_iload_n hx hb d_M_wheels_18 rfl (lv_at hl 3 rfl) ?_
      refine lv_aload_n hx hb d_M_wheels_19 rfl (lv_at hl 0 rfl) ?_
      refine g_M_g hx hb hts hown hK hP d_M_wheels_20 ?_
      refine lv_iconst (v := (0 : Int32)) hx hb d_M_wheels_23 rfl ?_
      refine lm_g hx hb hK hP (k := 0) (v := (S.2.1 0 0)) rfl rfl (vin_k (by decide)) d_M_wheels_24 ?_
      refine lv_icmp_ge (tgt := 92) hx hb d_M_wheels_25 (by decide) (fun c_25 => ?_) (fun c_25 => ?_)
      · refine lv_iload_n hx hb d_M_wheels_92 rfl (lv_at hl 2 rfl) ?_
        exact hend _ _ _ (by rw [hq, s_M_wheels_b18, if_pos c_25]) d_M_wheels_93
      · refine lv_iload_n hx hb d_M_wheels_28 rfl (lv_at hl 1 rfl) ?_
        refine lv_if_ne (tgt := 40) hx hb d_M_wheels_29 (by decide) (fun c_29 => ?_) (fun c_29 => ?_)
        · refine lv_iload_n hx hb d_M_wheels_40 rfl (lv_at hl 1 rfl) ?_
          refine lv_iconst (v := (1 : Int32)) hx hb d_M_wheels_41 rfl ?_
          refine lv_icmp_ne (tgt := 53) hx hb d_M_wheels_42 (by decide) (fun c_42 => ?_) (fun c_42 => ?_)
          · refine lv_iload_n hx hb d_M_wheels_53 rfl (lv_at hl 1 rfl) ?_
            refine lv_iconst (v := (2 : Int32)) hx hb d_M_wheels_54 rfl ?_
            refine lv_icmp_ne (tgt := 66) hx hb d_M_wheels_55 (by decide) (fun c_55 => ?_) (fun c_55 => ?_)
            · refine lv_aload_n hx hb d_M_wheels_66 rfl (lv_at hl 0 rfl) ?_
              refine lv_iload_n hx hb d_M_wheels_67 rfl (lv_at hl 3 rfl) ?_
              refine k_vi (rest := []) (c_M_isFirst l E ad X S x3 (wl_w16 hG (wl_of hv.2.2 c_25))) mi_M_isFirst ml_M_101 hx hb hml hts hown hK hP rvM hl ⟨rfl, rfl⟩ ⟨(Nat.le_of_ble_eq_true rfl), (Nat.le_of_ble_eq_true rfl)⟩ ⟨Nat.zero_le _, Nat.zero_le _⟩ rfl (Nat.le_of_ble_eq_true rfl) rfl d_M_wheels_68 ?_
              exact b71 x1 x2 x3 (s_M_isFirst S x3) (UP_up hv c_25) ls (lv_sub hl [0, 1, 2, 3] rfl) (by rw [hq, s_M_wheels_b18, if_neg c_25, if_neg c_29, if_neg c_42, if_neg c_55])
            · refine lv_aload_n hx hb d_M_wheels_58 rfl (lv_at hl 0 rfl) ?_
              refine lv_iload_n hx hb d_M_wheels_59 rfl (lv_at hl 3 rfl) ?_
              refine k_vi (rest := []) (c_M_isRing l E ad X S x3 (wl_w16 hG (wl_of hv.2.2 c_25))) mi_M_isRing ml_M_54 hx hb hml hts hown hK hP rvM hl ⟨rfl, rfl⟩ ⟨(Nat.le_of_ble_eq_true rfl), (Nat.le_of_ble_eq_true rfl)⟩ ⟨Nat.zero_le _, Nat.zero_le _⟩ rfl (Nat.le_of_ble_eq_true rfl) rfl d_M_wheels_60 ?_
              refine lv_goto (tgt := 71) hx hb d_M_wheels_63 (by decide) ?_
              exact b71 x1 x2 x3 (s_M_isRing S x3) (UP_up hv c_25) ls (lv_sub hl [0, 1, 2, 3] rfl) (by rw [hq, s_M_wheels_b18, if_neg c_25, if_neg c_29, if_neg c_42, if_pos c_55])
          · refine lv_aload_n hx hb d_M_wheels_45 rfl (lv_at hl 0 rfl) ?_
            refine lv_iload_n hx hb d_M_wheels_46 rfl (lv_at hl 3 rfl) ?_
            refine k_vi (rest := []) (c_M_isPointed l E ad X S x3 (wl_w16 hG (wl_of hv.2.2 c_25))) mi_M_isPointed ml_M_90 hx hb hml hts hown hK hP rvM hl ⟨rfl, rfl⟩ ⟨(Nat.le_of_ble_eq_true rfl), (Nat.le_of_ble_eq_true rfl)⟩ ⟨Nat.zero_le _, Nat.zero_le _⟩ rfl (Nat.le_of_ble_eq_true rfl) rfl d_M_wheels_47 ?_
            refine lv_goto (tgt := 71) hx hb d_M_wheels_50 (by decide) ?_
            exact b71 x1 x2 x3 (s_M_isPointed S x3) (UP_up hv c_25) ls (lv_sub hl [0, 1, 2, 3] rfl) (by rw [hq, s_M_wheels_b18, if_neg c_25, if_neg c_29, if_pos c_42])
        · refine lv_aload_n hx hb d_M_wheels_32 rfl (lv_at hl 0 rfl) ?_
          refine lv_iload_n hx hb d_M_wheels_33 rfl (lv_at hl 3 rfl) ?_
          refine k_vi (rest := []) (c_M_isUndercut l E ad X S x3 hG (wl_w16 hG (wl_of hv.2.2 c_25))) mi_M_isUndercut ml_M_87 hx hb hml hts hown hK hP rvM hl ⟨rfl, rfl⟩ ⟨(Nat.le_of_ble_eq_true rfl), (Nat.le_of_ble_eq_true rfl)⟩ ⟨Nat.zero_le _, Nat.zero_le _⟩ rfl (Nat.le_of_ble_eq_true rfl) rfl d_M_wheels_34 ?_
          refine lv_goto (tgt := 71) hx hb d_M_wheels_37 (by decide) ?_
          exact b71 x1 x2 x3 (s_M_isUndercut S x3) (UP_up hv c_25) ls (lv_sub hl [0, 1, 2, 3] rfl) (by rw [hq, s_M_wheels_b18, if_neg c_25, if_pos c_29])
  refine lv_iload_n hx hb d_M_wheels_0 rfl (lv_at hl 1 rfl) ?_
  refine lv_i2l hx hb d_M_wheels_1 rfl ?_
  refine lv_lconst (v := (0 : Int64)) hx hb d_M_wheels_2 rfl ?_
  refine lv_ldc2 (v := (3 : Int64)) hx hb hown (hts _ kl_M_99) d_M_wheels_3 ?_
  refine k_si (rest := []) (c_M_in l E (a1.toInt64) (0 : Int64) (3 : Int64)) mi_M_in ml_M_46 hx hb hml hts hown hK va_nil hl ⟨rfl, rfl⟩ ⟨(Nat.le_of_ble_eq_true rfl), (Nat.le_of_ble_eq_true rfl)⟩ ⟨Nat.zero_le _, Nat.zero_le _⟩ rfl (Nat.le_of_ble_eq_true rfl) rfl d_M_wheels_6 ?_
  refine lv_if_ne (tgt := 14) hx hb d_M_wheels_9 (by decide) (fun c_9 => ?_) (fun c_9 => ?_)
  · refine lv_iconst (v := (0 : Int32)) hx hb d_M_wheels_14 rfl ?_
    refine lv_istore_n (lv' := [(2, .int (0 : Int32)), (0, .ref (ad 0)), (1, .int a1)]) hx hb d_M_wheels_15 rfl hl (by decide) rfl (fun ls hl => ?_)
    refine lv_iconst (v := (0 : Int32)) hx hb d_M_wheels_16 rfl ?_
    refine lv_istore_n (lv' := [(3, .int (0 : Int32)), (2, .int (0 : Int32)), (0, .ref (ad 0)), (1, .int a1)]) hx hb d_M_wheels_17 rfl hl (by decide) rfl (fun ls hl => ?_)
    exact b18 ((S.2.1 0 0).toInt.toNat + 1) a1 (0 : Int32) (0 : Int32) (UP_in (by decide)) ls (lv_sub hl [2, 3, 1, 0] rfl) (by rw [s_M_wheels, if_neg c_9])
  · refine lv_iconst (v := (-1 : Int32)) hx hb d_M_wheels_12 rfl ?_
    exact hend _ _ _ (by rw [s_M_wheels, if_pos c_9]) d_M_wheels_13

def s_M_count_b4 (S : St) : Nat → Int32 → Int32 → Int32 → Int32
  | 0, _, _, _ => 0
  | n + 1, x1, x2, x3 => (if (S.2.1 0 0) ≤ x3 then (if x1 = 0 then (S.2.1 0 0) else (if x1 = 1 then (S.2.1 0 34) else (if x1 = 2 then (S.1 4) else (if x1 = 3 then (S.2.1 0 33) else (if x1 = 4 then x2 else (-1 : Int32)))))) else (if (s_M_isRing S x3) = 0 then (s_M_count_b4 S n x1 (x2 + (s_M_teeth S x3)) (x3 + 1)) else (s_M_count_b4 S n x1 (x2 + (0 : Int32)) (x3 + 1))))
def s_M_count (S : St) (a1 : Int32) : Int32 := (s_M_count_b4 S ((S.2.1 0 0).toInt.toNat + 1) a1 (0 : Int32) (0 : Int32))
set_option maxRecDepth 20000 in
theorem c_M_count (l : Launch) (E : Cx) (ad : Nat → Nat) (X : va_W) (S : St) (a1 : Int32) (hG : GI (S.2.1 0)) : Met l y_M_count (Cond.code y_M_count b_M_count 4 (some .int) :: TB) (rk 2 42) (va_Pc [.ref (ad 0), .int a1] (preR E (wm E ad S ++ X))) (vp_Si (fun r => r = (s_M_count S a1))) 0 0 (fun _ => False) := by
  refine w_roI rfl (Nat.le_of_ble_eq_true rfl) rfl ?_
  intro p e s m args below meth c Q ls hx hb hml hts hown hP hK hl hend
  have hl : lv_has ls 4 [(0, .ref (ad 0)), (1, .int a1)] := hl
  have hP : va_P E.1 vwCl (wm E ad S ++ X) s.heap := hP
  have hown : s.vm.findClass R_M = some m.cls := hown
  have b4 : ∀ (n : Nat) (x1 : Int32) (x2 : Int32) (x3 : Int32), (UP n (S.2.1 0 0) x3) → ∀ (ls : Array Slot), lv_has ls 4 [(0, .ref (ad 0)), (1, .int x1), (2, .int x2), (3, .int x3)] → (s_M_count S a1) = s_M_count_b4 S n x1 x2 x3 → W p l e (rk 2 42) s m args below meth c s.heap [] 0 0 Q (F0 m 4 ls []) := by
    intro n4
    induction n4 with
    | zero => intro x1 x2 x3 hv; exact absurd hv (UP_z)
    | succ n4 ih4 =>
      intro x1 x2 x3 hv ls hl hq
      refine lv_iload_n hx hb d_M_count_4 rfl (lv_at hl 3 rfl) ?_
      refine lv_aload_n hx hb d_M_count_5 rfl (lv_at hl 0 rfl) ?_
      refine g_M_g hx hb hts hown hK hP d_M_count_6 ?_
      refine lv_iconst (v := (0 : Int32)) hx hb d_M_count_9 rfl ?_
      refine lm_g hx hb hK hP (k := 0) (v := (S.2.1 0 0)) rfl rfl (vin_k (by decide)) d_M_count_10 ?_
      refine lv_icmp_ge (tgt := 40) hx hb d_M_count_11 (by decide) (fun c_11 => ?_) (fun c_11 => ?_)
      · refine lv_iload_n hx hb d_M_count_40 rfl (lv_at hl 1 rfl) ?_
        by_cases c_41_0 : x1 = (0 : Int32)
        · refine lv_tableIn (x := x1) (off := 35) (tgt := 76) hx hb d_M_count_41 (by rw [c_41_0]; decide) (by rw [c_41_0]; decide) (by rw [c_41_0]; rfl) (by decide) ?_
          refine lv_aload_n hx hb d_M_count_76 rfl (lv_at hl 0 rfl) ?_
          refine g_M_g hx hb hts hown hK hP d_M_count_77 ?_
          refine lv_iconst (v := (0 : Int32)) hx hb d_M_count_80 rfl ?_
          refine lm_g hx hb hK hP (k := 0) (v := (S.2.1 0 0)) rfl rfl (vin_k (by decide)) d_M_count_81 ?_
          exact hend _ _ _ (by rw [hq, s_M_count_b4, if_pos c_11, if_pos c_41_0]) d_M_count_82
        by_cases c_41_1 : x1 = (1 : Int32)
        · refine lv_tableIn (x := x1) (off := 42) (tgt := 83) hx hb d_M_count_41 (by rw [c_41_1]; decide) (by rw [c_41_1]; decide) (by rw [c_41_1]; rfl) (by decide) ?_
          refine lv_aload_n hx hb d_M_count_83 rfl (lv_at hl 0 rfl) ?_
          refine g_M_g hx hb hts hown hK hP d_M_count_84 ?_
          refine lv_bipush (v := (34 : Int32)) hx hb d_M_count_87 rfl ?_
          refine lm_g hx hb hK hP (k := 34) (v := (S.2.1 0 34)) rfl rfl (vin_k (by decide)) d_M_count_89 ?_
          exact hend _ _ _ (by rw [hq, s_M_count_b4, if_pos c_11, if_neg c_41_0, if_pos c_41_1]) d_M_count_90
        by_cases c_41_2 : x1 = (2 : Int32)
        · refine lv_tableIn (x := x1) (off := 50) (tgt := 91) hx hb d_M_count_41 (by rw [c_41_2]; decide) (by rw [c_41_2]; decide) (by rw [c_41_2]; rfl) (by decide) ?_
          refine lv_aload_n hx hb d_M_count_91 rfl (lv_at hl 0 rfl) ?_
          refine g_M_fed hx hb hts hown hK hP d_M_count_92 ?_
          exact hend _ _ _ (by rw [hq, s_M_count_b4, if_pos c_11, if_neg c_41_0, if_neg c_41_1, if_pos c_41_2]) d_M_count_95
        by_cases c_41_3 : x1 = (3 : Int32)
        · refine lv_tableIn (x := x1) (off := 55) (tgt := 96) hx hb d_M_count_41 (by rw [c_41_3]; decide) (by rw [c_41_3]; decide) (by rw [c_41_3]; rfl) (by decide) ?_
          refine lv_aload_n hx hb d_M_count_96 rfl (lv_at hl 0 rfl) ?_
          refine g_M_g hx hb hts hown hK hP d_M_count_97 ?_
          refine lv_bipush (v := (33 : Int32)) hx hb d_M_count_100 rfl ?_
          refine lm_g hx hb hK hP (k := 33) (v := (S.2.1 0 33)) rfl rfl (vin_k (by decide)) d_M_count_102 ?_
          exact hend _ _ _ (by rw [hq, s_M_count_b4, if_pos c_11, if_neg c_41_0, if_neg c_41_1, if_neg c_41_2, if_pos c_41_3]) d_M_count_103
        by_cases c_41_4 : x1 = (4 : Int32)
        · refine lv_tableIn (x := x1) (off := 63) (tgt := 104) hx hb d_M_count_41 (by rw [c_41_4]; decide) (by rw [c_41_4]; decide) (by rw [c_41_4]; rfl) (by decide) ?_
          refine lv_iload_n hx hb d_M_count_104 rfl (lv_at hl 2 rfl) ?_
          exact hend _ _ _ (by rw [hq, s_M_count_b4, if_pos c_11, if_neg c_41_0, if_neg c_41_1, if_neg c_41_2, if_neg c_41_3, if_pos c_41_4]) d_M_count_105
        have kd : W p l e (rk 2 42) s m args below meth c s.heap [] 0 0 Q (F0 m 106 ls []) := by
          refine lv_iconst (v := (-1 : Int32)) hx hb d_M_count_106 rfl ?_
          exact hend _ _ _ (by rw [hq, s_M_count_b4, if_pos c_11, if_neg c_41_0, if_neg c_41_1, if_neg c_41_2, if_neg c_41_3, if_neg c_41_4]) d_M_count_107
        have n_0 := lv_neT c_41_0 (a := 0) rfl
        have n_1 := lv_neT c_41_1 (a := 1) rfl
        have n_2 := lv_neT c_41_2 (a := 2) rfl
        have n_3 := lv_neT c_41_3 (a := 3) rfl
        have n_4 := lv_neT c_41_4 (a := 4) rfl
        exact lv_tableOut (x := x1) (tgt := 106) hx hb d_M_count_41 (by omega) (by decide) kd
      · refine lv_iload_n hx hb d_M_count_14 rfl (lv_at hl 2 rfl) ?_
        refine lv_aload_n hx hb d_M_count_15 rfl (lv_at hl 0 rfl) ?_
        refine lv_iload_n hx hb d_M_count_16 rfl (lv_at hl 3 rfl) ?_
        refine k_vi (rest := [.int x2]) (c_M_isRing l E ad X S x3 (wl_w16 hG (wl_of hv.2.2 c_11))) mi_M_isRing ml_M_54 hx hb hml hts hown hK hP rvM hl ⟨rfl, rfl⟩ ⟨(Nat.le_of_ble_eq_true rfl), (Nat.le_of_ble_eq_true rfl)⟩ ⟨Nat.zero_le _, Nat.zero_le _⟩ rfl (Nat.le_of_ble_eq_true rfl) rfl d_M_count_17 ?_
        refine lv_if_eq (tgt := 27) hx hb d_M_count_20 (by decide) (fun c_20 => ?_) (fun c_20 => ?_)
        · refine lv_aload_n hx hb d_M_count_27 rfl (lv_at hl 0 rfl) ?_
          refine lv_iload_n hx hb d_M_count_28 rfl (lv_at hl 3 rfl) ?_
          refine k_vi (rest := [.int x2]) (c_M_teeth l E ad X S x3 (wl_w16 hG (wl_of hv.2.2 c_11))) mi_M_teeth ml_M_50 hx hb hml hts hown hK hP rvM hl ⟨rfl, rfl⟩ ⟨(Nat.le_of_ble_eq_true rfl), (Nat.le_of_ble_eq_true rfl)⟩ ⟨Nat.zero_le _, Nat.zero_le _⟩ rfl (Nat.le_of_ble_eq_true rfl) rfl d_M_count_29 ?_
          refine lv_iadd hx hb d_M_count_32 ?_
          refine lv_istore_n (lv' := [(2, .int (x2 + (s_M_teeth S x3))), (0, .ref (ad 0)), (1, .int x1), (3, .int x3)]) hx hb d_M_count_33 rfl hl (by decide) rfl (fun ls hl => ?_)
          refine lv_iinc (v := (x3 + 1)) (lv' := [(3, .int (x3 + 1)), (2, .int (x2 + (s_M_teeth S x3))), (0, .ref (ad 0)), (1, .int x1)]) hx hb d_M_count_34 hl (k := 3) rfl rfl (by decide) rfl (fun ls hl => ?_)
          refine lv_goto (tgt := 4) hx hb d_M_count_37 (by decide) ?_
          exact ih4 x1 (x2 + (s_M_teeth S x3)) (x3 + 1) (UP_up hv c_11) ls (lv_sub hl [2, 3, 1, 0] rfl) (by rw [hq, s_M_count_b4, if_neg c_11, if_pos c_20])
        · refine lv_iconst (v := (0 : Int32)) hx hb d_M_count_23 rfl ?_
          refine lv_goto (tgt := 32) hx hb d_M_count_24 (by decide) ?_
          refine lv_iadd hx hb d_M_count_32 ?_
          refine lv_istore_n (lv' := [(2, .int (x2 + (0 : Int32))), (0, .ref (ad 0)), (1, .int x1), (3, .int x3)]) hx hb d_M_count_33 rfl hl (by decide) rfl (fun ls hl => ?_)
          refine lv_iinc (v := (x3 + 1)) (lv' := [(3, .int (x3 + 1)), (2, .int (x2 + (0 : Int32))), (0, .ref (ad 0)), (1, .int x1)]) hx hb d_M_count_34 hl (k := 3) rfl rfl (by decide) rfl (fun ls hl => ?_)
          refine lv_goto (tgt := 4) hx hb d_M_count_37 (by decide) ?_
          exact ih4 x1 (x2 + (0 : Int32)) (x3 + 1) (UP_up hv c_11) ls (lv_sub hl [2, 3, 1, 0] rfl) (by rw [hq, s_M_count_b4, if_neg c_11, if_neg c_20])
  refine lv_iconst (v := (0 : Int32)) hx hb d_M_count_0 rfl ?_
  refine lv_istore_n (lv' := [(2, .int (0 : Int32)), (0, .ref (ad 0)), (1, .int a1)]) hx hb d_M_count_1 rfl hl (by decide) rfl (fun ls hl => ?_)
  refine lv_iconst (v := (0 : Int32)) hx hb d_M_count_2 rfl ?_
  refine lv_istore_n (lv' := [(3, .int (0 : Int32)), (2, .int (0 : Int32)), (0, .ref (ad 0)), (1, .int a1)]) hx hb d_M_count_3 rfl hl (by decide) rfl (fun ls hl => ?_)
  exact b4 ((S.2.1 0 0).toInt.toNat + 1) a1 (0 : Int32) (0 : Int32) (UP_in (by decide)) ls (lv_sub hl [2, 3, 1, 0] rfl) (by rw [s_M_count])
