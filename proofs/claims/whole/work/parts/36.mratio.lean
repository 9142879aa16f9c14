/-! by program (wip/whole/mdl.py) -/
def s_M_ratio (S : St) (a1 : Int32) (a2 : Int32) (a3 : Int32) : Int64 × St := (if (s_M_isPair S a1 a2) = 0 then ((-9223372036854775808 : Int64), S) else (if (s_M_in (a3.toInt64) (0 : Int64) (1 : Int64)) = 0 then ((-9223372036854775808 : Int64), S) else (if (s_M_clashes S a1 a2) = 0 then ((s_M_part (s_M_lays S (((s_M_sign S a1 a2).toInt64) * ((s_M_size S a2).toInt64)) ((s_M_size S a1).toInt64)) a3), (s_M_lays S (((s_M_sign S a1 a2).toInt64) * ((s_M_size S a2).toInt64)) ((s_M_size S a1).toInt64))) else ((-9223372036854775807 : Int64), S))))
set_option maxRecDepth 20000 in
theorem c_M_ratio (l : Launch) (E : Cx) (ad : Nat → Nat) (X : va_W) (S : St) (A : Nat → Prop) (a1 : Int32) (a2 : Int32) (a3 : Int32) (hG : GI (S.2.1 0)) : Met l y_M_ratio (Cond.code y_M_ratio b_M_ratio 4 (some .long) :: TB) (rk 4 87) (va_Pc [.ref (ad 0), .int a1, .int a2, .int a3] (preM E A (fun S => wm E ad S ++ X) S)) (va_Ql (fun r u => (r, u) = (s_M_ratio S a1 a2 a3)) (fun u t => va_P E.1 vwCl ((fun S => wm E ad S ++ X) u) t.heap) A) 0 0 A := by
  refine w_muL rfl (Nat.le_of_ble_eq_true rfl) ?_
  intro p e s m args below meth c Q ls hx hb hml hts hown hP hK hD hS hl hend
  have hl : lv_has ls 4 [(0, .ref (ad 0)), (1, .int a1), (2, .int a2), (3, .int a3)] := hl
  have hP : va_P E.1 vwCl (wm E ad S ++ X) s.heap := hP
  have hown : s.vm.findClass R_M = some m.cls := hown
  have hD : ∀ S' : St, va_D A (wm E ad S' ++ X) := hD
  refine lv_aload_n hx hb d_M_ratio_0 rfl (lv_at hl 0 rfl) ?_
  refine lv_iload_n hx hb d_M_ratio_1 rfl (lv_at hl 1 rfl) ?_
  refine lv_iload_n hx hb d_M_ratio_2 rfl (lv_at hl 2 rfl) ?_
  refine k_vi (rest := []) (c_M_isPair l E ad X S a1 a2 hG) mi_M_isPair ml_M_114 hx hb hml hts hown hK hP rvM hl ⟨rfl, rfl⟩ ⟨(Nat.le_of_ble_eq_true rfl), (Nat.le_of_ble_eq_true rfl)⟩ ⟨Nat.zero_le _, Nat.zero_le _⟩ rfl (Nat.le_of_ble_eq_true rfl) rfl d_M_ratio_3 ?_
  refine lv_if_eq (tgt := 19) hx hb d_M_ratio_6 (by decide) (fun c_6 => ?_) (fun c_6 => ?_)
  · refine lv_ldc2 (v := (-9223372036854775808 : Int64)) hx hb hown (hts _ kl_M_117) d_M_ratio_19 ?_
    exact hend _ _ _ _ _ _ (by rw [s_M_ratio, if_pos c_6]) hP hS d_M_ratio_22
  · refine lv_iload_n hx hb d_M_ratio_9 rfl (lv_at hl 3 rfl) ?_
    refine lv_i2l hx hb d_M_ratio_10 rfl ?_
    refine lv_lconst (v := (0 : Int64)) hx hb d_M_ratio_11 rfl ?_
    refine lv_lconst (v := (1 : Int64)) hx hb d_M_ratio_12 rfl ?_
    refine k_si (rest := []) (c_M_in l E (a3.toInt64) (0 : Int64) (1 : Int64)) mi_M_in ml_M_46 hx hb hml hts hown hK va_nil hl ⟨rfl, rfl⟩ ⟨(Nat.le_of_ble_eq_true rfl), (Nat.le_of_ble_eq_true rfl)⟩ ⟨Nat.zero_le _, Nat.zero_le _⟩ rfl (Nat.le_of_ble_eq_true rfl) rfl d_M_ratio_13 ?_
    refine lv_if_ne (tgt := 23) hx hb d_M_ratio_16 (by decide) (fun c_16 => ?_) (fun c_16 => ?_)
    · refine lv_aload_n hx hb d_M_ratio_23 rfl (lv_at hl 0 rfl) ?_
      refine lv_iload_n hx hb d_M_ratio_24 rfl (lv_at hl 1 rfl) ?_
      refine lv_iload_n hx hb d_M_ratio_25 rfl (lv_at hl 2 rfl) ?_
      refine k_vi (rest := []) (c_M_clashes l E ad X S a1 a2 (isP1 hG c_6) (isP2 hG c_6)) mi_M_clashes ml_M_119 hx hb hml hts hown hK hP rvM hl ⟨rfl, rfl⟩ ⟨(Nat.le_of_ble_eq_true rfl), (Nat.le_of_ble_eq_true rfl)⟩ ⟨Nat.zero_le _, Nat.zero_le _⟩ rfl (Nat.le_of_ble_eq_true rfl) rfl d_M_ratio_26 ?_
      refine lv_if_eq (tgt := 36) hx hb d_M_ratio_29 (by decide) (fun c_29 => ?_) (fun c_29 => ?_)
      · refine lv_aload_n hx hb d_M_ratio_36 rfl (lv_at hl 0 rfl) ?_
        refine lv_aload_n hx hb d_M_ratio_37 rfl (lv_at hl 0 rfl) ?_
        refine lv_iload_n hx hb d_M_ratio_38 rfl (lv_at hl 1 rfl) ?_
        refine lv_iload_n hx hb d_M_ratio_39 rfl (lv_at hl 2 rfl) ?_
        refine k_vi (rest := [.ref (ad 0)]) (c_M_sign l E ad X S a1 a2 (isP1 hG c_6) (isP2 hG c_6)) mi_M_sign ml_M_135 hx hb hml hts hown hK hP rvM hl ⟨rfl, rfl⟩ ⟨(Nat.le_of_ble_eq_true rfl), (Nat.le_of_ble_eq_true rfl)⟩ ⟨Nat.zero_le _, Nat.zero_le _⟩ rfl (Nat.le_of_ble_eq_true rfl) rfl d_M_ratio_40 ?_
        refine lv_i2l hx hb d_M_ratio_43 rfl ?_
        refine lv_aload_n hx hb d_M_ratio_44 rfl (lv_at hl 0 rfl) ?_
        refine lv_iload_n hx hb d_M_ratio_45 rfl (lv_at hl 2 rfl) ?_
        refine k_vi (rest := [.long ((s_M_sign S a1 a2).toInt64), .ref (ad 0)]) (c_M_size l E ad X S a2 (isP2 hG c_6)) mi_M_size ml_M_104 hx hb hml hts hown hK hP rvM hl ⟨rfl, rfl⟩ ⟨(Nat.le_of_ble_eq_true rfl), (Nat.le_of_ble_eq_true rfl)⟩ ⟨Nat.zero_le _, Nat.zero_le _⟩ rfl (Nat.le_of_ble_eq_true rfl) rfl d_M_ratio_46 ?_
        refine lv_i2l hx hb d_M_ratio_49 rfl ?_
        refine lv_lmul hx hb d_M_ratio_50 ?_
        refine lv_aload_n hx hb d_M_ratio_51 rfl (lv_at hl 0 rfl) ?_
        refine lv_iload_n hx hb d_M_ratio_52 rfl (lv_at hl 1 rfl) ?_
        refine k_vi (rest := [.long (((s_M_sign S a1 a2).toInt64) * ((s_M_size S a2).toInt64)), .ref (ad 0)]) (c_M_size l E ad X S a1 (isP1 hG c_6)) mi_M_size ml_M_104 hx hb hml hts hown hK hP rvM hl ⟨rfl, rfl⟩ ⟨(Nat.le_of_ble_eq_true rfl), (Nat.le_of_ble_eq_true rfl)⟩ ⟨Nat.zero_le _, Nat.zero_le _⟩ rfl (Nat.le_of_ble_eq_true rfl) rfl d_M_ratio_53 ?_
        refine lv_i2l hx hb d_M_ratio_56 rfl ?_
        refine k_mvv (rest := []) (c_M_lays l E ad X S A (((s_M_sign S a1 a2).toInt64) * ((s_M_size S a2).toInt64)) ((s_M_size S a1).toInt64) (r_hp hG (isP hG c_6).1) (r_ha hG (isP hG c_6).2)) mi_M_lays ml_M_127 hx hb hml hts hown hK hP hD hS rvM hl ⟨rfl, rfl⟩ ⟨(Nat.le_of_ble_eq_true rfl), (Nat.le_of_ble_eq_true rfl)⟩ ⟨Nat.zero_le _, Nat.zero_le _⟩ rfl (Nat.le_of_ble_eq_true rfl) rfl d_M_ratio_57 (fun H locs hP hS => ?_)
        have hP : va_P E.1 vwCl (wm E ad (s_M_lays S (((s_M_sign S a1 a2).toInt64) * ((s_M_size S a2).toInt64)) ((s_M_size S a1).toInt64)) ++ X) H := hP
        refine lv_aload_n hx hb d_M_ratio_60 rfl (lv_at hl 0 rfl) ?_
        refine lv_iload_n hx hb d_M_ratio_61 rfl (lv_at hl 3 rfl) ?_
        refine k_vl (rest := []) (c_M_part l E ad X (s_M_lays S (((s_M_sign S a1 a2).toInt64) * ((s_M_size S a2).toInt64)) ((s_M_size S a1).toInt64)) a3) mi_M_part ml_M_131 hx hb hml hts hown hK hP rvM hl ⟨rfl, rfl⟩ ⟨(Nat.le_of_ble_eq_true rfl), (Nat.le_of_ble_eq_true rfl)⟩ ⟨Nat.zero_le _, Nat.zero_le _⟩ rfl (Nat.le_of_ble_eq_true rfl) rfl d_M_ratio_62 ?_
        exact hend _ _ _ _ _ _ (by rw [s_M_ratio, if_neg c_6, if_neg c_16, if_pos c_29]) hP hS d_M_ratio_65
      · refine lv_ldc2 (v := (-9223372036854775807 : Int64)) hx hb hown (hts _ kl_M_122) d_M_ratio_32 ?_
        exact hend _ _ _ _ _ _ (by rw [s_M_ratio, if_neg c_6, if_neg c_16, if_neg c_29]) hP hS d_M_ratio_35
    · refine lv_ldc2 (v := (-9223372036854775808 : Int64)) hx hb hown (hts _ kl_M_117) d_M_ratio_19 ?_
      exact hend _ _ _ _ _ _ (by rw [s_M_ratio, if_neg c_6, if_pos c_16]) hP hS d_M_ratio_22

def s_M_contact_b144 (S : St) (t0 : Int64) : Int64 := (if 0 ≤ (lg_cmp t0 (0 : Int64)) then t0 else (0 : Int64))
def s_M_contact (S : St) (a1 : Int32) (a2 : Int32) (a3 : Int32) : Int64 := (if (s_M_isPair S a1 a2) = 0 then (-9223372036854775808 : Int64) else (if (s_M_isRing S a1) = 0 then (if (s_M_isRing S a2) = 0 then (if (s_M_in (a3.toInt64) (0 : Int64) (1 : Int64)) = 0 then (-9223372036854775808 : Int64) else (if a3 = 0 then (s_M_contact_b144 S ((((((s_M_reach S a1) + (s_M_reach S a2)) - (s_M_root ((((s_M_hundredths S a1 a2).toInt64) * ((s_M_hundredths S a1 a2).toInt64)) * ((s_M_square S).toInt64)))) - (1 : Int64)) * (10000000 : Int64)) / ((31416 : Int64) * ((s_M_root (((10000 : Int64) - ((s_M_square S).toInt64)) * (10000 : Int64))) + (1 : Int64))))) else (s_M_contact_b144 S (((((((s_M_reach S a1) + (s_M_reach S a2)) + (2 : Int64)) - (s_M_root ((((s_M_hundredths S a1 a2).toInt64) * ((s_M_hundredths S a1 a2).toInt64)) * ((s_M_square S).toInt64)))) * (10000000 : Int64)) / ((31415 : Int64) * (s_M_root (((10000 : Int64) - ((s_M_square S).toInt64)) * (10000 : Int64))))) + (1 : Int64))))) else (-9223372036854775808 : Int64)) else (-9223372036854775808 : Int64)))
set_option maxRecDepth 20000 in
theorem c_M_contact (l : Launch) (E : Cx) (ad : Nat → Nat) (X : va_W) (S : St) (a1 : Int32) (a2 : Int32) (a3 : Int32) (hG : GI (S.2.1 0)) : Met l y_M_contact (Cond.code y_M_contact b_M_contact 14 (some .long) :: TB) (rk 4 87) (va_Pc [.ref (ad 0), .int a1, .int a2, .int a3] (preR E (wm E ad S ++ X))) (vp_Sl (fun r => r = (s_M_contact S a1 a2 a3))) 0 0 (fun _ => False) := by
  refine w_roL rfl (Nat.le_of_ble_eq_true rfl) ?_
  intro p e s m args below meth c Q ls hx hb hml hts hown hP hK hl hend
  have hl : lv_has ls 14 [(0, .ref (ad 0)), (1, .int a1), (2, .int a2), (3, .int a3)] := hl
  have hP : va_P E.1 vwCl (wm E ad S ++ X) s.heap := hP
  have hown : s.vm.findClass R_M = some m.cls := hown
  have b144 : ∀ (t0 : Int64), ∀ (ls : Array Slot), lv_has ls 14 [] → (s_M_contact S a1 a2 a3) = s_M_contact_b144 S t0 → W p l e (rk 4 87) s m args below meth c s.heap [] 0 0 Q (F0 m 144 ls [.long t0]) := by
    intro t0 ls hl hq
    refine lv_lstore (lv' := [(12, .long t0)]) hx hb d_M_contact_144 hl (by decide) rfl (fun ls hl => ?_)
    refine lv_lload hx hb d_M_contact_146 (lv_at hl 0 rfl) ?_
    refine lv_lconst (v := (0 : Int64)) hx hb d_M_contact_148 rfl ?_
    refine W.lcmp hx hb d_M_contact_149 ?_
    refine lv_if_ge (tgt := 157) hx hb d_M_contact_150 (by decide) (fun c_150 => ?_) (fun c_150 => ?_)
    · refine lv_lload hx hb d_M_contact_157 (lv_at hl 0 rfl) ?_
      exact hend _ _ _ (by rw [hq, s_M_contact_b144, if_pos c_150]) d_M_contact_159
    · refine lv_lconst (v := (0 : Int64)) hx hb d_M_contact_153 rfl ?_
      refine lv_goto (tgt := 159) hx hb d_M_contact_154 (by decide) ?_
      exact hend _ _ _ (by rw [hq, s_M_contact_b144, if_neg c_150]) d_M_contact_159
  refine lv_aload_n hx hb d_M_contact_0 rfl (lv_at hl 0 rfl) ?_
  refine lv_iload_n hx hb d_M_contact_1 rfl (lv_at hl 1 rfl) ?_
  refine lv_iload_n hx hb d_M_contact_2 rfl (lv_at hl 2 rfl) ?_
  refine k_vi (rest := []) (c_M_isPair l E ad X S a1 a2 hG) mi_M_isPair ml_M_114 hx hb hml hts hown hK hP rvM hl ⟨rfl, rfl⟩ ⟨(Nat.le_of_ble_eq_true rfl), (Nat.le_of_ble_eq_true rfl)⟩ ⟨Nat.zero_le _, Nat.zero_le _⟩ rfl (Nat.le_of_ble_eq_true rfl) rfl d_M_contact_3 ?_
  refine lv_if_eq (tgt := 35) hx hb d_M_contact_6 (by decide) (fun c_6 => ?_) (fun c_6 => ?_)
  · refine lv_ldc2 (v := (-9223372036854775808 : Int64)) hx hb hown (hts _ kl_M_117) d_M_contact_35 ?_
    exact hend _ _ _ (by rw [s_M_contact, if_pos c_6]) d_M_contact_38
  · refine lv_aload_n hx hb d_M_contact_9 rfl (lv_at hl 0 rfl) ?_
    refine lv_iload_n hx hb d_M_contact_10 rfl (lv_at hl 1 rfl) ?_
    refine k_vi (rest := []) (c_M_isRing l E ad X S a1 (isP1 hG c_6)) mi_M_isRing ml_M_54 hx hb hml hts hown hK hP rvM hl ⟨rfl, rfl⟩ ⟨(Nat.le_of_ble_eq_true rfl), (Nat.le_of_ble_eq_true rfl)⟩ ⟨Nat.zero_le _, Nat.zero_le _⟩ rfl (Nat.le_of_ble_eq_true rfl) rfl d_M_contact_11 ?_
    refine lv_if_ne (tgt := 35) hx hb d_M_contact_14 (by decide) (fun c_14 => ?_) (fun c_14 => ?_)
    · refine lv_ldc2 (v := (-9223372036854775808 : Int64)) hx hb hown (hts _ kl_M_117) d_M_contact_35 ?_
      exact hend _ _ _ (by rw [s_M_contact, if_neg c_6, if_neg c_14]) d_M_contact_38
    · refine lv_aload_n hx hb d_M_contact_17 rfl (lv_at hl 0 rfl) ?_
      refine lv_iload_n hx hb d_M_contact_18 rfl (lv_at hl 2 rfl) ?_
      refine k_vi (rest := []) (c_M_isRing l E ad X S a2 (isP2 hG c_6)) mi_M_isRing ml_M_54 hx hb hml hts hown hK hP rvM hl ⟨rfl, rfl⟩ ⟨(Nat.le_of_ble_eq_true rfl), (Nat.le_of_ble_eq_true rfl)⟩ ⟨Nat.zero_le _, Nat.zero_le _⟩ rfl (Nat.le_of_ble_eq_true rfl) rfl d_M_contact_19 ?_
      refine lv_if_ne (tgt := 35) hx hb d_M_contact_22 (by decide) (fun c_22 => ?_) (fun c_22 => ?_)
      · refine lv_ldc2 (v := (-9223372036854775808 : Int64)) hx hb hown (hts _ kl_M_117) d_M_contact_35 ?_
        exact hend _ _ _ (by rw [s_M_contact, if_neg c_6, if_pos c_14, if_neg c_22]) d_M_contact_38
      · refine lv_iload_n hx hb d_M_contact_25 rfl (lv_at hl 3 rfl) ?_
        refine lv_i2l hx hb d_M_contact_26 rfl ?_
        refine lv_lconst (v := (0 : Int64)) hx hb d_M_contact_27 rfl ?_
        refine lv_lconst (v := (1 : Int64)) hx hb d_M_contact_28 rfl ?_
        refine k_si (rest := []) (c_M_in l E (a3.toInt64) (0 : Int64) (1 : Int64)) mi_M_in ml_M_46 hx hb hml hts hown hK va_nil hl ⟨rfl, rfl⟩ ⟨(Nat.le_of_ble_eq_true rfl), (Nat.le_of_ble_eq_true rfl)⟩ ⟨Nat.zero_le _, Nat.zero_le _⟩ rfl (Nat.le_of_ble_eq_true rfl) rfl d_M_contact_29 ?_
        refine lv_if_ne (tgt := 39) hx hb d_M_contact_32 (by decide) (fun c_32 => ?_) (fun c_32 => ?_)
        · refine lv_ldc2 (v := (10000 : Int64)) hx hb hown (hts _ kl_M_144) d_M_contact_39 ?_
          refine lv_aload_n hx hb d_M_contact_42 rfl (lv_at hl 0 rfl) ?_
          refine k_vi (rest := [.long (10000 : Int64)]) (c_M_square l E ad X S hG) mi_M_square ml_M_79 hx hb hml hts hown hK hP rvM hl ⟨rfl, rfl⟩ ⟨(Nat.le_of_ble_eq_true rfl), (Nat.le_of_ble_eq_true rfl)⟩ ⟨Nat.zero_le _, Nat.zero_le _⟩ rfl (Nat.le_of_ble_eq_true rfl) rfl d_M_contact_43 ?_
          refine lv_i2l hx hb d_M_contact_46 rfl ?_
          refine lv_lsub hx hb d_M_contact_47 ?_
          refine lv_ldc2 (v := (10000 : Int64)) hx hb hown (hts _ kl_M_144) d_M_contact_48 ?_
          refine lv_lmul hx hb d_M_contact_51 ?_
          refine k_sl (rest := []) (c_M_root l E (((10000 : Int64) - ((s_M_square S).toInt64)) * (10000 : Int64))) mi_M_root ml_M_148 hx hb hml hts hown hK va_nil hl ⟨rfl, rfl⟩ ⟨(Nat.le_of_ble_eq_true rfl), (Nat.le_of_ble_eq_true rfl)⟩ ⟨Nat.zero_le _, Nat.zero_le _⟩ rfl (Nat.le_of_ble_eq_true rfl) rfl d_M_contact_52 ?_
          refine lv_lstore (lv' := [(4, .long (s_M_root (((10000 : Int64) - ((s_M_square S).toInt64)) * (10000 : Int64)))), (0, .ref (ad 0)), (1, .int a1), (2, .int a2), (3, .int a3)]) hx hb d_M_contact_55 hl (by decide) rfl (fun ls hl => ?_)
          refine lv_aload_n hx hb d_M_contact_57 rfl (lv_at hl 1 rfl) ?_
          refine lv_iload_n hx hb d_M_contact_58 rfl (lv_at hl 2 rfl) ?_
          refine lv_iload_n hx hb d_M_contact_59 rfl (lv_at hl 3 rfl) ?_
          refine k_vi (rest := []) (c_M_hundredths l E ad X S a1 a2 (isP1 hG c_6) (isP2 hG c_6)) mi_M_hundredths ml_M_124 hx hb hml hts hown hK hP rvM hl ⟨rfl, rfl⟩ ⟨(Nat.le_of_ble_eq_true rfl), (Nat.le_of_ble_eq_true rfl)⟩ ⟨Nat.zero_le _, Nat.zero_le _⟩ rfl (Nat.le_of_ble_eq_true rfl) rfl d_M_contact_60 ?_
          refine lv_i2l hx hb d_M_contact_63 rfl ?_
          refine lv_lstore (lv' := [(6, .long ((s_M_hundredths S a1 a2).toInt64)), (4, .long (s_M_root (((10000 : Int64) - ((s_M_square S).toInt64)) * (10000 : Int64)))), (0, .ref (ad 0)), (1, .int a1), (2, .int a2), (3, .int a3)]) hx hb d_M_contact_64 hl (by decide) rfl (fun ls hl => ?_)
          refine lv_lload hx hb d_M_contact_66 (lv_at hl 0 rfl) ?_
          refine lv_lload hx hb d_M_contact_68 (lv_at hl 0 rfl) ?_
          refine lv_lmul hx hb d_M_contact_70 ?_
          refine lv_aload_n hx hb d_M_contact_71 rfl (lv_at hl 2 rfl) ?_
          refine k_vi (rest := [.long (((s_M_hundredths S a1 a2).toInt64) * ((s_M_hundredths S a1 a2).toInt64))]) (c_M_square l E ad X S hG) mi_M_square ml_M_79 hx hb hml hts hown hK hP rvM hl ⟨rfl, rfl⟩ ⟨(Nat.le_of_ble_eq_true rfl), (Nat.le_of_ble_eq_true rfl)⟩ ⟨Nat.zero_le _, Nat.zero_le _⟩ rfl (Nat.le_of_ble_eq_true rfl) rfl d_M_contact_72 ?_
          refine lv_i2l hx hb d_M_contact_75 rfl ?_
          refine lv_lmul hx hb d_M_contact_76 ?_
          refine k_sl (rest := []) (c_M_root l E ((((s_M_hundredths S a1 a2).toInt64) * ((s_M_hundredths S a1 a2).toInt64)) * ((s_M_square S).toInt64))) mi_M_root ml_M_148 hx hb hml hts hown hK va_nil hl ⟨rfl, rfl⟩ ⟨(Nat.le_of_ble_eq_true rfl), (Nat.le_of_ble_eq_true rfl)⟩ ⟨Nat.zero_le _, Nat.zero_le _⟩ rfl (Nat.le_of_ble_eq_true rfl) rfl d_M_contact_77 ?_
          refine lv_lstore (lv' := [(8, .long (s_M_root ((((s_M_hundredths S a1 a2).toInt64) * ((s_M_hundredths S a1 a2).toInt64)) * ((s_M_square S).toInt64)))), (6, .long ((s_M_hundredths S a1 a2).toInt64)), (4, .long (s_M_root (((10000 : Int64) - ((s_M_square S).toInt64)) * (10000 : Int64)))), (0, .ref (ad 0)), (1, .int a1), (2, .int a2), (3, .int a3)]) hx hb d_M_contact_80 hl (by decide) rfl (fun ls hl => ?_)
          refine lv_aload_n hx hb d_M_contact_82 rfl (lv_at hl 3 rfl) ?_
          refine lv_iload_n hx hb d_M_contact_83 rfl (lv_at hl 4 rfl) ?_
          refine k_vl (rest := []) (c_M_reach l E ad X S a1 hG (isP1 hG c_6)) mi_M_reach ml_M_152 hx hb hml hts hown hK hP rvM hl ⟨rfl, rfl⟩ ⟨(Nat.le_of_ble_eq_true rfl), (Nat.le_of_ble_eq_true rfl)⟩ ⟨Nat.zero_le _, Nat.zero_le _⟩ rfl (Nat.le_of_ble_eq_true rfl) rfl d_M_contact_84 ?_
          refine lv_aload_n hx hb d_M_contact_87 rfl (lv_at hl 3 rfl) ?_
          refine lv_iload_n hx hb d_M_contact_88 rfl (lv_at hl 5 rfl) ?_
          refine k_vl (rest := [.long (s_M_reach S a1)]) (c_M_reach l E ad X S a2 hG (isP2 hG c_6)) mi_M_reach ml_M_152 hx hb hml hts hown hK hP rvM hl ⟨rfl, rfl⟩ ⟨(Nat.le_of_ble_eq_true rfl), (Nat.le_of_ble_eq_true rfl)⟩ ⟨Nat.zero_le _, Nat.zero_le _⟩ rfl (Nat.le_of_ble_eq_true rfl) rfl d_M_contact_89 ?_
          refine lv_ladd hx hb d_M_contact_92 ?_
          refine lv_lstore (lv' := [(10, .long ((s_M_reach S a1) + (s_M_reach S a2))), (8, .long (s_M_root ((((s_M_hundredths S a1 a2).toInt64) * ((s_M_hundredths S a1 a2).toInt64)) * ((s_M_square S).toInt64)))), (6, .long ((s_M_hundredths S a1 a2).toInt64)), (4, .long (s_M_root (((10000 : Int64) - ((s_M_square S).toInt64)) * (10000 : Int64)))), (0, .ref (ad 0)), (1, .int a1), (2, .int a2), (3, .int a3)]) hx hb d_M_contact_93 hl (by decide) rfl (fun ls hl => ?_)
          refine lv_iload_n hx hb d_M_contact_95 rfl (lv_at hl 7 rfl) ?_
          refine lv_if_ne (tgt := 122) hx hb d_M_contact_96 (by decide) (fun c_96 => ?_) (fun c_96 => ?_)
          · refine lv_lload hx hb d_M_contact_122 (lv_at hl 0 rfl) ?_
            refine lv_ldc2 (v := (2 : Int64)) hx hb hown (hts _ kl_M_77) d_M_contact_124 ?_
            refine lv_ladd hx hb d_M_contact_127 ?_
            refine lv_lload hx hb d_M_contact_128 (lv_at hl 1 rfl) ?_
            refine lv_lsub hx hb d_M_contact_130 ?_
            refine lv_ldc2 (v := (10000000 : Int64)) hx hb hown (hts _ kl_M_155) d_M_contact_131 ?_
            refine lv_lmul hx hb d_M_contact_134 ?_
            refine lv_ldc2 (v := (31415 : Int64)) hx hb hown (hts _ kl_M_159) d_M_contact_135 ?_
            refine lv_lload hx hb d_M_contact_138 (lv_at hl 3 rfl) ?_
            refine lv_lmul hx hb d_M_contact_140 ?_
            refine lv_ldiv hx hb d_M_contact_141 (ct_ne2 hG) ?_
            refine lv_lconst (v := (1 : Int64)) hx hb d_M_contact_142 rfl ?_
            refine lv_ladd hx hb d_M_contact_143 ?_
            exact b144 (((((((s_M_reach S a1) + (s_M_reach S a2)) + (2 : Int64)) - (s_M_root ((((s_M_hundredths S a1 a2).toInt64) * ((s_M_hundredths S a1 a2).toInt64)) * ((s_M_square S).toInt64)))) * (10000000 : Int64)) / ((31415 : Int64) * (s_M_root (((10000 : Int64) - ((s_M_square S).toInt64)) * (10000 : Int64))))) + (1 : Int64)) ls (lv_sub hl [] rfl) (by rw [s_M_contact, if_neg c_6, if_pos c_14, if_pos c_22, if_neg c_32, if_neg c_96])
          · refine lv_lload hx hb d_M_contact_99 (lv_at hl 0 rfl) ?_
            refine lv_lload hx hb d_M_contact_101 (lv_at hl 1 rfl) ?_
            refine lv_lsub hx hb d_M_contact_103 ?_
            refine lv_lconst (v := (1 : Int64)) hx hb d_M_contact_104 rfl ?_
            refine lv_lsub hx hb d_M_contact_105 ?_
            refine lv_ldc2 (v := (10000000 : Int64)) hx hb hown (hts _ kl_M_155) d_M_contact_106 ?_
            refine lv_lmul hx hb d_M_contact_109 ?_
            refine lv_ldc2 (v := (31416 : Int64)) hx hb hown (hts _ kl_M_157) d_M_contact_110 ?_
            refine lv_lload hx hb d_M_contact_113 (lv_at hl 3 rfl) ?_
            refine lv_lconst (v := (1 : Int64)) hx hb d_M_contact_115 rfl ?_
            refine lv_ladd hx hb d_M_contact_116 ?_
            refine lv_lmul hx hb d_M_contact_117 ?_
            refine lv_ldiv hx hb d_M_contact_118 (ct_ne1 hG) ?_
            refine lv_goto (tgt := 144) hx hb d_M_contact_119 (by decide) ?_
            exact b144 ((((((s_M_reach S a1) + (s_M_reach S a2)) - (s_M_root ((((s_M_hundredths S a1 a2).toInt64) * ((s_M_hundredths S a1 a2).toInt64)) * ((s_M_square S).toInt64)))) - (1 : Int64)) * (10000000 : Int64)) / ((31416 : Int64) * ((s_M_root (((10000 : Int64) - ((s_M_square S).toInt64)) * (10000 : Int64))) + (1 : Int64)))) ls (lv_sub hl [] rfl) (by rw [s_M_contact, if_neg c_6, if_pos c_14, if_pos c_22, if_neg c_32, if_pos c_96])
        · refine lv_ldc2 (v := (-9223372036854775808 : Int64)) hx hb hown (hts _ kl_M_117) d_M_contact_35 ?_
          exact hend _ _ _ (by rw [s_M_contact, if_neg c_6, if_pos c_14, if_pos c_22, if_pos c_32]) d_M_contact_38

def s_M_train_b43 : Nat → St → Int32 → Int64 → Int64 → Int32 → Int64 × St
  | 0, Z, _, _, _, _ => (0, Z)
  | n + 1, Z, x1, x2, x4, x6 => (if (Z.2.1 0 34) ≤ x6 then ((s_M_part Z x1), Z) else (s_M_train_b43 n (s_M_lays Z ((x2 * ((s_M_sign Z (Z.2.1 0 ((35 : Int32) + x6).toNatClampNeg) (Z.2.1 0 ((44 : Int32) + x6).toNatClampNeg)).toInt64)) * ((s_M_size Z (Z.2.1 0 ((44 : Int32) + x6).toNatClampNeg)).toInt64)) (x4 * ((s_M_size Z (Z.2.1 0 ((35 : Int32) + x6).toNatClampNeg)).toInt64))) x1 ((s_M_lays Z ((x2 * ((s_M_sign Z (Z.2.1 0 ((35 : Int32) + x6).toNatClampNeg) (Z.2.1 0 ((44 : Int32) + x6).toNatClampNeg)).toInt64)) * ((s_M_size Z (Z.2.1 0 ((44 : Int32) + x6).toNatClampNeg)).toInt64)) (x4 * ((s_M_size Z (Z.2.1 0 ((35 : Int32) + x6).toNatClampNeg)).toInt64))).2.2 1 0) ((s_M_lays Z ((x2 * ((s_M_sign Z (Z.2.1 0 ((35 : Int32) + x6).toNatClampNeg) (Z.2.1 0 ((44 : Int32) + x6).toNatClampNeg)).toInt64)) * ((s_M_size Z (Z.2.1 0 ((44 : Int32) + x6).toNatClampNeg)).toInt64)) (x4 * ((s_M_size Z (Z.2.1 0 ((35 : Int32) + x6).toNatClampNeg)).toInt64))).2.2 1 1) (x6 + 1)))
def s_M_train (S : St) (a1 : Int32) : Int64 × St := (if (s_M_in (a1.toInt64) (0 : Int64) (1 : Int64)) = 0 then ((-9223372036854775808 : Int64), S) else (if (S.2.1 0 34) = 0 then ((-9223372036854775808 : Int64), S) else (if (s_M_faulty S) < 0 then (s_M_train_b43 ((S.2.1 0 34).toInt.toNat + 1) S a1 (1 : Int64) (1 : Int64) (0 : Int32)) else ((-9223372036854775807 : Int64), S))))
set_option maxRecDepth 20000 in
theorem c_M_train (l : Launch) (E : Cx) (ad : Nat → Nat) (X : va_W) (S : St) (A : Nat → Prop) (a1 : Int32) (hG : GI (S.2.1 0)) : Met l y_M_train (Cond.code y_M_train b_M_train 9 (some .long) :: TB) (rk 5 108) (va_Pc [.ref (ad 0), .int a1] (preM E A (fun S => wm E ad S ++ X) S)) (va_Ql (fun r u => (r, u) = (s_M_train S a1)) (fun u t => va_P E.1 vwCl ((fun S => wm E ad S ++ X) u) t.heap) A) 0 0 A := by
  refine w_muL rfl (Nat.le_of_ble_eq_true rfl) ?_
  intro p e s m args below meth c Q ls hx hb hml hts hown hP hK hD hS hl hend
  have hl : lv_has ls 9 [(0, .ref (ad 0)), (1, .int a1)] := hl
  have hP : va_P E.1 vwCl (wm E ad S ++ X) s.heap := hP
  have hown : s.vm.findClass R_M = some m.cls := hown
  have hD : ∀ S' : St, va_D A (wm E ad S' ++ X) := hD
  have b43 : ∀ (n : Nat) (Z : St) (x1 : Int32) (x2 : Int64) (x4 : Int64) (x6 : Int32) (H : Heap) (locs : List Loc), va_P E.1 vwCl (wm E ad Z ++ X) H → va_S A s.heap H locs → (UP n (Z.2.1 0 34) x6) → (GI (Z.2.1 0)) → (T9 x6 x2 x4) → ∀ (ls : Array Slot), lv_has ls 9 [(0, .ref (ad 0)), (1, .int x1), (2, .long x2), (4, .long x4), (6, .int x6)] → (s_M_train S a1) = s_M_train_b43 n Z x1 x2 x4 x6 → W p l e (rk 5 108) s m args below meth c H locs 0 0 Q (F0 m 43 ls []) := by
    intro n43
    induction n43 with
    | zero => intro Z x1 x2 x4 x6 H locs hP hS hv; exact absurd hv (UP_z)
    | succ n43 ih43 =>
      intro Z x1 x2 x4 x6 H locs hP hS hv hZ ht ls hl hq
      refine lv_iload hx hb d_M_train_43 (lv_at hl 4 rfl) ?_
      refine lv_aload_n hx hb d_M_train_45 rfl (lv_at hl 0 rfl) ?_
      refine g_M_g hx hb hts hown hK hP d_M_train_46 ?_
      refine lv_bipush (v := (34 : Int32)) hx hb d_M_train_49 rfl ?_
      refine lm_g hx hb hK hP (k := 34) (v := (Z.2.1 0 34)) rfl rfl (vin_k (by decide)) d_M_train_51 ?_
      refine lv_icmp_ge (tgt := 129) hx hb d_M_train_52 (by decide) (fun c_52 => ?_) (fun c_52 => ?_)
      · refine lv_aload_n hx hb d_M_train_129 rfl (lv_at hl 0 rfl) ?_
        refine lv_iload_n hx hb d_M_train_130 rfl (lv_at hl 1 rfl) ?_
        refine k_vl (rest := []) (c_M_part l E ad X Z x1) mi_M_part ml_M_131 hx hb hml hts hown hK hP rvM hl ⟨rfl, rfl⟩ ⟨(Nat.le_of_ble_eq_true rfl), (Nat.le_of_ble_eq_true rfl)⟩ ⟨Nat.zero_le _, Nat.zero_le _⟩ rfl (Nat.le_of_ble_eq_true rfl) rfl d_M_train_131 ?_
        exact hend _ _ _ _ _ _ (by rw [hq, s_M_train_b43, if_pos c_52]) hP hS d_M_train_134
      · refine lv_aload_n hx hb d_M_train_55 rfl (lv_at hl 0 rfl) ?_
        refine g_M_g hx hb hts hown hK hP d_M_train_56 ?_
        refine lv_bipush (v := (35 : Int32)) hx hb d_M_train_59 rfl ?_
        refine lv_iload hx hb d_M_train_61 (lv_at hl 4 rfl) ?_
        refine lv_iadd hx hb d_M_train_63 ?_
        refine lm_g hx hb hK hP (k := ((35 : Int32) + x6).toNatClampNeg) (v := (Z.2.1 0 ((35 : Int32) + x6).toNatClampNeg)) rfl rfl (ix_add9 (w9_of hv.2.2 c_52 hZ) (by decide)) d_M_train_64 ?_
        refine lv_istore (lv' := [(7, .int (Z.2.1 0 ((35 : Int32) + x6).toNatClampNeg)), (0, .ref (ad 0)), (1, .int x1), (2, .long x2), (4, .long x4), (6, .int x6)]) hx hb d_M_train_65 hl (by decide) rfl (fun ls hl => ?_)
        refine lv_aload_n hx hb d_M_train_67 rfl (lv_at hl 1 rfl) ?_
        refine g_M_g hx hb hts hown hK hP d_M_train_68 ?_
        refine lv_bipush (v := (44 : Int32)) hx hb d_M_train_71 rfl ?_
        refine lv_iload hx hb d_M_train_73 (lv_at hl 5 rfl) ?_
        refine lv_iadd hx hb d_M_train_75 ?_
        refine lm_g hx hb hK hP (k := ((44 : Int32) + x6).toNatClampNeg) (v := (Z.2.1 0 ((44 : Int32) + x6).toNatClampNeg)) rfl rfl (ix_add9 (w9_of hv.2.2 c_52 hZ) (by decide)) d_M_train_76 ?_
        refine lv_istore (lv' := [(8, .int (Z.2.1 0 ((44 : Int32) + x6).toNatClampNeg)), (7, .int (Z.2.1 0 ((35 : Int32) + x6).toNatClampNeg)), (0, .ref (ad 0)), (1, .int x1), (2, .long x2), (4, .long x4), (6, .int x6)]) hx hb d_M_train_77 hl (by decide) rfl (fun ls hl => ?_)
        refine lv_aload_n hx hb d_M_train_79 rfl (lv_at hl 2 rfl) ?_
        refine lv_lload_n hx hb d_M_train_80 rfl (lv_at hl 4 rfl) ?_
        refine lv_aload_n hx hb d_M_train_81 rfl (lv_at hl 2 rfl) ?_
        refine lv_iload hx hb d_M_train_82 (lv_at hl 1 rfl) ?_
        refine lv_iload hx hb d_M_train_84 (lv_at hl 0 rfl) ?_
        refine k_vi (rest := [.long x2, .ref (ad 0)]) (c_M_sign l E ad X Z (Z.2.1 0 ((35 : Int32) + x6).toNatClampNeg) (Z.2.1 0 ((44 : Int32) + x6).toNatClampNeg) (wl_w16 hZ (pr_1 hZ hv.2.2 c_52).1) (wl_w16 hZ (pr_1 hZ hv.2.2 c_52).2)) mi_M_sign ml_M_135 hx hb hml hts hown hK hP rvM hl ⟨rfl, rfl⟩ ⟨(Nat.le_of_ble_eq_true rfl), (Nat.le_of_ble_eq_true rfl)⟩ ⟨Nat.zero_le _, Nat.zero_le _⟩ rfl (Nat.le_of_ble_eq_true rfl) rfl d_M_train_86 ?_
        refine lv_i2l hx hb d_M_train_89 rfl ?_
        refine lv_lmul hx hb d_M_train_90 ?_
        refine lv_aload_n hx hb d_M_train_91 rfl (lv_at hl 2 rfl) ?_
        refine lv_iload hx hb d_M_train_92 (lv_at hl 0 rfl) ?_
        refine k_vi (rest := [.long (x2 * ((s_M_sign Z (Z.2.1 0 ((35 : Int32) + x6).toNatClampNeg) (Z.2.1 0 ((44 : Int32) + x6).toNatClampNeg)).toInt64)), .ref (ad 0)]) (c_M_size l E ad X Z (Z.2.1 0 ((44 : Int32) + x6).toNatClampNeg) (wl_w16 hZ (pr_1 hZ hv.2.2 c_52).2)) mi_M_size ml_M_104 hx hb hml hts hown hK hP rvM hl ⟨rfl, rfl⟩ ⟨(Nat.le_of_ble_eq_true rfl), (Nat.le_of_ble_eq_true rfl)⟩ ⟨Nat.zero_le _, Nat.zero_le _⟩ rfl (Nat.le_of_ble_eq_true rfl) rfl d_M_train_94 ?_
        refine lv_i2l hx hb d_M_train_97 rfl ?_
        refine lv_lmul hx hb d_M_train_98 ?_
        refine lv_lload hx hb d_M_train_99 (lv_at hl 5 rfl) ?_
        refine lv_aload_n hx hb d_M_train_101 rfl (lv_at hl 2 rfl) ?_
        refine lv_iload hx hb d_M_train_102 (lv_at hl 1 rfl) ?_
        refine k_vi (rest := [.long x4, .long ((x2 * ((s_M_sign Z (Z.2.1 0 ((35 : Int32) + x6).toNatClampNeg) (Z.2.1 0 ((44 : Int32) + x6).toNatClampNeg)).toInt64)) * ((s_M_size Z (Z.2.1 0 ((44 : Int32) + x6).toNatClampNeg)).toInt64)), .ref (ad 0)]) (c_M_size l E ad X Z (Z.2.1 0 ((35 : Int32) + x6).toNatClampNeg) (wl_w16 hZ (pr_1 hZ hv.2.2 c_52).1)) mi_M_size ml_M_104 hx hb hml hts hown hK hP rvM hl ⟨rfl, rfl⟩ ⟨(Nat.le_of_ble_eq_true rfl), (Nat.le_of_ble_eq_true rfl)⟩ ⟨Nat.zero_le _, Nat.zero_le _⟩ rfl (Nat.le_of_ble_eq_true rfl) rfl d_M_train_104 ?_
        refine lv_i2l hx hb d_M_train_107 rfl ?_
        refine lv_lmul hx hb d_M_train_108 ?_
        refine k_mvv (rest := []) (c_M_lays l E ad X Z A ((x2 * ((s_M_sign Z (Z.2.1 0 ((35 : Int32) + x6).toNatClampNeg) (Z.2.1 0 ((44 : Int32) + x6).toNatClampNeg)).toInt64)) * ((s_M_size Z (Z.2.1 0 ((44 : Int32) + x6).toNatClampNeg)).toInt64)) (x4 * ((s_M_size Z (Z.2.1 0 ((35 : Int32) + x6).toNatClampNeg)).toInt64)) (T9_hp hZ ht hv.2.2 c_52) (T9_ha hZ ht hv.2.2 c_52)) mi_M_lays ml_M_127 hx hb hml hts hown hK hP hD hS rvM hl ⟨rfl, rfl⟩ ⟨(Nat.le_of_ble_eq_true rfl), (Nat.le_of_ble_eq_true rfl)⟩ ⟨Nat.zero_le _, Nat.zero_le _⟩ rfl (Nat.le_of_ble_eq_true rfl) rfl d_M_train_109 (fun H locs hP hS => ?_)
        have hP : va_P E.1 vwCl (wm E ad (s_M_lays Z ((x2 * ((s_M_sign Z (Z.2.1 0 ((35 : Int32) + x6).toNatClampNeg) (Z.2.1 0 ((44 : Int32) + x6).toNatClampNeg)).toInt64)) * ((s_M_size Z (Z.2.1 0 ((44 : Int32) + x6).toNatClampNeg)).toInt64)) (x4 * ((s_M_size Z (Z.2.1 0 ((35 : Int32) + x6).toNatClampNeg)).toInt64))) ++ X) H := hP
        refine lv_aload_n hx hb d_M_train_112 rfl (lv_at hl 2 rfl) ?_
        refine g_M_above hx hb hts hown hK hP d_M_train_113 ?_
        refine lv_lstore_n (lv' := [(2, .long ((s_M_lays Z ((x2 * ((s_M_sign Z (Z.2.1 0 ((35 : Int32) + x6).toNatClampNeg) (Z.2.1 0 ((44 : Int32) + x6).toNatClampNeg)).toInt64)) * ((s_M_size Z (Z.2.1 0 ((44 : Int32) + x6).toNatClampNeg)).toInt64)) (x4 * ((s_M_size Z (Z.2.1 0 ((35 : Int32) + x6).toNatClampNeg)).toInt64))).2.2 1 0)), (8, .int (Z.2.1 0 ((44 : Int32) + x6).toNatClampNeg)), (7, .int (Z.2.1 0 ((35 : Int32) + x6).toNatClampNeg)), (0, .ref (ad 0)), (1, .int x1), (4, .long x4), (6, .int x6)]) hx hb d_M_train_116 rfl hl (by decide) rfl (fun ls hl => ?_)
        refine lv_aload_n hx hb d_M_train_117 rfl (lv_at hl 3 rfl) ?_
        refine g_M_below hx hb hts hown hK hP d_M_train_118 ?_
        refine lv_lstore (lv' := [(4, .long ((s_M_lays Z ((x2 * ((s_M_sign Z (Z.2.1 0 ((35 : Int32) + x6).toNatClampNeg) (Z.2.1 0 ((44 : Int32) + x6).toNatClampNeg)).toInt64)) * ((s_M_size Z (Z.2.1 0 ((44 : Int32) + x6).toNatClampNeg)).toInt64)) (x4 * ((s_M_size Z (Z.2.1 0 ((35 : Int32) + x6).toNatClampNeg)).toInt64))).2.2 1 1)), (2, .long ((s_M_lays Z ((x2 * ((s_M_sign Z (Z.2.1 0 ((35 : Int32) + x6).toNatClampNeg) (Z.2.1 0 ((44 : Int32) + x6).toNatClampNeg)).toInt64)) * ((s_M_size Z (Z.2.1 0 ((44 : Int32) + x6).toNatClampNeg)).toInt64)) (x4 * ((s_M_size Z (Z.2.1 0 ((35 : Int32) + x6).toNatClampNeg)).toInt64))).2.2 1 0)), (8, .int (Z.2.1 0 ((44 : Int32) + x6).toNatClampNeg)), (7, .int (Z.2.1 0 ((35 : Int32) + x6).toNatClampNeg)), (0, .ref (ad 0)), (1, .int x1), (6, .int x6)]) hx hb d_M_train_121 hl (by decide) rfl (fun ls hl => ?_)
        refine lv_iinc (v := (x6 + 1)) (lv' := [(6, .int (x6 + 1)), (4, .long ((s_M_lays Z ((x2 * ((s_M_sign Z (Z.2.1 0 ((35 : Int32) + x6).toNatClampNeg) (Z.2.1 0 ((44 : Int32) + x6).toNatClampNeg)).toInt64)) * ((s_M_size Z (Z.2.1 0 ((44 : Int32) + x6).toNatClampNeg)).toInt64)) (x4 * ((s_M_size Z (Z.2.1 0 ((35 : Int32) + x6).toNatClampNeg)).toInt64))).2.2 1 1)), (2, .long ((s_M_lays Z ((x2 * ((s_M_sign Z (Z.2.1 0 ((35 : Int32) + x6).toNatClampNeg) (Z.2.1 0 ((44 : Int32) + x6).toNatClampNeg)).toInt64)) * ((s_M_size Z (Z.2.1 0 ((44 : Int32) + x6).toNatClampNeg)).toInt64)) (x4 * ((s_M_size Z (Z.2.1 0 ((35 : Int32) + x6).toNatClampNeg)).toInt64))).2.2 1 0)), (8, .int (Z.2.1 0 ((44 : Int32) + x6).toNatClampNeg)), (7, .int (Z.2.1 0 ((35 : Int32) + x6).toNatClampNeg)), (0, .ref (ad 0)), (1, .int x1)]) hx hb d_M_train_123 hl (k := 6) rfl rfl (by decide) rfl (fun ls hl => ?_)
        refine lv_goto (tgt := 43) hx hb d_M_train_126 (by decide) ?_
        exact ih43 (s_M_lays Z ((x2 * ((s_M_sign Z (Z.2.1 0 ((35 : Int32) + x6).toNatClampNeg) (Z.2.1 0 ((44 : Int32) + x6).toNatClampNeg)).toInt64)) * ((s_M_size Z (Z.2.1 0 ((44 : Int32) + x6).toNatClampNeg)).toInt64)) (x4 * ((s_M_size Z (Z.2.1 0 ((35 : Int32) + x6).toNatClampNeg)).toInt64))) x1 ((s_M_lays Z ((x2 * ((s_M_sign Z (Z.2.1 0 ((35 : Int32) + x6).toNatClampNeg) (Z.2.1 0 ((44 : Int32) + x6).toNatClampNeg)).toInt64)) * ((s_M_size Z (Z.2.1 0 ((44 : Int32) + x6).toNatClampNeg)).toInt64)) (x4 * ((s_M_size Z (Z.2.1 0 ((35 : Int32) + x6).toNatClampNeg)).toInt64))).2.2 1 0) ((s_M_lays Z ((x2 * ((s_M_sign Z (Z.2.1 0 ((35 : Int32) + x6).toNatClampNeg) (Z.2.1 0 ((44 : Int32) + x6).toNatClampNeg)).toInt64)) * ((s_M_size Z (Z.2.1 0 ((44 : Int32) + x6).toNatClampNeg)).toInt64)) (x4 * ((s_M_size Z (Z.2.1 0 ((35 : Int32) + x6).toNatClampNeg)).toInt64))).2.2 1 1) (x6 + 1) H locs hP hS (by rw [lays_21]; exact UP_up hv c_52) (by rw [lays_21]; exact hZ) (T9_go hZ ht hv.2.2 c_52) ls (lv_sub hl [5, 6, 2, 1, 0] rfl) (by rw [hq, s_M_train_b43, if_neg c_52])
  refine lv_iload_n hx hb d_M_train_0 rfl (lv_at hl 1 rfl) ?_
  refine lv_i2l hx hb d_M_train_1 rfl ?_
  refine lv_lconst (v := (0 : Int64)) hx hb d_M_train_2 rfl ?_
  refine lv_lconst (v := (1 : Int64)) hx hb d_M_train_3 rfl ?_
  refine k_si (rest := []) (c_M_in l E (a1.toInt64) (0 : Int64) (1 : Int64)) mi_M_in ml_M_46 hx hb hml hts hown hK va_nil hl ⟨rfl, rfl⟩ ⟨(Nat.le_of_ble_eq_true rfl), (Nat.le_of_ble_eq_true rfl)⟩ ⟨Nat.zero_le _, Nat.zero_le _⟩ rfl (Nat.le_of_ble_eq_true rfl) rfl d_M_train_4 ?_
  refine lv_if_eq (tgt := 20) hx hb d_M_train_7 (by decide) (fun c_7 => ?_) (fun c_7 => ?_)
  · refine lv_ldc2 (v := (-9223372036854775808 : Int64)) hx hb hown (hts _ kl_M_117) d_M_train_20 ?_
    exact hend _ _ _ _ _ _ (by rw [s_M_train, if_pos c_7]) hP hS d_M_train_23
  · refine lv_aload_n hx hb d_M_train_10 rfl (lv_at hl 0 rfl) ?_
    refine g_M_g hx hb hts hown hK hP d_M_train_11 ?_
    refine lv_bipush (v := (34 : Int32)) hx hb d_M_train_14 rfl ?_
    refine lm_g hx hb hK hP (k := 34) (v := (S.2.1 0 34)) rfl rfl (vin_k (by decide)) d_M_train_16 ?_
    refine lv_if_ne (tgt := 24) hx hb d_M_train_17 (by decide) (fun c_17 => ?_) (fun c_17 => ?_)
    · refine lv_aload_n hx hb d_M_train_24 rfl (lv_at hl 0 rfl) ?_
      refine k_vi (rest := []) (c_M_faulty l E ad X S hG) mi_M_faulty ml_M_163 hx hb hml hts hown hK hP rvM hl ⟨rfl, rfl⟩ ⟨(Nat.le_of_ble_eq_true rfl), (Nat.le_of_ble_eq_true rfl)⟩ ⟨Nat.zero_le _, Nat.zero_le _⟩ rfl (Nat.le_of_ble_eq_true rfl) rfl d_M_train_25 ?_
      refine lv_if_lt (tgt := 35) hx hb d_M_train_28 (by decide) (fun c_28 => ?_) (fun c_28 => ?_)
      · refine lv_lconst (v := (1 : Int64)) hx hb d_M_train_35 rfl ?_
        refine lv_lstore_n (lv' := [(2, .long (1 : Int64)), (0, .ref (ad 0)), (1, .int a1)]) hx hb d_M_train_36 rfl hl (by decide) rfl (fun ls hl => ?_)
        refine lv_lconst (v := (1 : Int64)) hx hb d_M_train_37 rfl ?_
        refine lv_lstore (lv' := [(4, .long (1 : Int64)), (2, .long (1 : Int64)), (0, .ref (ad 0)), (1, .int a1)]) hx hb d_M_train_38 hl (by decide) rfl (fun ls hl => ?_)
        refine lv_iconst (v := (0 : Int32)) hx hb d_M_train_40 rfl ?_
        refine lv_istore (lv' := [(6, .int (0 : Int32)), (4, .long (1 : Int64)), (2, .long (1 : Int64)), (0, .ref (ad 0)), (1, .int a1)]) hx hb d_M_train_41 hl (by decide) rfl (fun ls hl => ?_)
        exact b43 ((S.2.1 0 34).toInt.toNat + 1) S a1 (1 : Int64) (1 : Int64) (0 : Int32) s.heap [] hP hS (UP_in (by decide)) (by assumption) (T9_0 rfl) ls (lv_sub hl [3, 4, 2, 1, 0] rfl) (by rw [s_M_train, if_neg c_7, if_neg c_17, if_pos c_28])
      · refine lv_ldc2 (v := (-9223372036854775807 : Int64)) hx hb hown (hts _ kl_M_122) d_M_train_31 ?_
        exact hend _ _ _ _ _ _ (by rw [s_M_train, if_neg c_7, if_neg c_17, if_neg c_28]) hP hS d_M_train_34
    · refine lv_ldc2 (v := (-9223372036854775808 : Int64)) hx hb hown (hts _ kl_M_117) d_M_train_20 ?_
      exact hend _ _ _ _ _ _ (by rw [s_M_train, if_neg c_7, if_pos c_17]) hP hS d_M_train_23

def s_M_closest_b41 : Nat → St → Int32 → Int32 → Int32 → Int64 × St
  | 0, Z, _, _, _ => (0, Z)
  | n + 1, Z, x1, x2, x3 => (if (Z.2.1 0 34) ≤ x3 then (if x1 = 0 then ((x2.toInt64), (s_M_lays Z ((s_M_hundredths Z (Z.2.1 0 ((35 : Int32) + x2).toNatClampNeg) (Z.2.1 0 ((44 : Int32) + x2).toNatClampNeg)).toInt64) (100 : Int64))) else ((s_M_part (s_M_lays Z ((s_M_hundredths Z (Z.2.1 0 ((35 : Int32) + x2).toNatClampNeg) (Z.2.1 0 ((44 : Int32) + x2).toNatClampNeg)).toInt64) (100 : Int64)) (x1 - (1 : Int32))), (s_M_lays Z ((s_M_hundredths Z (Z.2.1 0 ((35 : Int32) + x2).toNatClampNeg) (Z.2.1 0 ((44 : Int32) + x2).toNatClampNeg)).toInt64) (100 : Int64)))) else (if (s_M_hundredths Z (Z.2.1 0 ((35 : Int32) + x2).toNatClampNeg) (Z.2.1 0 ((44 : Int32) + x2).toNatClampNeg)) ≤ (s_M_hundredths Z (Z.2.1 0 ((35 : Int32) + x3).toNatClampNeg) (Z.2.1 0 ((44 : Int32) + x3).toNatClampNeg)) then (s_M_closest_b41 n Z x1 x2 (x3 + 1)) else (s_M_closest_b41 n Z x1 x3 (x3 + 1))))
def s_M_closest (S : St) (a1 : Int32) : Int64 × St := (if (s_M_in (a1.toInt64) (0 : Int64) (2 : Int64)) = 0 then ((-9223372036854775808 : Int64), S) else (if (S.2.1 0 34) = 0 then ((-9223372036854775808 : Int64), S) else (if (s_M_faulty S) < 0 then (s_M_closest_b41 ((S.2.1 0 34).toInt.toNat + 1) S a1 (0 : Int32) (1 : Int32)) else ((-9223372036854775807 : Int64), S))))
set_option maxRecDepth 20000 in
theorem c_M_closest (l : Launch) (E : Cx) (ad : Nat → Nat) (X : va_W) (S : St) (A : Nat → Prop) (a1 : Int32) (hG : GI (S.2.1 0)) : Met l y_M_closest (Cond.code y_M_closest b_M_closest 4 (some .long) :: TB) (rk 5 108) (va_Pc [.ref (ad 0), .int a1] (preM E A (fun S => wm E ad S ++ X) S)) (va_Ql (fun r u => (r, u) = (s_M_closest S a1)) (fun u t => va_P E.1 vwCl ((fun S => wm E ad S ++ X) u) t.heap) A) 0 0 A := by
  refine w_muL rfl (Nat.le_of_ble_eq_true rfl) ?_
  intro p e s m args below meth c Q ls hx hb hml hts hown hP hK hD hS hl hend
  have hl : lv_has ls 4 [(0, .ref (ad 0)), (1, .int a1)] := hl
  have hP : va_P E.1 vwCl (wm E ad S ++ X) s.heap := hP
  have hown : s.vm.findClass R_M = some m.cls := hown
  have hD : ∀ S' : St, va_D A (wm E ad S' ++ X) := hD
  have b41 : ∀ (n : Nat) (Z : St) (x1 : Int32) (x2 : Int32) (x3 : Int32) (H : Heap) (locs : List Loc), va_P E.1 vwCl (wm E ad Z ++ X) H → va_S A s.heap H locs → (UP n (Z.2.1 0 34) x3) → (GI (Z.2.1 0)) → (0 ≤ x2.toInt ∧ ¬ Z.2.1 0 34 ≤ x2) → ∀ (ls : Array Slot), lv_has ls 4 [(0, .ref (ad 0)), (1, .int x1), (2, .int x2), (3, .int x3)] → (s_M_closest S a1) = s_M_closest_b41 n Z x1 x2 x3 → W p l e (rk 5 108) s m args below meth c H locs 0 0 Q (F0 m 41 ls []) := by
    intro n41
    induction n41 with
    | zero => intro Z x1 x2 x3 H locs hP hS hv; exact absurd hv (UP_z)
    | succ n41 ih41 =>
      intro Z x1 x2 x3 H locs hP hS hv hZ hf ls hl hq
      refine lv_iload_n hx hb d_M_closest_41 rfl (lv_at hl 3 rfl) ?_
      refine lv_aload_n hx hb d_M_closest_42 rfl (lv_at hl 0 rfl) ?_
      refine g_M_g hx hb hts hown hK hP d_M_closest_43 ?_
      refine lv_bipush (v := (34 : Int32)) hx hb d_M_closest_46 rfl ?_
      refine lm_g hx hb hK hP (k := 34) (v := (Z.2.1 0 34)) rfl rfl (vin_k (by decide)) d_M_closest_48 ?_
      refine lv_icmp_ge (tgt := 111) hx hb d_M_closest_49 (by decide) (fun c_49 => ?_) (fun c_49 => ?_)
      · refine lv_aload_n hx hb d_M_closest_111 rfl (lv_at hl 0 rfl) ?_
        refine lv_aload_n hx hb d_M_closest_112 rfl (lv_at hl 0 rfl) ?_
        refine lv_aload_n hx hb d_M_closest_113 rfl (lv_at hl 0 rfl) ?_
        refine g_M_g hx hb hts hown hK hP d_M_closest_114 ?_
        refine lv_bipush (v := (35 : Int32)) hx hb d_M_closest_117 rfl ?_
        refine lv_iload_n hx hb d_M_closest_119 rfl (lv_at hl 2 rfl) ?_
        refine lv_iadd hx hb d_M_closest_120 ?_
        refine lm_g hx hb hK hP (k := ((35 : Int32) + x2).toNatClampNeg) (v := (Z.2.1 0 ((35 : Int32) + x2).toNatClampNeg)) rfl rfl (ix_add9 (w9_of hf.1 hf.2 hZ) (by decide)) d_M_closest_121 ?_
        refine lv_aload_n hx hb d_M_closest_122 rfl (lv_at hl 0 rfl) ?_
        refine g_M_g hx hb hts hown hK hP d_M_closest_123 ?_
        refine lv_bipush (v := (44 : Int32)) hx hb d_M_closest_126 rfl ?_
        refine lv_iload_n hx hb d_M_closest_128 rfl (lv_at hl 2 rfl) ?_
        refine lv_iadd hx hb d_M_closest_129 ?_
        refine lm_g hx hb hK hP (k := ((44 : Int32) + x2).toNatClampNeg) (v := (Z.2.1 0 ((44 : Int32) + x2).toNatClampNeg)) rfl rfl (ix_add9 (w9_of hf.1 hf.2 hZ) (by decide)) d_M_closest_130 ?_
        refine k_vi (rest := [.ref (ad 0)]) (c_M_hundredths l E ad X Z (Z.2.1 0 ((35 : Int32) + x2).toNatClampNeg) (Z.2.1 0 ((44 : Int32) + x2).toNatClampNeg) (wl_w16 hZ (pr_1 hZ hf.1 hf.2).1) (wl_w16 hZ (pr_1 hZ hf.1 hf.2).2)) mi_M_hundredths ml_M_124 hx hb hml hts hown hK hP rvM hl ⟨rfl, rfl⟩ ⟨(Nat.le_of_ble_eq_true rfl), (Nat.le_of_ble_eq_true rfl)⟩ ⟨Nat.zero_le _, Nat.zero_le _⟩ rfl (Nat.le_of_ble_eq_true rfl) rfl d_M_closest_131 ?_
        refine lv_i2l hx hb d_M_closest_134 rfl ?_
        refine lv_ldc2 (v := (100 : Int64)) hx hb hown (hts _ kl_M_71) d_M_closest_135 ?_
        refine k_mvv (rest := []) (c_M_lays l E ad X Z A ((s_M_hundredths Z (Z.2.1 0 ((35 : Int32) + x2).toNatClampNeg) (Z.2.1 0 ((44 : Int32) + x2).toNatClampNeg)).toInt64) (100 : Int64) (by decide) (i2l_lo _)) mi_M_lays ml_M_127 hx hb hml hts hown hK hP hD hS rvM hl ⟨rfl, rfl⟩ ⟨(Nat.le_of_ble_eq_true rfl), (Nat.le_of_ble_eq_true rfl)⟩ ⟨Nat.zero_le _, Nat.zero_le _⟩ rfl (Nat.le_of_ble_eq_true rfl) rfl d_M_closest_138 (fun H locs hP hS => ?_)
        have hP : va_P E.1 vwCl (wm E ad (s_M_lays Z ((s_M_hundredths Z (Z.2.1 0 ((35 : Int32) + x2).toNatClampNeg) (Z.2.1 0 ((44 : Int32) + x2).toNatClampNeg)).toInt64) (100 : Int64)) ++ X) H := hP
        refine lv_iload_n hx hb d_M_closest_141 rfl (lv_at hl 1 rfl) ?_
        refine lv_if_ne (tgt := 150) hx hb d_M_closest_142 (by decide) (fun c_142 => ?_) (fun c_142 => ?_)
        · refine lv_aload_n hx hb d_M_closest_150 rfl (lv_at hl 0 rfl) ?_
          refine lv_iload_n hx hb d_M_closest_151 rfl (lv_at hl 1 rfl) ?_
          refine lv_iconst (v := (1 : Int32)) hx hb d_M_closest_152 rfl ?_
          refine lv_isub hx hb d_M_closest_153 ?_
          refine k_vl (rest := []) (c_M_part l E ad X (s_M_lays Z ((s_M_hundredths Z (Z.2.1 0 ((35 : Int32) + x2).toNatClampNeg) (Z.2.1 0 ((44 : Int32) + x2).toNatClampNeg)).toInt64) (100 : Int64)) (x1 - (1 : Int32))) mi_M_part ml_M_131 hx hb hml hts hown hK hP rvM hl ⟨rfl, rfl⟩ ⟨(Nat.le_of_ble_eq_true rfl), (Nat.le_of_ble_eq_true rfl)⟩ ⟨Nat.zero_le _, Nat.zero_le _⟩ rfl (Nat.le_of_ble_eq_true rfl) rfl d_M_closest_154 ?_
          exact hend _ _ _ _ _ _ (by rw [hq, s_M_closest_b41, if_pos c_49, if_neg c_142]) hP hS d_M_closest_157
        · refine lv_iload_n hx hb d_M_closest_145 rfl (lv_at hl 2 rfl) ?_
          refine lv_i2l hx hb d_M_closest_146 rfl ?_
          refine lv_goto (tgt := 157) hx hb d_M_closest_147 (by decide) ?_
          exact hend _ _ _ _ _ _ (by rw [hq, s_M_closest_b41, if_pos c_49, if_pos c_142]) hP hS d_M_closest_157
      · refine lv_aload_n hx hb d_M_closest_52 rfl (lv_at hl 0 rfl) ?_
        refine lv_aload_n hx hb d_M_closest_53 rfl (lv_at hl 0 rfl) ?_
        refine g_M_g hx hb hts hown hK hP d_M_closest_54 ?_
        refine lv_bipush (v := (35 : Int32)) hx hb d_M_closest_57 rfl ?_
        refine lv_iload_n hx hb d_M_closest_59 rfl (lv_at hl 3 rfl) ?_
        refine lv_iadd hx hb d_M_closest_60 ?_
        refine lm_g hx hb hK hP (k := ((35 : Int32) + x3).toNatClampNeg) (v := (Z.2.1 0 ((35 : Int32) + x3).toNatClampNeg)) rfl rfl (ix_add9 (w9_of hv.2.2 c_49 hZ) (by decide)) d_M_closest_61 ?_
        refine lv_aload_n hx hb d_M_closest_62 rfl (lv_at hl 0 rfl) ?_
        refine g_M_g hx hb hts hown hK hP d_M_closest_63 ?_
        refine lv_bipush (v := (44 : Int32)) hx hb d_M_closest_66 rfl ?_
        refine lv_iload_n hx hb d_M_closest_68 rfl (lv_at hl 3 rfl) ?_
        refine lv_iadd hx hb d_M_closest_69 ?_
        refine lm_g hx hb hK hP (k := ((44 : Int32) + x3).toNatClampNeg) (v := (Z.2.1 0 ((44 : Int32) + x3).toNatClampNeg)) rfl rfl (ix_add9 (w9_of hv.2.2 c_49 hZ) (by decide)) d_M_closest_70 ?_
        refine k_vi (rest := []) (c_M_hundredths l E ad X Z (Z.2.1 0 ((35 : Int32) + x3).toNatClampNeg) (Z.2.1 0 ((44 : Int32) + x3).toNatClampNeg) (wl_w16 hZ (pr_1 hZ hv.2.2 c_49).1) (wl_w16 hZ (pr_1 hZ hv.2.2 c_49).2)) mi_M_hundredths ml_M_124 hx hb hml hts hown hK hP rvM hl ⟨rfl, rfl⟩ ⟨(Nat.le_of_ble_eq_true rfl), (Nat.le_of_ble_eq_true rfl)⟩ ⟨Nat.zero_le _, Nat.zero_le _⟩ rfl (Nat.le_of_ble_eq_true rfl) rfl d_M_closest_71 ?_
        refine lv_aload_n hx hb d_M_closest_74 rfl (lv_at hl 0 rfl) ?_
        refine lv_aload_n hx hb d_M_closest_75 rfl (lv_at hl 0 rfl) ?_
        refine g_M_g hx hb hts hown hK hP d_M_closest_76 ?_
        refine lv_bipush (v := (35 : Int32)) hx hb d_M_closest_79 rfl ?_
        refine lv_iload_n hx hb d_M_closest_81 rfl (lv_at hl 2 rfl) ?_
        refine lv_iadd hx hb d_M_closest_82 ?_
        refine lm_g hx hb hK hP (k := ((35 : Int32) + x2).toNatClampNeg) (v := (Z.2.1 0 ((35 : Int32) + x2).toNatClampNeg)) rfl rfl (ix_add9 (w9_of hf.1 hf.2 hZ) (by decide)) d_M_closest_83 ?_
        refine lv_aload_n hx hb d_M_closest_84 rfl (lv_at hl 0 rfl) ?_
        refine g_M_g hx hb hts hown hK hP d_M_closest_85 ?_
        refine lv_bipush (v := (44 : Int32)) hx hb d_M_closest_88 rfl ?_
        refine lv_iload_n hx hb d_M_closest_90 rfl (lv_at hl 2 rfl) ?_
        refine lv_iadd hx hb d_M_closest_91 ?_
        refine lm_g hx hb hK hP (k := ((44 : Int32) + x2).toNatClampNeg) (v := (Z.2.1 0 ((44 : Int32) + x2).toNatClampNeg)) rfl rfl (ix_add9 (w9_of hf.1 hf.2 hZ) (by decide)) d_M_closest_92 ?_
        refine k_vi (rest := [.int (s_M_hundredths Z (Z.2.1 0 ((35 : Int32) + x3).toNatClampNeg) (Z.2.1 0 ((44 : Int32) + x3).toNatClampNeg))]) (c_M_hundredths l E ad X Z (Z.2.1 0 ((35 : Int32) + x2).toNatClampNeg) (Z.2.1 0 ((44 : Int32) + x2).toNatClampNeg) (wl_w16 hZ (pr_1 hZ hf.1 hf.2).1) (wl_w16 hZ (pr_1 hZ hf.1 hf.2).2)) mi_M_hundredths ml_M_124 hx hb hml hts hown hK hP rvM hl ⟨rfl, rfl⟩ ⟨(Nat.le_of_ble_eq_true rfl), (Nat.le_of_ble_eq_true rfl)⟩ ⟨Nat.zero_le _, Nat.zero_le _⟩ rfl (Nat.le_of_ble_eq_true rfl) rfl d_M_closest_93 ?_
        refine lv_icmp_ge (tgt := 103) hx hb d_M_closest_96 (by decide) (fun c_96 => ?_) (fun c_96 => ?_)
        · refine lv_iload_n hx hb d_M_closest_103 rfl (lv_at hl 2 rfl) ?_
          refine lv_istore_n (lv' := [(2, .int x2), (0, .ref (ad 0)), (1, .int x1), (3, .int x3)]) hx hb d_M_closest_104 rfl hl (by decide) rfl (fun ls hl => ?_)
          refine lv_iinc (v := (x3 + 1)) (lv' := [(3, .int (x3 + 1)), (2, .int x2), (0, .ref (ad 0)), (1, .int x1)]) hx hb d_M_closest_105 hl (k := 3) rfl rfl (by decide) rfl (fun ls hl => ?_)
          refine lv_goto (tgt := 41) hx hb d_M_closest_108 (by decide) ?_
          exact ih41 Z x1 x2 (x3 + 1) H locs hP hS (UP_up hv c_49) (hZ) (by first | exact hf | exact ⟨hv.2.2, c_49⟩) ls (lv_sub hl [2, 3, 1, 0] rfl) (by rw [hq, s_M_closest_b41, if_neg c_49, if_pos c_96])
        · refine lv_iload_n hx hb d_M_closest_99 rfl (lv_at hl 3 rfl) ?_
          refine lv_goto (tgt := 104) hx hb d_M_closest_100 (by decide) ?_
          refine lv_istore_n (lv' := [(2, .int x3), (0, .ref (ad 0)), (1, .int x1), (3, .int x3)]) hx hb d_M_closest_104 rfl hl (by decide) rfl (fun ls hl => ?_)
          refine lv_iinc (v := (x3 + 1)) (lv' := [(3, .int (x3 + 1)), (2, .int x3), (0, .ref (ad 0)), (1, .int x1)]) hx hb d_M_closest_105 hl (k := 3) rfl rfl (by decide) rfl (fun ls hl => ?_)
          refine lv_goto (tgt := 41) hx hb d_M_closest_108 (by decide) ?_
          exact ih41 Z x1 x3 (x3 + 1) H locs hP hS (UP_up hv c_49) (hZ) (by first | exact hf | exact ⟨hv.2.2, c_49⟩) ls (lv_sub hl [2, 3, 1, 0] rfl) (by rw [hq, s_M_closest_b41, if_neg c_49, if_neg c_96])
  refine lv_iload_n hx hb d_M_closest_0 rfl (lv_at hl 1 rfl) ?_
  refine lv_i2l hx hb d_M_closest_1 rfl ?_
  refine lv_lconst (v := (0 : Int64)) hx hb d_M_closest_2 rfl ?_
  refine lv_ldc2 (v := (2 : Int64)) hx hb hown (hts _ kl_M_77) d_M_closest_3 ?_
  refine k_si (rest := []) (c_M_in l E (a1.toInt64) (0 : Int64) (2 : Int64)) mi_M_in ml_M_46 hx hb hml hts hown hK va_nil hl ⟨rfl, rfl⟩ ⟨(Nat.le_of_ble_eq_true rfl), (Nat.le_of_ble_eq_true rfl)⟩ ⟨Nat.zero_le _, Nat.zero_le _⟩ rfl (Nat.le_of_ble_eq_true rfl) rfl d_M_closest_6 ?_
  refine lv_if_eq (tgt := 22) hx hb d_M_closest_9 (by decide) (fun c_9 => ?_) (fun c_9 => ?_)
  · refine lv_ldc2 (v := (-9223372036854775808 : Int64)) hx hb hown (hts _ kl_M_117) d_M_closest_22 ?_
    exact hend _ _ _ _ _ _ (by rw [s_M_closest, if_pos c_9]) hP hS d_M_closest_25
  · refine lv_aload_n hx hb d_M_closest_12 rfl (lv_at hl 0 rfl) ?_
    refine g_M_g hx hb hts hown hK hP d_M_closest_13 ?_
    refine lv_bipush (v := (34 : Int32)) hx hb d_M_closest_16 rfl ?_
    refine lm_g hx hb hK hP (k := 34) (v := (S.2.1 0 34)) rfl rfl (vin_k (by decide)) d_M_closest_18 ?_
    refine lv_if_ne (tgt := 26) hx hb d_M_closest_19 (by decide) (fun c_19 => ?_) (fun c_19 => ?_)
    · refine lv_aload_n hx hb d_M_closest_26 rfl (lv_at hl 0 rfl) ?_
      refine k_vi (rest := []) (c_M_faulty l E ad X S hG) mi_M_faulty ml_M_163 hx hb hml hts hown hK hP rvM hl ⟨rfl, rfl⟩ ⟨(Nat.le_of_ble_eq_true rfl), (Nat.le_of_ble_eq_true rfl)⟩ ⟨Nat.zero_le _, Nat.zero_le _⟩ rfl (Nat.le_of_ble_eq_true rfl) rfl d_M_closest_27 ?_
      refine lv_if_lt (tgt := 37) hx hb d_M_closest_30 (by decide) (fun c_30 => ?_) (fun c_30 => ?_)
      · refine lv_iconst (v := (0 : Int32)) hx hb d_M_closest_37 rfl ?_
        refine lv_istore_n (lv' := [(2, .int (0 : Int32)), (0, .ref (ad 0)), (1, .int a1)]) hx hb d_M_closest_38 rfl hl (by decide) rfl (fun ls hl => ?_)
        refine lv_iconst (v := (1 : Int32)) hx hb d_M_closest_39 rfl ?_
        refine lv_istore_n (lv' := [(3, .int (1 : Int32)), (2, .int (0 : Int32)), (0, .ref (ad 0)), (1, .int a1)]) hx hb d_M_closest_40 rfl hl (by decide) rfl (fun ls hl => ?_)
        exact b41 ((S.2.1 0 34).toInt.toNat + 1) S a1 (0 : Int32) (1 : Int32) s.heap [] hP hS (UP_in (by decide)) (by assumption) (⟨by decide, g34_pos hG c_19⟩) ls (lv_sub hl [2, 3, 1, 0] rfl) (by rw [s_M_closest, if_neg c_9, if_neg c_19, if_pos c_30])
      · refine lv_ldc2 (v := (-9223372036854775807 : Int64)) hx hb hown (hts _ kl_M_122) d_M_closest_33 ?_
        exact hend _ _ _ _ _ _ (by rw [s_M_closest, if_neg c_9, if_neg c_19, if_neg c_30]) hP hS d_M_closest_36
    · refine lv_ldc2 (v := (-9223372036854775808 : Int64)) hx hb hown (hts _ kl_M_117) d_M_closest_22 ?_
      exact hend _ _ _ _ _ _ (by rw [s_M_closest, if_neg c_9, if_pos c_19]) hP hS d_M_closest_25
