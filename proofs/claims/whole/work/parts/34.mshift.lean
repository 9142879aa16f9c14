/-! by program (wip/whole/mdl.py) -/
def s_M_shiftFor_b71 : Nat → St → Int32 → Int32 → Int32 → Int32 → Int32 → Int32 → Int32 → Int32 × St
  | 0, Z, _, _, _, _, _, _, _ => (0, Z)
  | n + 1, Z, x1, x2, x3, x4, x5, x6, x7 => (if x7 < (-50 : Int32) then (x6, (sA Z 0 ((17 : Int32) + x1).toNatClampNeg x5)) else (if (lg_cmp (((s_M_hundredths (sA Z 0 ((17 : Int32) + x1).toNatClampNeg x7) x1 x2).toInt64) * (x4.toInt64)) ((100 : Int64) * (x3.toInt64))) = 0 then (s_M_shiftFor_b71 n (sA Z 0 ((17 : Int32) + x1).toNatClampNeg x7) x1 x2 x3 x4 x5 x7 (x7 + (-1))) else (s_M_shiftFor_b71 n (sA Z 0 ((17 : Int32) + x1).toNatClampNeg x7) x1 x2 x3 x4 x5 x6 (x7 + (-1)))))
def s_M_shiftFor (S : St) (a1 : Int32) (a2 : Int32) (a3 : Int32) (a4 : Int32) : Int32 × St := (if (s_M_isPair S a1 a2) = 0 then ((-1000 : Int32), S) else (if (s_M_in (a3.toInt64) (1 : Int64) (9999 : Int64)) = 0 then ((-1000 : Int32), S) else (if (s_M_in (a4.toInt64) (1 : Int64) (9999 : Int64)) = 0 then ((-1000 : Int32), S) else (if (s_M_clashes S a1 a2) = 0 then (s_M_shiftFor_b71 (152) S a1 a2 a3 a4 (S.2.1 0 ((17 : Int32) + a1).toNatClampNeg) (-1001 : Int32) (100 : Int32)) else ((-1002 : Int32), S)))))
set_option maxRecDepth 20000 in
theorem c_M_shiftFor (l : Launch) (E : Cx) (ad : Nat → Nat) (X : va_W) (S : St) (A : Nat → Prop) (a1 : Int32) (a2 : Int32) (a3 : Int32) (a4 : Int32) (hG : GI (S.2.1 0)) : Met l y_M_shiftFor (Cond.code y_M_shiftFor b_M_shiftFor 8 (some .int) :: TB) (rk 4 87) (va_Pc [.ref (ad 0), .int a1, .int a2, .int a3, .int a4] (preM E A (fun S => wm E ad S ++ X) S)) (va_Qi (fun r u => (r, u) = (s_M_shiftFor S a1 a2 a3 a4)) (fun u t => va_P E.1 vwCl ((fun S => wm E ad S ++ X) u) t.heap) A) 0 0 A := by
  refine w_muI rfl (Nat.le_of_ble_eq_true rfl) rfl ?_
  intro p e s m args below meth c Q ls hx hb hml hts hown hP hK hD hS hl hend
  have hl : lv_has ls 8 [(0, .ref (ad 0)), (1, .int a1), (2, .int a2), (3, .int a3), (4, .int a4)] := hl
  have hP : va_P E.1 vwCl (wm E ad S ++ X) s.heap := hP
  have hown : s.vm.findClass R_M = some m.cls := hown
  have hD : ∀ S' : St, va_D A (wm E ad S' ++ X) := hD
  have b71 : ∀ (n : Nat) (Z : St) (x1 : Int32) (x2 : Int32) (x3 : Int32) (x4 : Int32) (x5 : Int32) (x6 : Int32) (x7 : Int32) (H : Heap) (locs : List Loc), va_P E.1 vwCl (wm E ad Z ++ X) H → va_S A s.heap H locs → (DM n x7) → (w16 x1) → (w16 x2) → ∀ (ls : Array Slot), lv_has ls 8 [(0, .ref (ad 0)), (1, .int x1), (2, .int x2), (3, .int x3), (4, .int x4), (5, .int x5), (6, .int x6), (7, .int x7)] → (s_M_shiftFor S a1 a2 a3 a4) = s_M_shiftFor_b71 n Z x1 x2 x3 x4 x5 x6 x7 → W p l e (rk 4 87) s m args below meth c H locs 0 0 Q (F0 m 71 ls []) := by
    intro n71
    induction n71 with
    | zero => intro Z x1 x2 x3 x4 x5 x6 x7 H locs hP hS hv; exact absurd hv (DM_z)
    | succ n71 ih71 =>
      intro Z x1 x2 x3 x4 x5 x6 x7 H locs hP hS hv h1 h2 ls hl hq
      refine lv_iload hx hb d_M_shiftFor_71 (lv_at hl 7 rfl) ?_
      refine lv_bipush (v := (-50 : Int32)) hx hb d_M_shiftFor_73 rfl ?_
      refine lv_icmp_lt (tgt := 125) hx hb d_M_shiftFor_75 (by decide) (fun c_75 => ?_) (fun c_75 => ?_)
      · refine lv_aload_n hx hb d_M_shiftFor_125 rfl (lv_at hl 0 rfl) ?_
        refine g_M_g hx hb hts hown hK hP d_M_shiftFor_126 ?_
        refine lv_bipush (v := (17 : Int32)) hx hb d_M_shiftFor_129 rfl ?_
        refine lv_iload_n hx hb d_M_shiftFor_131 rfl (lv_at hl 1 rfl) ?_
        refine lv_iadd hx hb d_M_shiftFor_132 ?_
        refine lv_iload hx hb d_M_shiftFor_133 (lv_at hl 5 rfl) ?_
        refine am_g hx hb hK hP hD hS (k := ((17 : Int32) + x1).toNatClampNeg) rfl (ix_add h1 (by decide)) d_M_shiftFor_135 (fun H locs hP hS => ?_)
        have hP : va_P E.1 vwCl (wm E ad (sA Z 0 ((17 : Int32) + x1).toNatClampNeg x5) ++ X) H := hP
        refine lv_iload hx hb d_M_shiftFor_136 (lv_at hl 6 rfl) ?_
        exact hend _ _ _ _ _ _ (by rw [hq, s_M_shiftFor_b71, if_pos c_75]) hP hS d_M_shiftFor_138
      · refine lv_aload_n hx hb d_M_shiftFor_78 rfl (lv_at hl 0 rfl) ?_
        refine g_M_g hx hb hts hown hK hP d_M_shiftFor_79 ?_
        refine lv_bipush (v := (17 : Int32)) hx hb d_M_shiftFor_82 rfl ?_
        refine lv_iload_n hx hb d_M_shiftFor_84 rfl (lv_at hl 1 rfl) ?_
        refine lv_iadd hx hb d_M_shiftFor_85 ?_
        refine lv_iload hx hb d_M_shiftFor_86 (lv_at hl 7 rfl) ?_
        refine am_g hx hb hK hP hD hS (k := ((17 : Int32) + x1).toNatClampNeg) rfl (ix_add h1 (by decide)) d_M_shiftFor_88 (fun H locs hP hS => ?_)
        have hP : va_P E.1 vwCl (wm E ad (sA Z 0 ((17 : Int32) + x1).toNatClampNeg x7) ++ X) H := hP
        refine lv_aload_n hx hb d_M_shiftFor_89 rfl (lv_at hl 0 rfl) ?_
        refine lv_iload_n hx hb d_M_shiftFor_90 rfl (lv_at hl 1 rfl) ?_
        refine lv_iload_n hx hb d_M_shiftFor_91 rfl (lv_at hl 2 rfl) ?_
        refine k_vi (rest := []) (c_M_hundredths l E ad X (sA Z 0 ((17 : Int32) + x1).toNatClampNeg x7) x1 x2 h1 h2) mi_M_hundredths ml_M_124 hx hb hml hts hown hK hP rvM hl ⟨rfl, rfl⟩ ⟨(Nat.le_of_ble_eq_true rfl), (Nat.le_of_ble_eq_true rfl)⟩ ⟨Nat.zero_le _, Nat.zero_le _⟩ rfl (Nat.le_of_ble_eq_true rfl) rfl d_M_shiftFor_92 ?_
        refine lv_i2l hx hb d_M_shiftFor_95 rfl ?_
        refine lv_iload hx hb d_M_shiftFor_96 (lv_at hl 4 rfl) ?_
        refine lv_i2l hx hb d_M_shiftFor_98 rfl ?_
        refine lv_lmul hx hb d_M_shiftFor_99 ?_
        refine lv_ldc2 (v := (100 : Int64)) hx hb hown (hts _ kl_M_71) d_M_shiftFor_100 ?_
        refine lv_iload_n hx hb d_M_shiftFor_103 rfl (lv_at hl 3 rfl) ?_
        refine lv_i2l hx hb d_M_shiftFor_104 rfl ?_
        refine lv_lmul hx hb d_M_shiftFor_105 ?_
        refine W.lcmp hx hb d_M_shiftFor_106 ?_
        refine lv_if_ne (tgt := 115) hx hb d_M_shiftFor_107 (by decide) (fun c_107 => ?_) (fun c_107 => ?_)
        · refine lv_iload hx hb d_M_shiftFor_115 (lv_at hl 6 rfl) ?_
          refine lv_istore (lv' := [(6, .int x6), (0, .ref (ad 0)), (1, .int x1), (2, .int x2), (3, .int x3), (4, .int x4), (5, .int x5), (7, .int x7)]) hx hb d_M_shiftFor_117 hl (by decide) rfl (fun ls hl => ?_)
          refine lv_iinc (v := (x7 + (-1))) (lv' := [(7, .int (x7 + (-1))), (6, .int x6), (0, .ref (ad 0)), (1, .int x1), (2, .int x2), (3, .int x3), (4, .int x4), (5, .int x5)]) hx hb d_M_shiftFor_119 hl (k := 7) rfl rfl (by decide) rfl (fun ls hl => ?_)
          refine lv_goto (tgt := 71) hx hb d_M_shiftFor_122 (by decide) ?_
          exact ih71 (sA Z 0 ((17 : Int32) + x1).toNatClampNeg x7) x1 x2 x3 x4 x5 x6 (x7 + (-1)) H locs hP hS (DM_dn hv c_75) (h1) (h2) ls (lv_sub hl [2, 3, 4, 5, 6, 7, 1, 0] rfl) (by rw [hq, s_M_shiftFor_b71, if_neg c_75, if_neg c_107])
        · refine lv_iload hx hb d_M_shiftFor_110 (lv_at hl 7 rfl) ?_
          refine lv_goto (tgt := 117) hx hb d_M_shiftFor_112 (by decide) ?_
          refine lv_istore (lv' := [(6, .int x7), (0, .ref (ad 0)), (1, .int x1), (2, .int x2), (3, .int x3), (4, .int x4), (5, .int x5), (7, .int x7)]) hx hb d_M_shiftFor_117 hl (by decide) rfl (fun ls hl => ?_)
          refine lv_iinc (v := (x7 + (-1))) (lv' := [(7, .int (x7 + (-1))), (6, .int x7), (0, .ref (ad 0)), (1, .int x1), (2, .int x2), (3, .int x3), (4, .int x4), (5, .int x5)]) hx hb d_M_shiftFor_119 hl (k := 7) rfl rfl (by decide) rfl (fun ls hl => ?_)
          refine lv_goto (tgt := 71) hx hb d_M_shiftFor_122 (by decide) ?_
          exact ih71 (sA Z 0 ((17 : Int32) + x1).toNatClampNeg x7) x1 x2 x3 x4 x5 x7 (x7 + (-1)) H locs hP hS (DM_dn hv c_75) (h1) (h2) ls (lv_sub hl [2, 3, 4, 5, 6, 7, 1, 0] rfl) (by rw [hq, s_M_shiftFor_b71, if_neg c_75, if_pos c_107])
  refine lv_aload_n hx hb d_M_shiftFor_0 rfl (lv_at hl 0 rfl) ?_
  refine lv_iload_n hx hb d_M_shiftFor_1 rfl (lv_at hl 1 rfl) ?_
  refine lv_iload_n hx hb d_M_shiftFor_2 rfl (lv_at hl 2 rfl) ?_
  refine k_vi (rest := []) (c_M_isPair l E ad X S a1 a2 hG) mi_M_isPair ml_M_114 hx hb hml hts hown hK hP rvM hl ⟨rfl, rfl⟩ ⟨(Nat.le_of_ble_eq_true rfl), (Nat.le_of_ble_eq_true rfl)⟩ ⟨Nat.zero_le _, Nat.zero_le _⟩ rfl (Nat.le_of_ble_eq_true rfl) rfl d_M_shiftFor_3 ?_
  refine lv_if_eq (tgt := 34) hx hb d_M_shiftFor_6 (by decide) (fun c_6 => ?_) (fun c_6 => ?_)
  · refine lv_sipush (v := (-1000 : Int32)) hx hb d_M_shiftFor_34 rfl ?_
    exact hend _ _ _ _ _ _ (by rw [s_M_shiftFor, if_pos c_6]) hP hS d_M_shiftFor_37
  · refine lv_iload_n hx hb d_M_shiftFor_9 rfl (lv_at hl 3 rfl) ?_
    refine lv_i2l hx hb d_M_shiftFor_10 rfl ?_
    refine lv_lconst (v := (1 : Int64)) hx hb d_M_shiftFor_11 rfl ?_
    refine lv_ldc2 (v := (9999 : Int64)) hx hb hown (hts _ kl_M_161) d_M_shiftFor_12 ?_
    refine k_si (rest := []) (c_M_in l E (a3.toInt64) (1 : Int64) (9999 : Int64)) mi_M_in ml_M_46 hx hb hml hts hown hK va_nil hl ⟨rfl, rfl⟩ ⟨(Nat.le_of_ble_eq_true rfl), (Nat.le_of_ble_eq_true rfl)⟩ ⟨Nat.zero_le _, Nat.zero_le _⟩ rfl (Nat.le_of_ble_eq_true rfl) rfl d_M_shiftFor_15 ?_
    refine lv_if_eq (tgt := 34) hx hb d_M_shiftFor_18 (by decide) (fun c_18 => ?_) (fun c_18 => ?_)
    · refine lv_sipush (v := (-1000 : Int32)) hx hb d_M_shiftFor_34 rfl ?_
      exact hend _ _ _ _ _ _ (by rw [s_M_shiftFor, if_neg c_6, if_pos c_18]) hP hS d_M_shiftFor_37
    · refine lv_iload hx hb d_M_shiftFor_21 (lv_at hl 4 rfl) ?_
      refine lv_i2l hx hb d_M_shiftFor_23 rfl ?_
      refine lv_lconst (v := (1 : Int64)) hx hb d_M_shiftFor_24 rfl ?_
      refine lv_ldc2 (v := (9999 : Int64)) hx hb hown (hts _ kl_M_161) d_M_shiftFor_25 ?_
      refine k_si (rest := []) (c_M_in l E (a4.toInt64) (1 : Int64) (9999 : Int64)) mi_M_in ml_M_46 hx hb hml hts hown hK va_nil hl ⟨rfl, rfl⟩ ⟨(Nat.le_of_ble_eq_true rfl), (Nat.le_of_ble_eq_true rfl)⟩ ⟨Nat.zero_le _, Nat.zero_le _⟩ rfl (Nat.le_of_ble_eq_true rfl) rfl d_M_shiftFor_28 ?_
      refine lv_if_ne (tgt := 38) hx hb d_M_shiftFor_31 (by decide) (fun c_31 => ?_) (fun c_31 => ?_)
      · refine lv_aload_n hx hb d_M_shiftFor_38 rfl (lv_at hl 0 rfl) ?_
        refine lv_iload_n hx hb d_M_shiftFor_39 rfl (lv_at hl 1 rfl) ?_
        refine lv_iload_n hx hb d_M_shiftFor_40 rfl (lv_at hl 2 rfl) ?_
        refine k_vi (rest := []) (c_M_clashes l E ad X S a1 a2 (isP1 hG c_6) (isP2 hG c_6)) mi_M_clashes ml_M_119 hx hb hml hts hown hK hP rvM hl ⟨rfl, rfl⟩ ⟨(Nat.le_of_ble_eq_true rfl), (Nat.le_of_ble_eq_true rfl)⟩ ⟨Nat.zero_le _, Nat.zero_le _⟩ rfl (Nat.le_of_ble_eq_true rfl) rfl d_M_shiftFor_41 ?_
        refine lv_if_eq (tgt := 51) hx hb d_M_shiftFor_44 (by decide) (fun c_44 => ?_) (fun c_44 => ?_)
        · refine lv_aload_n hx hb d_M_shiftFor_51 rfl (lv_at hl 0 rfl) ?_
          refine g_M_g hx hb hts hown hK hP d_M_shiftFor_52 ?_
          refine lv_bipush (v := (17 : Int32)) hx hb d_M_shiftFor_55 rfl ?_
          refine lv_iload_n hx hb d_M_shiftFor_57 rfl (lv_at hl 1 rfl) ?_
          refine lv_iadd hx hb d_M_shiftFor_58 ?_
          refine lm_g hx hb hK hP (k := ((17 : Int32) + a1).toNatClampNeg) (v := (S.2.1 0 ((17 : Int32) + a1).toNatClampNeg)) rfl rfl (ix_add (isP1 hG c_6) (by decide)) d_M_shiftFor_59 ?_
          refine lv_istore (lv' := [(5, .int (S.2.1 0 ((17 : Int32) + a1).toNatClampNeg)), (0, .ref (ad 0)), (1, .int a1), (2, .int a2), (3, .int a3), (4, .int a4)]) hx hb d_M_shiftFor_60 hl (by decide) rfl (fun ls hl => ?_)
          refine lv_sipush (v := (-1001 : Int32)) hx hb d_M_shiftFor_62 rfl ?_
          refine lv_istore (lv' := [(6, .int (-1001 : Int32)), (5, .int (S.2.1 0 ((17 : Int32) + a1).toNatClampNeg)), (0, .ref (ad 0)), (1, .int a1), (2, .int a2), (3, .int a3), (4, .int a4)]) hx hb d_M_shiftFor_65 hl (by decide) rfl (fun ls hl => ?_)
          refine lv_bipush (v := (100 : Int32)) hx hb d_M_shiftFor_67 rfl ?_
          refine lv_istore (lv' := [(7, .int (100 : Int32)), (6, .int (-1001 : Int32)), (5, .int (S.2.1 0 ((17 : Int32) + a1).toNatClampNeg)), (0, .ref (ad 0)), (1, .int a1), (2, .int a2), (3, .int a3), (4, .int a4)]) hx hb d_M_shiftFor_69 hl (by decide) rfl (fun ls hl => ?_)
          exact b71 (152) S a1 a2 a3 a4 (S.2.1 0 ((17 : Int32) + a1).toNatClampNeg) (-1001 : Int32) (100 : Int32) s.heap [] hP hS (⟨by decide, by decide⟩) (isP1 hG c_6) (isP2 hG c_6) ls (lv_sub hl [3, 4, 5, 6, 7, 2, 1, 0] rfl) (by rw [s_M_shiftFor, if_neg c_6, if_neg c_18, if_neg c_31, if_pos c_44])
        · refine lv_sipush (v := (-1002 : Int32)) hx hb d_M_shiftFor_47 rfl ?_
          exact hend _ _ _ _ _ _ (by rw [s_M_shiftFor, if_neg c_6, if_neg c_18, if_neg c_31, if_neg c_44]) hP hS d_M_shiftFor_50
      · refine lv_sipush (v := (-1000 : Int32)) hx hb d_M_shiftFor_34 rfl ?_
        exact hend _ _ _ _ _ _ (by rw [s_M_shiftFor, if_neg c_6, if_neg c_18, if_pos c_31]) hP hS d_M_shiftFor_37

def s_M_pair (S : St) (a1 : Int32) (a2 : Int32) : Int32 × St := (if (s_M_isPair S a1 a2) = 0 then ((-1 : Int32), S) else (if (S.2.1 0 34) = (9 : Int32) then ((-3 : Int32), S) else (((sA (sA (sA S 0 ((35 : Int32) + (S.2.1 0 34)).toNatClampNeg a1) 0 ((44 : Int32) + ((sA S 0 ((35 : Int32) + (S.2.1 0 34)).toNatClampNeg a1).2.1 0 34)).toNatClampNeg a2) 0 34 (((sA (sA S 0 ((35 : Int32) + (S.2.1 0 34)).toNatClampNeg a1) 0 ((44 : Int32) + ((sA S 0 ((35 : Int32) + (S.2.1 0 34)).toNatClampNeg a1).2.1 0 34)).toNatClampNeg a2).2.1 0 34) + (1 : Int32))).2.1 0 34), (sA (sA (sA S 0 ((35 : Int32) + (S.2.1 0 34)).toNatClampNeg a1) 0 ((44 : Int32) + ((sA S 0 ((35 : Int32) + (S.2.1 0 34)).toNatClampNeg a1).2.1 0 34)).toNatClampNeg a2) 0 34 (((sA (sA S 0 ((35 : Int32) + (S.2.1 0 34)).toNatClampNeg a1) 0 ((44 : Int32) + ((sA S 0 ((35 : Int32) + (S.2.1 0 34)).toNatClampNeg a1).2.1 0 34)).toNatClampNeg a2).2.1 0 34) + (1 : Int32))))))
set_option maxRecDepth 20000 in
theorem c_M_pair (l : Launch) (E : Cx) (ad : Nat → Nat) (X : va_W) (S : St) (A : Nat → Prop) (a1 : Int32) (a2 : Int32) (hG : GI (S.2.1 0)) : Met l y_M_pair (Cond.code y_M_pair b_M_pair 3 (some .int) :: TB) (rk 3 68) (va_Pc [.ref (ad 0), .int a1, .int a2] (preM E A (fun S => wm E ad S ++ X) S)) (va_Qi (fun r u => (r, u) = (s_M_pair S a1 a2)) (fun u t => va_P E.1 vwCl ((fun S => wm E ad S ++ X) u) t.heap) A) 0 0 A := by
  refine w_muI rfl (Nat.le_of_ble_eq_true rfl) rfl ?_
  intro p e s m args below meth c Q ls hx hb hml hts hown hP hK hD hS hl hend
  have hl : lv_has ls 3 [(0, .ref (ad 0)), (1, .int a1), (2, .int a2)] := hl
  have hP : va_P E.1 vwCl (wm E ad S ++ X) s.heap := hP
  have hown : s.vm.findClass R_M = some m.cls := hown
  have hD : ∀ S' : St, va_D A (wm E ad S' ++ X) := hD
  refine lv_aload_n hx hb d_M_pair_0 rfl (lv_at hl 0 rfl) ?_
  refine lv_iload_n hx hb d_M_pair_1 rfl (lv_at hl 1 rfl) ?_
  refine lv_iload_n hx hb d_M_pair_2 rfl (lv_at hl 2 rfl) ?_
  refine k_vi (rest := []) (c_M_isPair l E ad X S a1 a2 hG) mi_M_isPair ml_M_114 hx hb hml hts hown hK hP rvM hl ⟨rfl, rfl⟩ ⟨(Nat.le_of_ble_eq_true rfl), (Nat.le_of_ble_eq_true rfl)⟩ ⟨Nat.zero_le _, Nat.zero_le _⟩ rfl (Nat.le_of_ble_eq_true rfl) rfl d_M_pair_3 ?_
  refine lv_if_ne (tgt := 11) hx hb d_M_pair_6 (by decide) (fun c_6 => ?_) (fun c_6 => ?_)
  · refine lv_aload_n hx hb d_M_pair_11 rfl (lv_at hl 0 rfl) ?_
    refine g_M_g hx hb hts hown hK hP d_M_pair_12 ?_
    refine lv_bipush (v := (34 : Int32)) hx hb d_M_pair_15 rfl ?_
    refine lm_g hx hb hK hP (k := 34) (v := (S.2.1 0 34)) rfl rfl (vin_k (by decide)) d_M_pair_17 ?_
    refine lv_bipush (v := (9 : Int32)) hx hb d_M_pair_18 rfl ?_
    refine lv_icmp_ne (tgt := 26) hx hb d_M_pair_20 (by decide) (fun c_20 => ?_) (fun c_20 => ?_)
    · refine lv_aload_n hx hb d_M_pair_26 rfl (lv_at hl 0 rfl) ?_
      refine g_M_g hx hb hts hown hK hP d_M_pair_27 ?_
      refine lv_bipush (v := (35 : Int32)) hx hb d_M_pair_30 rfl ?_
      refine lv_aload_n hx hb d_M_pair_32 rfl (lv_at hl 0 rfl) ?_
      refine g_M_g hx hb hts hown hK hP d_M_pair_33 ?_
      refine lv_bipush (v := (34 : Int32)) hx hb d_M_pair_36 rfl ?_
      refine lm_g hx hb hK hP (k := 34) (v := (S.2.1 0 34)) rfl rfl (vin_k (by decide)) d_M_pair_38 ?_
      refine lv_iadd hx hb d_M_pair_39 ?_
      refine lv_iload_n hx hb d_M_pair_40 rfl (lv_at hl 1 rfl) ?_
      refine am_g hx hb hK hP hD hS (k := ((35 : Int32) + (S.2.1 0 34)).toNatClampNeg) rfl (ix_add9 (gi_m hG c_20) (by decide)) d_M_pair_41 (fun H locs hP hS => ?_)
      have hP : va_P E.1 vwCl (wm E ad (sA S 0 ((35 : Int32) + (S.2.1 0 34)).toNatClampNeg a1) ++ X) H := hP
      refine lv_aload_n hx hb d_M_pair_42 rfl (lv_at hl 0 rfl) ?_
      refine g_M_g hx hb hts hown hK hP d_M_pair_43 ?_
      refine lv_bipush (v := (44 : Int32)) hx hb d_M_pair_46 rfl ?_
      refine lv_aload_n hx hb d_M_pair_48 rfl (lv_at hl 0 rfl) ?_
      refine g_M_g hx hb hts hown hK hP d_M_pair_49 ?_
      refine lv_bipush (v := (34 : Int32)) hx hb d_M_pair_52 rfl ?_
      refine lm_g hx hb hK hP (k := 34) (v := ((sA S 0 ((35 : Int32) + (S.2.1 0 34)).toNatClampNeg a1).2.1 0 34)) rfl rfl (vin_k (by decide)) d_M_pair_54 ?_
      refine lv_iadd hx hb d_M_pair_55 ?_
      refine lv_iload_n hx hb d_M_pair_56 rfl (lv_at hl 2 rfl) ?_
      refine am_g hx hb hK hP hD hS (k := ((44 : Int32) + ((sA S 0 ((35 : Int32) + (S.2.1 0 34)).toNatClampNeg a1).2.1 0 34)).toNatClampNeg) rfl (pr_ix hG c_20) d_M_pair_57 (fun H locs hP hS => ?_)
      have hP : va_P E.1 vwCl (wm E ad (sA (sA S 0 ((35 : Int32) + (S.2.1 0 34)).toNatClampNeg a1) 0 ((44 : Int32) + ((sA S 0 ((35 : Int32) + (S.2.1 0 34)).toNatClampNeg a1).2.1 0 34)).toNatClampNeg a2) ++ X) H := hP
      refine lv_aload_n hx hb d_M_pair_58 rfl (lv_at hl 0 rfl) ?_
      refine g_M_g hx hb hts hown hK hP d_M_pair_59 ?_
      refine lv_bipush (v := (34 : Int32)) hx hb d_M_pair_62 rfl ?_
      refine lv_dup2_11 hx hb d_M_pair_64 rfl rfl ?_
      refine lm_g hx hb hK hP (k := 34) (v := ((sA (sA S 0 ((35 : Int32) + (S.2.1 0 34)).toNatClampNeg a1) 0 ((44 : Int32) + ((sA S 0 ((35 : Int32) + (S.2.1 0 34)).toNatClampNeg a1).2.1 0 34)).toNatClampNeg a2).2.1 0 34)) rfl rfl (vin_k (by decide)) d_M_pair_65 ?_
      refine lv_iconst (v := (1 : Int32)) hx hb d_M_pair_66 rfl ?_
      refine lv_iadd hx hb d_M_pair_67 ?_
      refine am_g hx hb hK hP hD hS (k := 34) rfl (vin_k (by decide)) d_M_pair_68 (fun H locs hP hS => ?_)
      have hP : va_P E.1 vwCl (wm E ad (sA (sA (sA S 0 ((35 : Int32) + (S.2.1 0 34)).toNatClampNeg a1) 0 ((44 : Int32) + ((sA S 0 ((35 : Int32) + (S.2.1 0 34)).toNatClampNeg a1).2.1 0 34)).toNatClampNeg a2) 0 34 (((sA (sA S 0 ((35 : Int32) + (S.2.1 0 34)).toNatClampNeg a1) 0 ((44 : Int32) + ((sA S 0 ((35 : Int32) + (S.2.1 0 34)).toNatClampNeg a1).2.1 0 34)).toNatClampNeg a2).2.1 0 34) + (1 : Int32))) ++ X) H := hP
      refine lv_aload_n hx hb d_M_pair_69 rfl (lv_at hl 0 rfl) ?_
      refine g_M_g hx hb hts hown hK hP d_M_pair_70 ?_
      refine lv_bipush (v := (34 : Int32)) hx hb d_M_pair_73 rfl ?_
      refine lm_g hx hb hK hP (k := 34) (v := ((sA (sA (sA S 0 ((35 : Int32) + (S.2.1 0 34)).toNatClampNeg a1) 0 ((44 : Int32) + ((sA S 0 ((35 : Int32) + (S.2.1 0 34)).toNatClampNeg a1).2.1 0 34)).toNatClampNeg a2) 0 34 (((sA (sA S 0 ((35 : Int32) + (S.2.1 0 34)).toNatClampNeg a1) 0 ((44 : Int32) + ((sA S 0 ((35 : Int32) + (S.2.1 0 34)).toNatClampNeg a1).2.1 0 34)).toNatClampNeg a2).2.1 0 34) + (1 : Int32))).2.1 0 34)) rfl rfl (vin_k (by decide)) d_M_pair_75 ?_
      exact hend _ _ _ _ _ _ (by rw [s_M_pair, if_neg c_6, if_neg c_20]) hP hS d_M_pair_76
    · refine lv_bipush (v := (-3 : Int32)) hx hb d_M_pair_23 rfl ?_
      exact hend _ _ _ _ _ _ (by rw [s_M_pair, if_neg c_6, if_pos c_20]) hP hS d_M_pair_25
  · refine lv_iconst (v := (-1 : Int32)) hx hb d_M_pair_9 rfl ?_
    exact hend _ _ _ _ _ _ (by rw [s_M_pair, if_pos c_6]) hP hS d_M_pair_10

def s_M_clear (S : St) : Int32 × St := ((s_M_becomes S (34 : Int32) (0 : Int32)).1, (s_M_becomes S (34 : Int32) (0 : Int32)).2)
set_option maxRecDepth 20000 in
theorem c_M_clear (l : Launch) (E : Cx) (ad : Nat → Nat) (X : va_W) (S : St) (A : Nat → Prop) : Met l y_M_clear (Cond.code y_M_clear b_M_clear 1 (some .int) :: TB) (rk 1 23) (va_Pc [.ref (ad 0)] (preM E A (fun S => wm E ad S ++ X) S)) (va_Qi (fun r u => (r, u) = (s_M_clear S)) (fun u t => va_P E.1 vwCl ((fun S => wm E ad S ++ X) u) t.heap) A) 0 0 A := by
  refine w_muI rfl (Nat.le_of_ble_eq_true rfl) rfl ?_
  intro p e s m args below meth c Q ls hx hb hml hts hown hP hK hD hS hl hend
  have hl : lv_has ls 1 [(0, .ref (ad 0))] := hl
  have hP : va_P E.1 vwCl (wm E ad S ++ X) s.heap := hP
  have hown : s.vm.findClass R_M = some m.cls := hown
  have hD : ∀ S' : St, va_D A (wm E ad S' ++ X) := hD
  refine lv_aload_n hx hb d_M_clear_0 rfl (lv_at hl 0 rfl) ?_
  refine lv_bipush (v := (34 : Int32)) hx hb d_M_clear_1 rfl ?_
  refine lv_iconst (v := (0 : Int32)) hx hb d_M_clear_3 rfl ?_
  refine k_mvi (rest := []) (c_M_becomes l E ad X S A (34 : Int32) (0 : Int32) (vin_k (by decide))) mi_M_becomes ml_M_73 hx hb hml hts hown hK hP hD hS rvM hl ⟨rfl, rfl⟩ ⟨(Nat.le_of_ble_eq_true rfl), (Nat.le_of_ble_eq_true rfl)⟩ ⟨Nat.zero_le _, Nat.zero_le _⟩ rfl (Nat.le_of_ble_eq_true rfl) rfl d_M_clear_4 (fun H locs hP hS => ?_)
  have hP : va_P E.1 vwCl (wm E ad (s_M_becomes S (34 : Int32) (0 : Int32)).2 ++ X) H := hP
  exact hend _ _ _ _ _ _ (by rw [s_M_clear]) hP hS d_M_clear_7

def s_M_faulty_b2 (S : St) : Nat → Int32 → Int32
  | 0, _ => 0
  | n + 1, x1 => (if (S.2.1 0 34) ≤ x1 then (-2 : Int32) else (if (s_M_clashes S (S.2.1 0 ((35 : Int32) + x1).toNatClampNeg) (S.2.1 0 ((44 : Int32) + x1).toNatClampNeg)) = 0 then (s_M_faulty_b2 S n (x1 + 1)) else x1))
def s_M_faulty (S : St) : Int32 := (s_M_faulty_b2 S ((S.2.1 0 34).toInt.toNat + 1) (0 : Int32))
set_option maxRecDepth 20000 in
theorem c_M_faulty (l : Launch) (E : Cx) (ad : Nat → Nat) (X : va_W) (S : St) (hG : GI (S.2.1 0)) : Met l y_M_faulty (Cond.code y_M_faulty b_M_faulty 2 (some .int) :: TB) (rk 4 87) (va_Pc [.ref (ad 0)] (preR E (wm E ad S ++ X))) (vp_Si (fun r => r = (s_M_faulty S))) 0 0 (fun _ => False) := by
  refine w_roI rfl (Nat.le_of_ble_eq_true rfl) rfl ?_
  intro p e s m args below meth c Q ls hx hb hml hts hown hP hK hl hend
  have hl : lv_has ls 2 [(0, .ref (ad 0))] := hl
  have hP : va_P E.1 vwCl (wm E ad S ++ X) s.heap := hP
  have hown : s.vm.findClass R_M = some m.cls := hown
  have b2 : ∀ (n : Nat) (x1 : Int32), (UP n (S.2.1 0 34) x1) → ∀ (ls : Array Slot), lv_has ls 2 [(0, .ref (ad 0)), (1, .int x1)] → (s_M_faulty S) = s_M_faulty_b2 S n x1 → W p l e (rk 4 87) s m args below meth c s.heap [] 0 0 Q (F0 m 2 ls []) := by
    intro n2
    induction n2 with
    | zero => intro x1 hv; exact absurd hv (UP_z)
    | succ n2 ih2 =>
      intro x1 hv ls hl hq
      refine lv_iload_n hx hb d_M_faulty_2 rfl (lv_at hl 1 rfl) ?_
      refine lv_aload_n hx hb d_M_faulty_3 rfl (lv_at hl 0 rfl) ?_
      refine g_M_g hx hb hts hown hK hP d_M_faulty_4 ?_
      refine lv_bipush (v := (34 : Int32)) hx hb d_M_faulty_7 rfl ?_
      refine lm_g hx hb hK hP (k := 34) (v := (S.2.1 0 34)) rfl rfl (vin_k (by decide)) d_M_faulty_9 ?_
      refine lv_icmp_ge (tgt := 46) hx hb d_M_faulty_10 (by decide) (fun c_10 => ?_) (fun c_10 => ?_)
      · refine lv_bipush (v := (-2 : Int32)) hx hb d_M_faulty_46 rfl ?_
        exact hend _ _ _ (by rw [hq, s_M_faulty_b2, if_pos c_10]) d_M_faulty_48
      · refine lv_aload_n hx hb d_M_faulty_13 rfl (lv_at hl 0 rfl) ?_
        refine lv_aload_n hx hb d_M_faulty_14 rfl (lv_at hl 0 rfl) ?_
        refine g_M_g hx hb hts hown hK hP d_M_faulty_15 ?_
        refine lv_bipush (v := (35 : Int32)) hx hb d_M_faulty_18 rfl ?_
        refine lv_iload_n hx hb d_M_faulty_20 rfl (lv_at hl 1 rfl) ?_
        refine lv_iadd hx hb d_M_faulty_21 ?_
        refine lm_g hx hb hK hP (k := ((35 : Int32) + x1).toNatClampNeg) (v := (S.2.1 0 ((35 : Int32) + x1).toNatClampNeg)) rfl rfl (ix_add9 (w9_of hv.2.2 c_10 hG) (by decide)) d_M_faulty_22 ?_
        refine lv_aload_n hx hb d_M_faulty_23 rfl (lv_at hl 0 rfl) ?_
        refine g_M_g hx hb hts hown hK hP d_M_faulty_24 ?_
        refine lv_bipush (v := (44 : Int32)) hx hb d_M_faulty_27 rfl ?_
        refine lv_iload_n hx hb d_M_faulty_29 rfl (lv_at hl 1 rfl) ?_
        refine lv_iadd hx hb d_M_faulty_30 ?_
        refine lm_g hx hb hK hP (k := ((44 : Int32) + x1).toNatClampNeg) (v := (S.2.1 0 ((44 : Int32) + x1).toNatClampNeg)) rfl rfl (ix_add9 (w9_of hv.2.2 c_10 hG) (by decide)) d_M_faulty_31 ?_
        refine k_vi (rest := []) (c_M_clashes l E ad X S (S.2.1 0 ((35 : Int32) + x1).toNatClampNeg) (S.2.1 0 ((44 : Int32) + x1).toNatClampNeg) (wl_w16 hG (pr_1 hG hv.2.2 c_10).1) (wl_w16 hG (pr_1 hG hv.2.2 c_10).2)) mi_M_clashes ml_M_119 hx hb hml hts hown hK hP rvM hl ⟨rfl, rfl⟩ ⟨(Nat.le_of_ble_eq_true rfl), (Nat.le_of_ble_eq_true rfl)⟩ ⟨Nat.zero_le _, Nat.zero_le _⟩ rfl (Nat.le_of_ble_eq_true rfl) rfl d_M_faulty_32 ?_
        refine lv_if_eq (tgt := 40) hx hb d_M_faulty_35 (by decide) (fun c_35 => ?_) (fun c_35 => ?_)
        · refine lv_iinc (v := (x1 + 1)) (lv' := [(1, .int (x1 + 1)), (0, .ref (ad 0))]) hx hb d_M_faulty_40 hl (k := 1) rfl rfl (by decide) rfl (fun ls hl => ?_)
          refine lv_goto (tgt := 2) hx hb d_M_faulty_43 (by decide) ?_
          exact ih2 (x1 + 1) (UP_up hv c_10) ls (lv_sub hl [1, 0] rfl) (by rw [hq, s_M_faulty_b2, if_neg c_10, if_pos c_35])
        · refine lv_iload_n hx hb d_M_faulty_38 rfl (lv_at hl 1 rfl) ?_
          exact hend _ _ _ (by rw [hq, s_M_faulty_b2, if_neg c_10, if_neg c_35]) d_M_faulty_39
  refine lv_iconst (v := (0 : Int32)) hx hb d_M_faulty_0 rfl ?_
  refine lv_istore_n (lv' := [(1, .int (0 : Int32)), (0, .ref (ad 0))]) hx hb d_M_faulty_1 rfl hl (by decide) rfl (fun ls hl => ?_)
  exact b2 ((S.2.1 0 34).toInt.toNat + 1) (0 : Int32) (UP_in (by decide)) ls (lv_sub hl [1, 0] rfl) (by rw [s_M_faulty])
