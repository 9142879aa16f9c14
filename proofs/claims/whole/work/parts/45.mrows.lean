/-! by program (wip/whole/mdl.py) -/
def s_M_isRow (a0 : Int32) : Int32 := (s_M_in (a0.toInt64) (0 : Int64) (2 : Int64))
theorem z_M_isRow (a0 : Int32) : (s_M_isRow a0) = 0 ∨ (s_M_isRow a0) = 1 := by rw [s_M_isRow]; exact (z_M_in (a0.toInt64) (0 : Int64) (2 : Int64))
set_option maxRecDepth 20000 in
theorem c_M_isRow (l : Launch) (E : Cx) (a0 : Int32) : Met l y_M_isRow (Cond.code y_M_isRow b_M_isRow 1 (some .boolean) :: TB) (rk 1 25) (va_Pc [.int a0] (preR E [])) (vp_Si (fun r => r = (s_M_isRow a0))) 0 0 (fun _ => False) := by
  refine w_roI rfl (Nat.le_of_ble_eq_true rfl) (k_nb (z_M_isRow a0)) ?_
  intro p e s m args below meth c Q ls hx hb hml hts hown hP hK hl hend
  have hl : lv_has ls 1 [(0, .int a0)] := hl
  have hown : s.vm.findClass R_M = some m.cls := hown
  refine lv_iload_n hx hb d_M_isRow_0 rfl (lv_at hl 0 rfl) ?_
  refine lv_i2l hx hb d_M_isRow_1 rfl ?_
  refine lv_lconst (v := (0 : Int64)) hx hb d_M_isRow_2 rfl ?_
  refine lv_ldc2 (v := (2 : Int64)) hx hb hown (hts _ kl_M_77) d_M_isRow_3 ?_
  refine k_si (rest := []) (c_M_in l E (a0.toInt64) (0 : Int64) (2 : Int64)) mi_M_in ml_M_46 hx hb hml hts hown hK va_nil hl ⟨rfl, rfl⟩ ⟨(Nat.le_of_ble_eq_true rfl), (Nat.le_of_ble_eq_true rfl)⟩ ⟨Nat.zero_le _, Nat.zero_le _⟩ rfl (Nat.le_of_ble_eq_true rfl) rfl d_M_isRow_6 ?_
  exact hend _ _ _ (by rw [s_M_isRow]) d_M_isRow_9
theorem row3 {r : Int32} (h : ¬ s_M_isRow r = 0) : 0 ≤ r.toInt ∧ r.toInt < 3 := by
  rw [s_M_isRow] at h
  have q := in_1 h
  have e2 : (2 : Int64).toInt = 2 := by decide
  rw [i64_of, z64, e2] at q
  omega
theorem row_ix {r : Int32} (h : ¬ s_M_isRow r = 0) : vp_in r 3 := vin_k (row3 h)

def s_M_row_b32 : Nat → St → Int32 → Int32 → Int32 × St
  | 0, Z, _, _ => (0, Z)
  | n + 1, Z, x1, x3 => (if (20 : Int32) ≤ x3 then ((1 : Int32), Z) else (s_M_row_b32 n (sL Z 0 (((20 : Int32) * x1) + x3).toNatClampNeg (0 : Int64)) x1 (x3 + 1)))
def s_M_row (S : St) (a1 : Int32) (a2 : Int32) : Int32 × St := (if (s_M_isRow a1) = 0 then ((-1 : Int32), S) else (if a2 ≤ (20 : Int32) then (if (-1 : Int32) ≤ a2 then (s_M_row_b32 (21) (sA S 7 a1.toNatClampNeg a2) a1 (0 : Int32)) else ((-14 : Int32), S)) else ((-1 : Int32), S)))
set_option maxRecDepth 20000 in
theorem c_M_row (l : Launch) (E : Cx) (ad : Nat → Nat) (X : va_W) (S : St) (A : Nat → Prop) (a1 : Int32) (a2 : Int32) : Met l y_M_row (Cond.code y_M_row b_M_row 4 (some .int) :: TB) (rk 2 45) (va_Pc [.ref (ad 0), .int a1, .int a2] (preM E A (fun S => wm E ad S ++ X) S)) (va_Qi (fun r u => (r, u) = (s_M_row S a1 a2)) (fun u t => va_P E.1 vwCl ((fun S => wm E ad S ++ X) u) t.heap) A) 0 0 A := by
  refine w_muI rfl (Nat.le_of_ble_eq_true rfl) rfl ?_
  intro p e s m args below meth c Q ls hx hb hml hts hown hP hK hD hS hl hend
  have hl : lv_has ls 4 [(0, .ref (ad 0)), (1, .int a1), (2, .int a2)] := hl
  have hP : va_P E.1 vwCl (wm E ad S ++ X) s.heap := hP
  have hown : s.vm.findClass R_M = some m.cls := hown
  have hD : ∀ S' : St, va_D A (wm E ad S' ++ X) := hD
  have b32 : ∀ (n : Nat) (Z : St) (x1 : Int32) (x3 : Int32) (H : Heap) (locs : List Loc), va_P E.1 vwCl (wm E ad Z ++ X) H → va_S A s.heap H locs → (UP n 20 x3) → (0 ≤ x1.toInt ∧ x1.toInt < 3) → ∀ (ls : Array Slot), lv_has ls 4 [(0, .ref (ad 0)), (1, .int x1), (3, .int x3)] → (s_M_row S a1 a2) = s_M_row_b32 n Z x1 x3 → W p l e (rk 2 45) s m args below meth c H locs 0 0 Q (F0 m 32 ls []) := by
    intro n32
    induction n32 with
    | zero => intro Z x1 x3 H locs hP hS hv; exact absurd hv (UP_z)
    | succ n32 ih32 =>
      intro Z x1 x3 H locs hP hS hv hr ls hl hq
      refine lv_iload_n hx hb d_M_row_32 rfl (lv_at hl 2 rfl) ?_
      refine lv_bipush (v := (20 : Int32)) hx hb d_M_row_33 rfl ?_
      refine lv_icmp_ge (tgt := 56) hx hb d_M_row_35 (by decide) (fun c_35 => ?_) (fun c_35 => ?_)
      · refine lv_iconst (v := (1 : Int32)) hx hb d_M_row_56 rfl ?_
        exact hend _ _ _ _ _ _ (by rw [hq, s_M_row_b32, if_pos c_35]) hP hS d_M_row_57
      · refine lv_aload_n hx hb d_M_row_38 rfl (lv_at hl 0 rfl) ?_
        refine g_M_items hx hb hts hown hK hP d_M_row_39 ?_
        refine lv_bipush (v := (20 : Int32)) hx hb d_M_row_42 rfl ?_
        refine lv_iload_n hx hb d_M_row_44 rfl (lv_at hl 1 rfl) ?_
        refine lv_imul hx hb d_M_row_45 ?_
        refine lv_iload_n hx hb d_M_row_46 rfl (lv_at hl 2 rfl) ?_
        refine lv_iadd hx hb d_M_row_47 ?_
        refine lv_lconst (v := (0 : Int64)) hx hb d_M_row_48 rfl ?_
        refine am_items hx hb hK hP hD hS (k := (((20 : Int32) * x1) + x3).toNatClampNeg) rfl (it_ix hr hv.2.2 (n_lt c_35 (by decide))) d_M_row_49 (fun H locs hP hS => ?_)
        have hP : va_P E.1 vwCl (wm E ad (sL Z 0 (((20 : Int32) * x1) + x3).toNatClampNeg (0 : Int64)) ++ X) H := hP
        refine lv_iinc (v := (x3 + 1)) (lv' := [(3, .int (x3 + 1)), (0, .ref (ad 0)), (1, .int x1)]) hx hb d_M_row_50 hl (k := 2) rfl rfl (by decide) rfl (fun ls hl => ?_)
        refine lv_goto (tgt := 32) hx hb d_M_row_53 (by decide) ?_
        exact ih32 (sL Z 0 (((20 : Int32) * x1) + x3).toNatClampNeg (0 : Int64)) x1 (x3 + 1) H locs hP hS (UP_up hv c_35) (hr) ls (lv_sub hl [1, 2, 0] rfl) (by rw [hq, s_M_row_b32, if_neg c_35])
  refine lv_iload_n hx hb d_M_row_0 rfl (lv_at hl 1 rfl) ?_
  refine k_si (rest := []) (c_M_isRow l E a1) mi_M_isRow ml_M_264 hx hb hml hts hown hK va_nil hl ⟨rfl, rfl⟩ ⟨(Nat.le_of_ble_eq_true rfl), (Nat.le_of_ble_eq_true rfl)⟩ ⟨Nat.zero_le _, Nat.zero_le _⟩ rfl (Nat.le_of_ble_eq_true rfl) rfl d_M_row_1 ?_
  refine lv_if_eq (tgt := 13) hx hb d_M_row_4 (by decide) (fun c_4 => ?_) (fun c_4 => ?_)
  · refine lv_iconst (v := (-1 : Int32)) hx hb d_M_row_13 rfl ?_
    exact hend _ _ _ _ _ _ (by rw [s_M_row, if_pos c_4]) hP hS d_M_row_14
  · refine lv_iload_n hx hb d_M_row_7 rfl (lv_at hl 2 rfl) ?_
    refine lv_bipush (v := (20 : Int32)) hx hb d_M_row_8 rfl ?_
    refine lv_icmp_le (tgt := 15) hx hb d_M_row_10 (by decide) (fun c_10 => ?_) (fun c_10 => ?_)
    · refine lv_iload_n hx hb d_M_row_15 rfl (lv_at hl 2 rfl) ?_
      refine lv_iconst (v := (-1 : Int32)) hx hb d_M_row_16 rfl ?_
      refine lv_icmp_ge (tgt := 23) hx hb d_M_row_17 (by decide) (fun c_17 => ?_) (fun c_17 => ?_)
      · refine lv_aload_n hx hb d_M_row_23 rfl (lv_at hl 0 rfl) ?_
        refine g_M_sizes hx hb hts hown hK hP d_M_row_24 ?_
        refine lv_iload_n hx hb d_M_row_27 rfl (lv_at hl 1 rfl) ?_
        refine lv_iload_n hx hb d_M_row_28 rfl (lv_at hl 2 rfl) ?_
        refine am_sizes hx hb hK hP hD hS (k := a1.toNatClampNeg) rfl (row_ix c_4) d_M_row_29 (fun H locs hP hS => ?_)
        have hP : va_P E.1 vwCl (wm E ad (sA S 7 a1.toNatClampNeg a2) ++ X) H := hP
        refine lv_iconst (v := (0 : Int32)) hx hb d_M_row_30 rfl ?_
        refine lv_istore_n (lv' := [(3, .int (0 : Int32)), (0, .ref (ad 0)), (1, .int a1), (2, .int a2)]) hx hb d_M_row_31 rfl hl (by decide) rfl (fun ls hl => ?_)
        exact b32 (21) (sA S 7 a1.toNatClampNeg a2) a1 (0 : Int32) H locs hP hS (UP_in' (by decide) (by decide)) (row3 c_4) ls (lv_sub hl [1, 2, 0] rfl) (by rw [s_M_row, if_neg c_4, if_pos c_10, if_pos c_17])
      · refine lv_bipush (v := (-14 : Int32)) hx hb d_M_row_20 rfl ?_
        exact hend _ _ _ _ _ _ (by rw [s_M_row, if_neg c_4, if_pos c_10, if_neg c_17]) hP hS d_M_row_22
    · refine lv_iconst (v := (-1 : Int32)) hx hb d_M_row_13 rfl ?_
      exact hend _ _ _ _ _ _ (by rw [s_M_row, if_neg c_4, if_neg c_10]) hP hS d_M_row_14

def s_M_put (S : St) (a1 : Int32) (a2 : Int32) (a3 : Int64) : Int32 × St := (if (s_M_isRow a1) = 0 then ((-1 : Int32), S) else (if 0 ≤ (S.2.1 7 a1.toNatClampNeg) then (if (s_M_in (a2.toInt64) (0 : Int64) (((S.2.1 7 a1.toNatClampNeg) - (1 : Int32)).toInt64)) = 0 then ((-13 : Int32), S) else ((1 : Int32), (sL S 0 (((20 : Int32) * a1) + a2).toNatClampNeg a3))) else ((-11 : Int32), S)))
set_option maxRecDepth 20000 in
theorem c_M_put (l : Launch) (E : Cx) (ad : Nat → Nat) (X : va_W) (S : St) (A : Nat → Prop) (a1 : Int32) (a2 : Int32) (a3 : Int64) (hR : RZ (S.2.1 7)) : Met l y_M_put (Cond.code y_M_put b_M_put 5 (some .int) :: TB) (rk 2 45) (va_Pc [.ref (ad 0), .int a1, .int a2, .long a3] (preM E A (fun S => wm E ad S ++ X) S)) (va_Qi (fun r u => (r, u) = (s_M_put S a1 a2 a3)) (fun u t => va_P E.1 vwCl ((fun S => wm E ad S ++ X) u) t.heap) A) 0 0 A := by
  refine w_muI rfl (Nat.le_of_ble_eq_true rfl) rfl ?_
  intro p e s m args below meth c Q ls hx hb hml hts hown hP hK hD hS hl hend
  have hl : lv_has ls 5 [(0, .ref (ad 0)), (1, .int a1), (2, .int a2), (3, .long a3)] := hl
  have hP : va_P E.1 vwCl (wm E ad S ++ X) s.heap := hP
  have hown : s.vm.findClass R_M = some m.cls := hown
  have hD : ∀ S' : St, va_D A (wm E ad S' ++ X) := hD
  refine lv_iload_n hx hb d_M_put_0 rfl (lv_at hl 1 rfl) ?_
  refine k_si (rest := []) (c_M_isRow l E a1) mi_M_isRow ml_M_264 hx hb hml hts hown hK va_nil hl ⟨rfl, rfl⟩ ⟨(Nat.le_of_ble_eq_true rfl), (Nat.le_of_ble_eq_true rfl)⟩ ⟨Nat.zero_le _, Nat.zero_le _⟩ rfl (Nat.le_of_ble_eq_true rfl) rfl d_M_put_1 ?_
  refine lv_if_ne (tgt := 9) hx hb d_M_put_4 (by decide) (fun c_4 => ?_) (fun c_4 => ?_)
  · refine lv_aload_n hx hb d_M_put_9 rfl (lv_at hl 0 rfl) ?_
    refine g_M_sizes hx hb hts hown hK hP d_M_put_10 ?_
    refine lv_iload_n hx hb d_M_put_13 rfl (lv_at hl 1 rfl) ?_
    refine lm_sizes hx hb hK hP (k := a1.toNatClampNeg) (v := (S.2.1 7 a1.toNatClampNeg)) rfl rfl (row_ix c_4) d_M_put_14 ?_
    refine lv_if_ge (tgt := 21) hx hb d_M_put_15 (by decide) (fun c_15 => ?_) (fun c_15 => ?_)
    · refine lv_iload_n hx hb d_M_put_21 rfl (lv_at hl 2 rfl) ?_
      refine lv_i2l hx hb d_M_put_22 rfl ?_
      refine lv_lconst (v := (0 : Int64)) hx hb d_M_put_23 rfl ?_
      refine lv_aload_n hx hb d_M_put_24 rfl (lv_at hl 0 rfl) ?_
      refine g_M_sizes hx hb hts hown hK hP d_M_put_25 ?_
      refine lv_iload_n hx hb d_M_put_28 rfl (lv_at hl 1 rfl) ?_
      refine lm_sizes hx hb hK hP (k := a1.toNatClampNeg) (v := (S.2.1 7 a1.toNatClampNeg)) rfl rfl (row_ix c_4) d_M_put_29 ?_
      refine lv_iconst (v := (1 : Int32)) hx hb d_M_put_30 rfl ?_
      refine lv_isub hx hb d_M_put_31 ?_
      refine lv_i2l hx hb d_M_put_32 rfl ?_
      refine k_si (rest := []) (c_M_in l E (a2.toInt64) (0 : Int64) (((S.2.1 7 a1.toNatClampNeg) - (1 : Int32)).toInt64)) mi_M_in ml_M_46 hx hb hml hts hown hK va_nil hl ⟨rfl, rfl⟩ ⟨(Nat.le_of_ble_eq_true rfl), (Nat.le_of_ble_eq_true rfl)⟩ ⟨Nat.zero_le _, Nat.zero_le _⟩ rfl (Nat.le_of_ble_eq_true rfl) rfl d_M_put_33 ?_
      refine lv_if_ne (tgt := 42) hx hb d_M_put_36 (by decide) (fun c_36 => ?_) (fun c_36 => ?_)
      · refine lv_aload_n hx hb d_M_put_42 rfl (lv_at hl 0 rfl) ?_
        refine g_M_items hx hb hts hown hK hP d_M_put_43 ?_
        refine lv_bipush (v := (20 : Int32)) hx hb d_M_put_46 rfl ?_
        refine lv_iload_n hx hb d_M_put_48 rfl (lv_at hl 1 rfl) ?_
        refine lv_imul hx hb d_M_put_49 ?_
        refine lv_iload_n hx hb d_M_put_50 rfl (lv_at hl 2 rfl) ?_
        refine lv_iadd hx hb d_M_put_51 ?_
        refine lv_lload_n hx hb d_M_put_52 rfl (lv_at hl 3 rfl) ?_
        refine am_items hx hb hK hP hD hS (k := (((20 : Int32) * a1) + a2).toNatClampNeg) rfl (it_ix (row3 c_4) (pt_in hR (row3 c_4) c_36).1 (Int.lt_of_lt_of_le (pt_in hR (row3 c_4) c_36).2 (hR _ (rw_tn (row3 c_4))).2)) d_M_put_53 (fun H locs hP hS => ?_)
        have hP : va_P E.1 vwCl (wm E ad (sL S 0 (((20 : Int32) * a1) + a2).toNatClampNeg a3) ++ X) H := hP
        refine lv_iconst (v := (1 : Int32)) hx hb d_M_put_54 rfl ?_
        exact hend _ _ _ _ _ _ (by rw [s_M_put, if_neg c_4, if_pos c_15, if_neg c_36]) hP hS d_M_put_55
      · refine lv_bipush (v := (-13 : Int32)) hx hb d_M_put_39 rfl ?_
        exact hend _ _ _ _ _ _ (by rw [s_M_put, if_neg c_4, if_pos c_15, if_pos c_36]) hP hS d_M_put_41
    · refine lv_bipush (v := (-11 : Int32)) hx hb d_M_put_18 rfl ?_
      exact hend _ _ _ _ _ _ (by rw [s_M_put, if_neg c_4, if_neg c_15]) hP hS d_M_put_20
  · refine lv_iconst (v := (-1 : Int32)) hx hb d_M_put_7 rfl ?_
    exact hend _ _ _ _ _ _ (by rw [s_M_put, if_pos c_4]) hP hS d_M_put_8

def s_M_get (S : St) (a1 : Int32) (a2 : Int32) : Int64 := (if (s_M_isRow a1) = 0 then (-9223372036854775808 : Int64) else (if (s_M_in (a2.toInt64) (0 : Int64) (((S.2.1 7 a1.toNatClampNeg) - (1 : Int32)).toInt64)) = 0 then (-9223372036854775808 : Int64) else (S.2.2 0 (((20 : Int32) * a1) + a2).toNatClampNeg)))
set_option maxRecDepth 20000 in
theorem c_M_get (l : Launch) (E : Cx) (ad : Nat → Nat) (X : va_W) (S : St) (a1 : Int32) (a2 : Int32) (hR : RZ (S.2.1 7)) : Met l y_M_get (Cond.code y_M_get b_M_get 3 (some .long) :: TB) (rk 2 45) (va_Pc [.ref (ad 0), .int a1, .int a2] (preR E (wm E ad S ++ X))) (vp_Sl (fun r => r = (s_M_get S a1 a2))) 0 0 (fun _ => False) := by
  refine w_roL rfl (Nat.le_of_ble_eq_true rfl) ?_
  intro p e s m args below meth c Q ls hx hb hml hts hown hP hK hl hend
  have hl : lv_has ls 3 [(0, .ref (ad 0)), (1, .int a1), (2, .int a2)] := hl
  have hP : va_P E.1 vwCl (wm E ad S ++ X) s.heap := hP
  have hown : s.vm.findClass R_M = some m.cls := hown
  refine lv_iload_n hx hb d_M_get_0 rfl (lv_at hl 1 rfl) ?_
  refine k_si (rest := []) (c_M_isRow l E a1) mi_M_isRow ml_M_264 hx hb hml hts hown hK va_nil hl ⟨rfl, rfl⟩ ⟨(Nat.le_of_ble_eq_true rfl), (Nat.le_of_ble_eq_true rfl)⟩ ⟨Nat.zero_le _, Nat.zero_le _⟩ rfl (Nat.le_of_ble_eq_true rfl) rfl d_M_get_1 ?_
  refine lv_if_eq (tgt := 39) hx hb d_M_get_4 (by decide) (fun c_4 => ?_) (fun c_4 => ?_)
  · refine lv_ldc2 (v := (-9223372036854775808 : Int64)) hx hb hown (hts _ kl_M_117) d_M_get_39 ?_
    exact hend _ _ _ (by rw [s_M_get, if_pos c_4]) d_M_get_42
  · refine lv_iload_n hx hb d_M_get_7 rfl (lv_at hl 2 rfl) ?_
    refine lv_i2l hx hb d_M_get_8 rfl ?_
    refine lv_lconst (v := (0 : Int64)) hx hb d_M_get_9 rfl ?_
    refine lv_aload_n hx hb d_M_get_10 rfl (lv_at hl 0 rfl) ?_
    refine g_M_sizes hx hb hts hown hK hP d_M_get_11 ?_
    refine lv_iload_n hx hb d_M_get_14 rfl (lv_at hl 1 rfl) ?_
    refine lm_sizes hx hb hK hP (k := a1.toNatClampNeg) (v := (S.2.1 7 a1.toNatClampNeg)) rfl rfl (row_ix c_4) d_M_get_15 ?_
    refine lv_iconst (v := (1 : Int32)) hx hb d_M_get_16 rfl ?_
    refine lv_isub hx hb d_M_get_17 ?_
    refine lv_i2l hx hb d_M_get_18 rfl ?_
    refine k_si (rest := []) (c_M_in l E (a2.toInt64) (0 : Int64) (((S.2.1 7 a1.toNatClampNeg) - (1 : Int32)).toInt64)) mi_M_in ml_M_46 hx hb hml hts hown hK va_nil hl ⟨rfl, rfl⟩ ⟨(Nat.le_of_ble_eq_true rfl), (Nat.le_of_ble_eq_true rfl)⟩ ⟨Nat.zero_le _, Nat.zero_le _⟩ rfl (Nat.le_of_ble_eq_true rfl) rfl d_M_get_19 ?_
    refine lv_if_eq (tgt := 39) hx hb d_M_get_22 (by decide) (fun c_22 => ?_) (fun c_22 => ?_)
    · refine lv_ldc2 (v := (-9223372036854775808 : Int64)) hx hb hown (hts _ kl_M_117) d_M_get_39 ?_
      exact hend _ _ _ (by rw [s_M_get, if_neg c_4, if_pos c_22]) d_M_get_42
    · refine lv_aload_n hx hb d_M_get_25 rfl (lv_at hl 0 rfl) ?_
      refine g_M_items hx hb hts hown hK hP d_M_get_26 ?_
      refine lv_bipush (v := (20 : Int32)) hx hb d_M_get_29 rfl ?_
      refine lv_iload_n hx hb d_M_get_31 rfl (lv_at hl 1 rfl) ?_
      refine lv_imul hx hb d_M_get_32 ?_
      refine lv_iload_n hx hb d_M_get_33 rfl (lv_at hl 2 rfl) ?_
      refine lv_iadd hx hb d_M_get_34 ?_
      refine lm_items hx hb hK hP (k := (((20 : Int32) * a1) + a2).toNatClampNeg) (v := (S.2.2 0 (((20 : Int32) * a1) + a2).toNatClampNeg)) rfl rfl (it_ix (row3 c_4) (pt_in hR (row3 c_4) c_22).1 (Int.lt_of_lt_of_le (pt_in hR (row3 c_4) c_22).2 (hR _ (rw_tn (row3 c_4))).2)) d_M_get_35 ?_
      refine lv_goto (tgt := 42) hx hb d_M_get_36 (by decide) ?_
      exact hend _ _ _ (by rw [s_M_get, if_neg c_4, if_neg c_22]) d_M_get_42

def s_M_lay_b54 : Nat → St → Int32 → Int32 → Int32 → Int32 × St
  | 0, Z, _, _, _ => (0, Z)
  | n + 1, Z, x1, x2, x3 => (if x2 ≤ x3 then (x2, Z) else (s_M_lay_b54 n (sL Z 0 (((20 : Int32) * x1) + x3).toNatClampNeg ((s_M_teeth Z x3).toInt64)) x1 x2 (x3 + 1)))
def s_M_lay (S : St) (a1 : Int32) : Int32 × St := (if (s_M_isRow a1) = 0 then ((-1 : Int32), S) else (if 0 ≤ (S.2.1 7 a1.toNatClampNeg) then (if (S.2.1 0 0) ≤ (S.2.1 7 a1.toNatClampNeg) then (s_M_lay_b54 (((S.2.1 0 0)).toInt.toNat + 1) S a1 (S.2.1 0 0) (0 : Int32)) else (s_M_lay_b54 (((S.2.1 7 a1.toNatClampNeg)).toInt.toNat + 1) S a1 (S.2.1 7 a1.toNatClampNeg) (0 : Int32))) else ((-11 : Int32), S)))
set_option maxRecDepth 20000 in
theorem c_M_lay (l : Launch) (E : Cx) (ad : Nat → Nat) (X : va_W) (S : St) (A : Nat → Prop) (a1 : Int32) (hG : GI (S.2.1 0)) : Met l y_M_lay (Cond.code y_M_lay b_M_lay 4 (some .int) :: TB) (rk 2 45) (va_Pc [.ref (ad 0), .int a1] (preM E A (fun S => wm E ad S ++ X) S)) (va_Qi (fun r u => (r, u) = (s_M_lay S a1)) (fun u t => va_P E.1 vwCl ((fun S => wm E ad S ++ X) u) t.heap) A) 0 0 A := by
  refine w_muI rfl (Nat.le_of_ble_eq_true rfl) rfl ?_
  intro p e s m args below meth c Q ls hx hb hml hts hown hP hK hD hS hl hend
  have hl : lv_has ls 4 [(0, .ref (ad 0)), (1, .int a1)] := hl
  have hP : va_P E.1 vwCl (wm E ad S ++ X) s.heap := hP
  have hown : s.vm.findClass R_M = some m.cls := hown
  have hD : ∀ S' : St, va_D A (wm E ad S' ++ X) := hD
  have b54 : ∀ (n : Nat) (Z : St) (x1 : Int32) (x2 : Int32) (x3 : Int32) (H : Heap) (locs : List Loc), va_P E.1 vwCl (wm E ad Z ++ X) H → va_S A s.heap H locs → (UP n x2 x3) → (0 ≤ x1.toInt ∧ x1.toInt < 3) → (x2.toInt ≤ 16) → ∀ (ls : Array Slot), lv_has ls 4 [(0, .ref (ad 0)), (1, .int x1), (2, .int x2), (3, .int x3)] → (s_M_lay S a1) = s_M_lay_b54 n Z x1 x2 x3 → W p l e (rk 2 45) s m args below meth c H locs 0 0 Q (F0 m 54 ls []) := by
    intro n54
    induction n54 with
    | zero => intro Z x1 x2 x3 H locs hP hS hv; exact absurd hv (UP_z)
    | succ n54 ih54 =>
      intro Z x1 x2 x3 H locs hP hS hv hr h2 ls hl hq
      refine lv_iload_n hx hb d_M_lay_54 rfl (lv_at hl 3 rfl) ?_
      refine lv_iload_n hx hb d_M_lay_55 rfl (lv_at hl 2 rfl) ?_
      refine lv_icmp_ge (tgt := 82) hx hb d_M_lay_56 (by decide) (fun c_56 => ?_) (fun c_56 => ?_)
      · refine lv_iload_n hx hb d_M_lay_82 rfl (lv_at hl 2 rfl) ?_
        exact hend _ _ _ _ _ _ (by rw [hq, s_M_lay_b54, if_pos c_56]) hP hS d_M_lay_83
      · refine lv_aload_n hx hb d_M_lay_59 rfl (lv_at hl 0 rfl) ?_
        refine g_M_items hx hb hts hown hK hP d_M_lay_60 ?_
        refine lv_bipush (v := (20 : Int32)) hx hb d_M_lay_63 rfl ?_
        refine lv_iload_n hx hb d_M_lay_65 rfl (lv_at hl 1 rfl) ?_
        refine lv_imul hx hb d_M_lay_66 ?_
        refine lv_iload_n hx hb d_M_lay_67 rfl (lv_at hl 3 rfl) ?_
        refine lv_iadd hx hb d_M_lay_68 ?_
        refine lv_aload_n hx hb d_M_lay_69 rfl (lv_at hl 0 rfl) ?_
        refine lv_iload_n hx hb d_M_lay_70 rfl (lv_at hl 3 rfl) ?_
        refine k_vi (rest := [.int (((20 : Int32) * x1) + x3), .ref (ad 11)]) (c_M_teeth l E ad X Z x3 ⟨hv.2.2, n_lt c_56 h2⟩) mi_M_teeth ml_M_50 hx hb hml hts hown hK hP rvM hl ⟨rfl, rfl⟩ ⟨(Nat.le_of_ble_eq_true rfl), (Nat.le_of_ble_eq_true rfl)⟩ ⟨Nat.zero_le _, Nat.zero_le _⟩ rfl (Nat.le_of_ble_eq_true rfl) rfl d_M_lay_71 ?_
        refine lv_i2l hx hb d_M_lay_74 rfl ?_
        refine am_items hx hb hK hP hD hS (k := (((20 : Int32) * x1) + x3).toNatClampNeg) rfl (it_ix hr hv.2.2 (Int.lt_of_lt_of_le (n_lt c_56 h2) (by decide))) d_M_lay_75 (fun H locs hP hS => ?_)
        have hP : va_P E.1 vwCl (wm E ad (sL Z 0 (((20 : Int32) * x1) + x3).toNatClampNeg ((s_M_teeth Z x3).toInt64)) ++ X) H := hP
        refine lv_iinc (v := (x3 + 1)) (lv' := [(3, .int (x3 + 1)), (0, .ref (ad 0)), (1, .int x1), (2, .int x2)]) hx hb d_M_lay_76 hl (k := 3) rfl rfl (by decide) rfl (fun ls hl => ?_)
        refine lv_goto (tgt := 54) hx hb d_M_lay_79 (by decide) ?_
        exact ih54 (sL Z 0 (((20 : Int32) * x1) + x3).toNatClampNeg ((s_M_teeth Z x3).toInt64)) x1 x2 (x3 + 1) H locs hP hS (UP_up hv c_56) (hr) (h2) ls (lv_sub hl [1, 2, 3, 0] rfl) (by rw [hq, s_M_lay_b54, if_neg c_56])
  refine lv_iload_n hx hb d_M_lay_0 rfl (lv_at hl 1 rfl) ?_
  refine k_si (rest := []) (c_M_isRow l E a1) mi_M_isRow ml_M_264 hx hb hml hts hown hK va_nil hl ⟨rfl, rfl⟩ ⟨(Nat.le_of_ble_eq_true rfl), (Nat.le_of_ble_eq_true rfl)⟩ ⟨Nat.zero_le _, Nat.zero_le _⟩ rfl (Nat.le_of_ble_eq_true rfl) rfl d_M_lay_1 ?_
  refine lv_if_ne (tgt := 9) hx hb d_M_lay_4 (by decide) (fun c_4 => ?_) (fun c_4 => ?_)
  · refine lv_aload_n hx hb d_M_lay_9 rfl (lv_at hl 0 rfl) ?_
    refine g_M_sizes hx hb hts hown hK hP d_M_lay_10 ?_
    refine lv_iload_n hx hb d_M_lay_13 rfl (lv_at hl 1 rfl) ?_
    refine lm_sizes hx hb hK hP (k := a1.toNatClampNeg) (v := (S.2.1 7 a1.toNatClampNeg)) rfl rfl (row_ix c_4) d_M_lay_14 ?_
    refine lv_if_ge (tgt := 21) hx hb d_M_lay_15 (by decide) (fun c_15 => ?_) (fun c_15 => ?_)
    · refine lv_aload_n hx hb d_M_lay_21 rfl (lv_at hl 0 rfl) ?_
      refine g_M_sizes hx hb hts hown hK hP d_M_lay_22 ?_
      refine lv_iload_n hx hb d_M_lay_25 rfl (lv_at hl 1 rfl) ?_
      refine lm_sizes hx hb hK hP (k := a1.toNatClampNeg) (v := (S.2.1 7 a1.toNatClampNeg)) rfl rfl (row_ix c_4) d_M_lay_26 ?_
      refine lv_aload_n hx hb d_M_lay_27 rfl (lv_at hl 0 rfl) ?_
      refine g_M_g hx hb hts hown hK hP d_M_lay_28 ?_
      refine lv_iconst (v := (0 : Int32)) hx hb d_M_lay_31 rfl ?_
      refine lm_g hx hb hK hP (k := 0) (v := (S.2.1 0 0)) rfl rfl (vin_k (by decide)) d_M_lay_32 ?_
      refine lv_icmp_ge (tgt := 45) hx hb d_M_lay_33 (by decide) (fun c_33 => ?_) (fun c_33 => ?_)
      · refine lv_aload_n hx hb d_M_lay_45 rfl (lv_at hl 0 rfl) ?_
        refine g_M_g hx hb hts hown hK hP d_M_lay_46 ?_
        refine lv_iconst (v := (0 : Int32)) hx hb d_M_lay_49 rfl ?_
        refine lm_g hx hb hK hP (k := 0) (v := (S.2.1 0 0)) rfl rfl (vin_k (by decide)) d_M_lay_50 ?_
        refine lv_istore_n (lv' := [(2, .int (S.2.1 0 0)), (0, .ref (ad 0)), (1, .int a1)]) hx hb d_M_lay_51 rfl hl (by decide) rfl (fun ls hl => ?_)
        refine lv_iconst (v := (0 : Int32)) hx hb d_M_lay_52 rfl ?_
        refine lv_istore_n (lv' := [(3, .int (0 : Int32)), (2, .int (S.2.1 0 0)), (0, .ref (ad 0)), (1, .int a1)]) hx hb d_M_lay_53 rfl hl (by decide) rfl (fun ls hl => ?_)
        exact b54 (((S.2.1 0 0)).toInt.toNat + 1) S a1 (S.2.1 0 0) (0 : Int32) s.heap [] hP hS (UP_in (by decide)) (row3 c_4) (by first | exact hG.1.2 | exact Int.le_of_lt (n_lt c_33 hG.1.2)) ls (lv_sub hl [2, 3, 1, 0] rfl) (by rw [s_M_lay, if_neg c_4, if_pos c_15, if_pos c_33])
      · refine lv_aload_n hx hb d_M_lay_36 rfl (lv_at hl 0 rfl) ?_
        refine g_M_sizes hx hb hts hown hK hP d_M_lay_37 ?_
        refine lv_iload_n hx hb d_M_lay_40 rfl (lv_at hl 1 rfl) ?_
        refine lm_sizes hx hb hK hP (k := a1.toNatClampNeg) (v := (S.2.1 7 a1.toNatClampNeg)) rfl rfl (row_ix c_4) d_M_lay_41 ?_
        refine lv_goto (tgt := 51) hx hb d_M_lay_42 (by decide) ?_
        refine lv_istore_n (lv' := [(2, .int (S.2.1 7 a1.toNatClampNeg)), (0, .ref (ad 0)), (1, .int a1)]) hx hb d_M_lay_51 rfl hl (by decide) rfl (fun ls hl => ?_)
        refine lv_iconst (v := (0 : Int32)) hx hb d_M_lay_52 rfl ?_
        refine lv_istore_n (lv' := [(3, .int (0 : Int32)), (2, .int (S.2.1 7 a1.toNatClampNeg)), (0, .ref (ad 0)), (1, .int a1)]) hx hb d_M_lay_53 rfl hl (by decide) rfl (fun ls hl => ?_)
        exact b54 (((S.2.1 7 a1.toNatClampNeg)).toInt.toNat + 1) S a1 (S.2.1 7 a1.toNatClampNeg) (0 : Int32) s.heap [] hP hS (UP_in (by decide)) (row3 c_4) (by first | exact hG.1.2 | exact Int.le_of_lt (n_lt c_33 hG.1.2)) ls (lv_sub hl [2, 3, 1, 0] rfl) (by rw [s_M_lay, if_neg c_4, if_pos c_15, if_neg c_33])
    · refine lv_bipush (v := (-11 : Int32)) hx hb d_M_lay_18 rfl ?_
      exact hend _ _ _ _ _ _ (by rw [s_M_lay, if_neg c_4, if_neg c_15]) hP hS d_M_lay_20
  · refine lv_iconst (v := (-1 : Int32)) hx hb d_M_lay_7 rfl ?_
    exact hend _ _ _ _ _ _ (by rw [s_M_lay, if_pos c_4]) hP hS d_M_lay_8

def s_M_judge_b23 (S : St) : Nat → Int32 → Int32 → Int32
  | 0, _, _ => 0
  | n + 1, x1, x2 => (if (S.2.1 7 x1.toNatClampNeg) ≤ x2 then (-2 : Int32) else (if (s_M_isWheel S x2) = 0 then x2 else (if (lg_cmp (S.2.2 0 (((20 : Int32) * x1) + x2).toNatClampNeg) ((s_M_teeth S x2).toInt64)) = 0 then (s_M_judge_b23 S n x1 (x2 + 1)) else x2)))
def s_M_judge (S : St) (a1 : Int32) : Int32 := (if (s_M_isRow a1) = 0 then (-1 : Int32) else (if 0 ≤ (S.2.1 7 a1.toNatClampNeg) then (s_M_judge_b23 S ((S.2.1 7 (a1).toNatClampNeg).toInt.toNat + 1) a1 (0 : Int32)) else (-11 : Int32)))
set_option maxRecDepth 20000 in
theorem c_M_judge (l : Launch) (E : Cx) (ad : Nat → Nat) (X : va_W) (S : St) (a1 : Int32) (hG : GI (S.2.1 0)) (hR : RZ (S.2.1 7)) : Met l y_M_judge (Cond.code y_M_judge b_M_judge 3 (some .int) :: TB) (rk 2 46) (va_Pc [.ref (ad 0), .int a1] (preR E (wm E ad S ++ X))) (vp_Si (fun r => r = (s_M_judge S a1))) 0 0 (fun _ => False) := by
  refine w_roI rfl (Nat.le_of_ble_eq_true rfl) rfl ?_
  intro p e s m args below meth c Q ls hx hb hml hts hown hP hK hl hend
  have hl : lv_has ls 3 [(0, .ref (ad 0)), (1, .int a1)] := hl
  have hP : va_P E.1 vwCl (wm E ad S ++ X) s.heap := hP
  have hown : s.vm.findClass R_M = some m.cls := hown
  have b23 : ∀ (n : Nat) (x1 : Int32) (x2 : Int32), (UP n (S.2.1 7 x1.toNatClampNeg) x2) → (0 ≤ x1.toInt ∧ x1.toInt < 3) → ∀ (ls : Array Slot), lv_has ls 3 [(0, .ref (ad 0)), (1, .int x1), (2, .int x2)] → (s_M_judge S a1) = s_M_judge_b23 S n x1 x2 → W p l e (rk 2 46) s m args below meth c s.heap [] 0 0 Q (F0 m 23 ls []) := by
    intro n23
    induction n23 with
    | zero => intro x1 x2 hv; exact absurd hv (UP_z)
    | succ n23 ih23 =>
      intro x1 x2 hv hr ls hl hq
      refine lv_iload_n hx hb d_M_judge_23 rfl (lv_at hl 2 rfl) ?_
      refine lv_aload_n hx hb d_M_judge_24 rfl (lv_at hl 0 rfl) ?_
      refine g_M_sizes hx hb hts hown hK hP d_M_judge_25 ?_
      refine lv_iload_n hx hb d_M_judge_28 rfl (lv_at hl 1 rfl) ?_
      refine lm_sizes hx hb hK hP (k := x1.toNatClampNeg) (v := (S.2.1 7 x1.toNatClampNeg)) rfl rfl (vin_k hr) d_M_judge_29 ?_
      refine lv_icmp_ge (tgt := 70) hx hb d_M_judge_30 (by decide) (fun c_30 => ?_) (fun c_30 => ?_)
      · refine lv_bipush (v := (-2 : Int32)) hx hb d_M_judge_70 rfl ?_
        exact hend _ _ _ (by rw [hq, s_M_judge_b23, if_pos c_30]) d_M_judge_72
      · refine lv_aload_n hx hb d_M_judge_33 rfl (lv_at hl 0 rfl) ?_
        refine lv_iload_n hx hb d_M_judge_34 rfl (lv_at hl 2 rfl) ?_
        refine k_vi (rest := []) (c_M_isWheel l E ad X S x2) mi_M_isWheel ml_M_66 hx hb hml hts hown hK hP rvM hl ⟨rfl, rfl⟩ ⟨(Nat.le_of_ble_eq_true rfl), (Nat.le_of_ble_eq_true rfl)⟩ ⟨Nat.zero_le _, Nat.zero_le _⟩ rfl (Nat.le_of_ble_eq_true rfl) rfl d_M_judge_35 ?_
        refine lv_if_eq (tgt := 62) hx hb d_M_judge_38 (by decide) (fun c_38 => ?_) (fun c_38 => ?_)
        · refine lv_iload_n hx hb d_M_judge_62 rfl (lv_at hl 2 rfl) ?_
          exact hend _ _ _ (by rw [hq, s_M_judge_b23, if_neg c_30, if_pos c_38]) d_M_judge_63
        · refine lv_aload_n hx hb d_M_judge_41 rfl (lv_at hl 0 rfl) ?_
          refine g_M_items hx hb hts hown hK hP d_M_judge_42 ?_
          refine lv_bipush (v := (20 : Int32)) hx hb d_M_judge_45 rfl ?_
          refine lv_iload_n hx hb d_M_judge_47 rfl (lv_at hl 1 rfl) ?_
          refine lv_imul hx hb d_M_judge_48 ?_
          refine lv_iload_n hx hb d_M_judge_49 rfl (lv_at hl 2 rfl) ?_
          refine lv_iadd hx hb d_M_judge_50 ?_
          refine lm_items hx hb hK hP (k := (((20 : Int32) * x1) + x2).toNatClampNeg) (v := (S.2.2 0 (((20 : Int32) * x1) + x2).toNatClampNeg)) rfl rfl (it_ix hr hv.2.2 (n_lt c_30 (hR _ (rw_tn hr)).2)) d_M_judge_51 ?_
          refine lv_aload_n hx hb d_M_judge_52 rfl (lv_at hl 0 rfl) ?_
          refine lv_iload_n hx hb d_M_judge_53 rfl (lv_at hl 2 rfl) ?_
          refine k_vi (rest := [.long (S.2.2 0 (((20 : Int32) * x1) + x2).toNatClampNeg)]) (c_M_teeth l E ad X S x2 (isW16 hG c_38)) mi_M_teeth ml_M_50 hx hb hml hts hown hK hP rvM hl ⟨rfl, rfl⟩ ⟨(Nat.le_of_ble_eq_true rfl), (Nat.le_of_ble_eq_true rfl)⟩ ⟨Nat.zero_le _, Nat.zero_le _⟩ rfl (Nat.le_of_ble_eq_true rfl) rfl d_M_judge_54 ?_
          refine lv_i2l hx hb d_M_judge_57 rfl ?_
          refine W.lcmp hx hb d_M_judge_58 ?_
          refine lv_if_eq (tgt := 64) hx hb d_M_judge_59 (by decide) (fun c_59 => ?_) (fun c_59 => ?_)
          · refine lv_iinc (v := (x2 + 1)) (lv' := [(2, .int (x2 + 1)), (0, .ref (ad 0)), (1, .int x1)]) hx hb d_M_judge_64 hl (k := 2) rfl rfl (by decide) rfl (fun ls hl => ?_)
            refine lv_goto (tgt := 23) hx hb d_M_judge_67 (by decide) ?_
            exact ih23 x1 (x2 + 1) (UP_up hv c_30) (hr) ls (lv_sub hl [1, 2, 0] rfl) (by rw [hq, s_M_judge_b23, if_neg c_30, if_neg c_38, if_pos c_59])
          · refine lv_iload_n hx hb d_M_judge_62 rfl (lv_at hl 2 rfl) ?_
            exact hend _ _ _ (by rw [hq, s_M_judge_b23, if_neg c_30, if_neg c_38, if_neg c_59]) d_M_judge_63
  refine lv_iload_n hx hb d_M_judge_0 rfl (lv_at hl 1 rfl) ?_
  refine k_si (rest := []) (c_M_isRow l E a1) mi_M_isRow ml_M_264 hx hb hml hts hown hK va_nil hl ⟨rfl, rfl⟩ ⟨(Nat.le_of_ble_eq_true rfl), (Nat.le_of_ble_eq_true rfl)⟩ ⟨Nat.zero_le _, Nat.zero_le _⟩ rfl (Nat.le_of_ble_eq_true rfl) rfl d_M_judge_1 ?_
  refine lv_if_ne (tgt := 9) hx hb d_M_judge_4 (by decide) (fun c_4 => ?_) (fun c_4 => ?_)
  · refine lv_aload_n hx hb d_M_judge_9 rfl (lv_at hl 0 rfl) ?_
    refine g_M_sizes hx hb hts hown hK hP d_M_judge_10 ?_
    refine lv_iload_n hx hb d_M_judge_13 rfl (lv_at hl 1 rfl) ?_
    refine lm_sizes hx hb hK hP (k := a1.toNatClampNeg) (v := (S.2.1 7 a1.toNatClampNeg)) rfl rfl (row_ix c_4) d_M_judge_14 ?_
    refine lv_if_ge (tgt := 21) hx hb d_M_judge_15 (by decide) (fun c_15 => ?_) (fun c_15 => ?_)
    · refine lv_iconst (v := (0 : Int32)) hx hb d_M_judge_21 rfl ?_
      refine lv_istore_n (lv' := [(2, .int (0 : Int32)), (0, .ref (ad 0)), (1, .int a1)]) hx hb d_M_judge_22 rfl hl (by decide) rfl (fun ls hl => ?_)
      exact b23 ((S.2.1 7 (a1).toNatClampNeg).toInt.toNat + 1) a1 (0 : Int32) (UP_in (by decide)) (row3 c_4) ls (lv_sub hl [1, 2, 0] rfl) (by rw [s_M_judge, if_neg c_4, if_pos c_15])
    · refine lv_bipush (v := (-11 : Int32)) hx hb d_M_judge_18 rfl ?_
      exact hend _ _ _ (by rw [s_M_judge, if_neg c_4, if_neg c_15]) d_M_judge_20
  · refine lv_iconst (v := (-1 : Int32)) hx hb d_M_judge_7 rfl ?_
    exact hend _ _ _ (by rw [s_M_judge, if_pos c_4]) d_M_judge_8

def s_M_image (S : St) : Int32 × St := (((s_M_copies_g_kept S).2.1 0 0), (sV (s_M_copies_g_kept S) 0 (1 : Int32)))
set_option maxRecDepth 20000 in
theorem c_M_image (l : Launch) (E : Cx) (ad : Nat → Nat) (X : va_W) (S : St) (A : Nat → Prop) : Met l y_M_image (Cond.code y_M_image b_M_image 1 (some .int) :: TB) (rk 1 22) (va_Pc [.ref (ad 0)] (preM E A (fun S => wm E ad S ++ X) S)) (va_Qi (fun r u => (r, u) = (s_M_image S)) (fun u t => va_P E.1 vwCl ((fun S => wm E ad S ++ X) u) t.heap) A) 0 0 A := by
  refine w_muI rfl (Nat.le_of_ble_eq_true rfl) rfl ?_
  intro p e s m args below meth c Q ls hx hb hml hts hown hP hK hD hS hl hend
  have hl : lv_has ls 1 [(0, .ref (ad 0))] := hl
  have hP : va_P E.1 vwCl (wm E ad S ++ X) s.heap := hP
  have hown : s.vm.findClass R_M = some m.cls := hown
  have hD : ∀ S' : St, va_D A (wm E ad S' ++ X) := hD
  refine lv_aload_n hx hb d_M_image_0 rfl (lv_at hl 0 rfl) ?_
  refine g_M_g hx hb hts hown hK hP d_M_image_1 ?_
  refine lv_aload_n hx hb d_M_image_4 rfl (lv_at hl 0 rfl) ?_
  refine g_M_kept hx hb hts hown hK hP d_M_image_5 ?_
  refine k_msv (rest := []) (c_M_copies_g_kept l E ad X S A) mi_M_copies ml_M_257 hx hb hml hts hown hK hP hD hS hl ⟨rfl, rfl⟩ ⟨(Nat.le_of_ble_eq_true rfl), (Nat.le_of_ble_eq_true rfl)⟩ ⟨Nat.zero_le _, Nat.zero_le _⟩ rfl (Nat.le_of_ble_eq_true rfl) rfl d_M_image_8 (fun H locs hP hS => ?_)
  have hP : va_P E.1 vwCl (wm E ad (s_M_copies_g_kept S) ++ X) H := hP
  refine lv_aload_n hx hb d_M_image_11 rfl (lv_at hl 0 rfl) ?_
  refine lv_iconst (v := (1 : Int32)) hx hb d_M_image_12 rfl ?_
  refine p_M_isKept hx hb hts hown hK hP hD hS (Or.inr rfl) d_M_image_13 (fun H locs hP hS => ?_)
  have hP : va_P E.1 vwCl (wm E ad (sV (s_M_copies_g_kept S) 0 (1 : Int32)) ++ X) H := hP
  refine lv_aload_n hx hb d_M_image_16 rfl (lv_at hl 0 rfl) ?_
  refine g_M_g hx hb hts hown hK hP d_M_image_17 ?_
  refine lv_iconst (v := (0 : Int32)) hx hb d_M_image_20 rfl ?_
  refine lm_g hx hb hK hP (k := 0) (v := ((s_M_copies_g_kept S).2.1 0 0)) rfl sV_f (vin_k (by decide)) d_M_image_21 ?_
  exact hend _ _ _ _ _ _ (by rw [s_M_image]) hP hS d_M_image_22

def s_M_undo (S : St) : Int32 × St := (if (S.1 0) = 0 then ((-5 : Int32), S) else (((s_M_copies_kept_g S).2.1 0 0), (s_M_copies_kept_g S)))
set_option maxRecDepth 20000 in
theorem c_M_undo (l : Launch) (E : Cx) (ad : Nat → Nat) (X : va_W) (S : St) (A : Nat → Prop) : Met l y_M_undo (Cond.code y_M_undo b_M_undo 1 (some .int) :: TB) (rk 1 22) (va_Pc [.ref (ad 0)] (preM E A (fun S => wm E ad S ++ X) S)) (va_Qi (fun r u => (r, u) = (s_M_undo S)) (fun u t => va_P E.1 vwCl ((fun S => wm E ad S ++ X) u) t.heap) A) 0 0 A := by
  refine w_muI rfl (Nat.le_of_ble_eq_true rfl) rfl ?_
  intro p e s m args below meth c Q ls hx hb hml hts hown hP hK hD hS hl hend
  have hl : lv_has ls 1 [(0, .ref (ad 0))] := hl
  have hP : va_P E.1 vwCl (wm E ad S ++ X) s.heap := hP
  have hown : s.vm.findClass R_M = some m.cls := hown
  have hD : ∀ S' : St, va_D A (wm E ad S' ++ X) := hD
  refine lv_aload_n hx hb d_M_undo_0 rfl (lv_at hl 0 rfl) ?_
  refine g_M_isKept hx hb hts hown hK hP d_M_undo_1 ?_
  refine lv_if_ne (tgt := 10) hx hb d_M_undo_4 (by decide) (fun c_4 => ?_) (fun c_4 => ?_)
  · refine lv_aload_n hx hb d_M_undo_10 rfl (lv_at hl 0 rfl) ?_
    refine g_M_kept hx hb hts hown hK hP d_M_undo_11 ?_
    refine lv_aload_n hx hb d_M_undo_14 rfl (lv_at hl 0 rfl) ?_
    refine g_M_g hx hb hts hown hK hP d_M_undo_15 ?_
    refine k_msv (rest := []) (c_M_copies_kept_g l E ad X S A) mi_M_copies ml_M_257 hx hb hml hts hown hK hP hD hS hl ⟨rfl, rfl⟩ ⟨(Nat.le_of_ble_eq_true rfl), (Nat.le_of_ble_eq_true rfl)⟩ ⟨Nat.zero_le _, Nat.zero_le _⟩ rfl (Nat.le_of_ble_eq_true rfl) rfl d_M_undo_18 (fun H locs hP hS => ?_)
    have hP : va_P E.1 vwCl (wm E ad (s_M_copies_kept_g S) ++ X) H := hP
    refine lv_aload_n hx hb d_M_undo_21 rfl (lv_at hl 0 rfl) ?_
    refine g_M_g hx hb hts hown hK hP d_M_undo_22 ?_
    refine lv_iconst (v := (0 : Int32)) hx hb d_M_undo_25 rfl ?_
    refine lm_g hx hb hK hP (k := 0) (v := ((s_M_copies_kept_g S).2.1 0 0)) rfl rfl (vin_k (by decide)) d_M_undo_26 ?_
    exact hend _ _ _ _ _ _ (by rw [s_M_undo, if_neg c_4]) hP hS d_M_undo_27
  · refine lv_bipush (v := (-5 : Int32)) hx hb d_M_undo_7 rfl ?_
    exact hend _ _ _ _ _ _ (by rw [s_M_undo, if_pos c_4]) hP hS d_M_undo_9
