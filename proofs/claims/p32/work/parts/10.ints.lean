/-! by program (wip/p32/cls.py) -/
def s_N_size (S : St) (i : Nat) : Int32 := (S.1 i)
set_option maxRecDepth 20000 in
theorem c_N_size (l : Launch) (E : Cx) (ad : Nat → Nat) (X : va_W) (S : St) (i : Nat) (hi : i < 16) : Met l y_N_size (Cond.code y_N_size b_N_size 1 (some .int) :: TB) (rk 0 0) (va_Pc [.ref (ad (2 * i))] (preR E (wb E ad S ++ X))) (vp_Si (fun r => r = (s_N_size S i))) 0 0 (fun _ => False) := by
  refine w_roI rfl (Nat.le_of_ble_eq_true rfl) rfl ?_
  intro p e s m args below meth c Q ls hx hb hml hts hown hP hK hl hend
  have hl : lv_has ls 1 [(0, .ref (ad (2 * i)))] := hl
  have hP : va_P E.1 vwCl (wb E ad S ++ X) s.heap := hP
  have hown : s.vm.findClass R_N = some m.cls := hown
  refine lv_aload_n hx hb d_N_size_0 rfl (lv_at hl 0 rfl) ?_
  refine g_N_size hi hx hb hts hown hK hP d_N_size_1 ?_
  exact hend _ _ _ (by rw [s_N_size]) d_N_size_4

def s_N_isFull (S : St) (i : Nat) : Int32 := (if (S.1 i) < (nI (cap i)) then (0 : Int32) else (1 : Int32))
theorem z_N_isFull (S : St) (i : Nat) : (s_N_isFull S i) = 0 ∨ (s_N_isFull S i) = 1 := by rw [s_N_isFull]; exact (ite_z (Or.inl rfl) (Or.inr rfl))
set_option maxRecDepth 20000 in
theorem c_N_isFull (l : Launch) (E : Cx) (ad : Nat → Nat) (X : va_W) (S : St) (i : Nat) (hi : i < 16) : Met l y_N_isFull (Cond.code y_N_isFull b_N_isFull 1 (some .boolean) :: TB) (rk 0 0) (va_Pc [.ref (ad (2 * i))] (preR E (wb E ad S ++ X))) (vp_Si (fun r => r = (s_N_isFull S i))) 0 0 (fun _ => False) := by
  refine w_roI rfl (Nat.le_of_ble_eq_true rfl) (k_nb (z_N_isFull S i)) ?_
  intro p e s m args below meth c Q ls hx hb hml hts hown hP hK hl hend
  have hl : lv_has ls 1 [(0, .ref (ad (2 * i)))] := hl
  have hP : va_P E.1 vwCl (wb E ad S ++ X) s.heap := hP
  have hown : s.vm.findClass R_N = some m.cls := hown
  refine lv_aload_n hx hb d_N_isFull_0 rfl (lv_at hl 0 rfl) ?_
  refine g_N_size hi hx hb hts hown hK hP d_N_isFull_1 ?_
  refine lv_aload_n hx hb d_N_isFull_4 rfl (lv_at hl 0 rfl) ?_
  refine g_N_numbers hi hx hb hts hown hK hP d_N_isFull_5 ?_
  refine n_N_len hi hx hb hK hP d_N_isFull_8 ?_
  refine lv_icmp_lt (tgt := 16) hx hb d_N_isFull_9 (by decide) (fun c_9 => ?_) (fun c_9 => ?_)
  · refine lv_iconst (v := (0 : Int32)) hx hb d_N_isFull_16 rfl ?_
    exact hend _ _ _ (by rw [s_N_isFull, if_pos c_9]) d_N_isFull_17
  · refine lv_iconst (v := (1 : Int32)) hx hb d_N_isFull_12 rfl ?_
    refine lv_goto (tgt := 17) hx hb d_N_isFull_13 (by decide) ?_
    exact hend _ _ _ (by rw [s_N_isFull, if_neg c_9]) d_N_isFull_17

def s_N_has (S : St) (i : Nat) (a1 : Int32) : Int32 := (if a1 < 0 then (0 : Int32) else (if (S.1 i) ≤ a1 then (0 : Int32) else (if (nI (cap i)) ≤ a1 then (0 : Int32) else (1 : Int32))))
theorem z_N_has (S : St) (i : Nat) (a1 : Int32) : (s_N_has S i a1) = 0 ∨ (s_N_has S i a1) = 1 := by rw [s_N_has]; exact (ite_z (Or.inl rfl) (ite_z (Or.inl rfl) (ite_z (Or.inl rfl) (Or.inr rfl))))
set_option maxRecDepth 20000 in
theorem c_N_has (l : Launch) (E : Cx) (ad : Nat → Nat) (X : va_W) (S : St) (i : Nat) (hi : i < 16) (a1 : Int32) : Met l y_N_has (Cond.code y_N_has b_N_has 2 (some .boolean) :: TB) (rk 0 0) (va_Pc [.ref (ad (2 * i)), .int a1] (preR E (wb E ad S ++ X))) (vp_Si (fun r => r = (s_N_has S i a1))) 0 0 (fun _ => False) := by
  refine w_roI rfl (Nat.le_of_ble_eq_true rfl) (k_nb (z_N_has S i a1)) ?_
  intro p e s m args below meth c Q ls hx hb hml hts hown hP hK hl hend
  have hl : lv_has ls 2 [(0, .ref (ad (2 * i))), (1, .int a1)] := hl
  have hP : va_P E.1 vwCl (wb E ad S ++ X) s.heap := hP
  have hown : s.vm.findClass R_N = some m.cls := hown
  refine lv_iload_n hx hb d_N_has_0 rfl (lv_at hl 1 rfl) ?_
  refine lv_if_lt (tgt := 25) hx hb d_N_has_1 (by decide) (fun c_1 => ?_) (fun c_1 => ?_)
  · refine lv_iconst (v := (0 : Int32)) hx hb d_N_has_25 rfl ?_
    exact hend _ _ _ (by rw [s_N_has, if_pos c_1]) d_N_has_26
  · refine lv_iload_n hx hb d_N_has_4 rfl (lv_at hl 1 rfl) ?_
    refine lv_aload_n hx hb d_N_has_5 rfl (lv_at hl 0 rfl) ?_
    refine g_N_size hi hx hb hts hown hK hP d_N_has_6 ?_
    refine lv_icmp_ge (tgt := 25) hx hb d_N_has_9 (by decide) (fun c_9 => ?_) (fun c_9 => ?_)
    · refine lv_iconst (v := (0 : Int32)) hx hb d_N_has_25 rfl ?_
      exact hend _ _ _ (by rw [s_N_has, if_neg c_1, if_pos c_9]) d_N_has_26
    · refine lv_iload_n hx hb d_N_has_12 rfl (lv_at hl 1 rfl) ?_
      refine lv_aload_n hx hb d_N_has_13 rfl (lv_at hl 0 rfl) ?_
      refine g_N_numbers hi hx hb hts hown hK hP d_N_has_14 ?_
      refine n_N_len hi hx hb hK hP d_N_has_17 ?_
      refine lv_icmp_ge (tgt := 25) hx hb d_N_has_18 (by decide) (fun c_18 => ?_) (fun c_18 => ?_)
      · refine lv_iconst (v := (0 : Int32)) hx hb d_N_has_25 rfl ?_
        exact hend _ _ _ (by rw [s_N_has, if_neg c_1, if_neg c_9, if_pos c_18]) d_N_has_26
      · refine lv_iconst (v := (1 : Int32)) hx hb d_N_has_21 rfl ?_
        refine lv_goto (tgt := 26) hx hb d_N_has_22 (by decide) ?_
        exact hend _ _ _ (by rw [s_N_has, if_neg c_1, if_neg c_9, if_neg c_18]) d_N_has_26

def s_N_at (S : St) (i : Nat) (a1 : Int32) : Int32 := (if a1 < 0 then (0 : Int32) else (if (S.1 i) ≤ a1 then (0 : Int32) else (if (nI (cap i)) ≤ a1 then (0 : Int32) else (S.2.1 i a1.toNatClampNeg))))
set_option maxRecDepth 20000 in
theorem c_N_at (l : Launch) (E : Cx) (ad : Nat → Nat) (X : va_W) (S : St) (i : Nat) (hi : i < 16) (a1 : Int32) : Met l y_N_at (Cond.code y_N_at b_N_at 2 (some .int) :: TB) (rk 0 0) (va_Pc [.ref (ad (2 * i)), .int a1] (preR E (wb E ad S ++ X))) (vp_Si (fun r => r = (s_N_at S i a1))) 0 0 (fun _ => False) := by
  refine w_roI rfl (Nat.le_of_ble_eq_true rfl) rfl ?_
  intro p e s m args below meth c Q ls hx hb hml hts hown hP hK hl hend
  have hl : lv_has ls 2 [(0, .ref (ad (2 * i))), (1, .int a1)] := hl
  have hP : va_P E.1 vwCl (wb E ad S ++ X) s.heap := hP
  have hown : s.vm.findClass R_N = some m.cls := hown
  refine lv_iload_n hx hb d_N_at_0 rfl (lv_at hl 1 rfl) ?_
  refine lv_if_lt (tgt := 30) hx hb d_N_at_1 (by decide) (fun c_1 => ?_) (fun c_1 => ?_)
  · refine lv_iconst (v := (0 : Int32)) hx hb d_N_at_30 rfl ?_
    exact hend _ _ _ (by rw [s_N_at, if_pos c_1]) d_N_at_31
  · refine lv_iload_n hx hb d_N_at_4 rfl (lv_at hl 1 rfl) ?_
    refine lv_aload_n hx hb d_N_at_5 rfl (lv_at hl 0 rfl) ?_
    refine g_N_size hi hx hb hts hown hK hP d_N_at_6 ?_
    refine lv_icmp_ge (tgt := 30) hx hb d_N_at_9 (by decide) (fun c_9 => ?_) (fun c_9 => ?_)
    · refine lv_iconst (v := (0 : Int32)) hx hb d_N_at_30 rfl ?_
      exact hend _ _ _ (by rw [s_N_at, if_neg c_1, if_pos c_9]) d_N_at_31
    · refine lv_iload_n hx hb d_N_at_12 rfl (lv_at hl 1 rfl) ?_
      refine lv_aload_n hx hb d_N_at_13 rfl (lv_at hl 0 rfl) ?_
      refine g_N_numbers hi hx hb hts hown hK hP d_N_at_14 ?_
      refine n_N_len hi hx hb hK hP d_N_at_17 ?_
      refine lv_icmp_ge (tgt := 30) hx hb d_N_at_18 (by decide) (fun c_18 => ?_) (fun c_18 => ?_)
      · refine lv_iconst (v := (0 : Int32)) hx hb d_N_at_30 rfl ?_
        exact hend _ _ _ (by rw [s_N_at, if_neg c_1, if_neg c_9, if_pos c_18]) d_N_at_31
      · refine lv_aload_n hx hb d_N_at_21 rfl (lv_at hl 0 rfl) ?_
        refine g_N_numbers hi hx hb hts hown hK hP d_N_at_22 ?_
        refine lv_iload_n hx hb d_N_at_25 rfl (lv_at hl 1 rfl) ?_
        refine l_N hi hx hb hK hP (vin_c (cap_i i) c_1 c_18) d_N_at_26 ?_
        refine lv_goto (tgt := 31) hx hb d_N_at_27 (by decide) ?_
        exact hend _ _ _ (by rw [s_N_at, if_neg c_1, if_neg c_9, if_neg c_18]) d_N_at_31

def s_N_set (S : St) (i : Nat) (a1 : Int32) (a2 : Int32) : St := (if a1 < 0 then S else (if (S.1 i) ≤ a1 then S else (if (nI (cap i)) ≤ a1 then S else (sA S i a1.toNatClampNeg a2))))
set_option maxRecDepth 20000 in
theorem c_N_set (l : Launch) (E : Cx) (ad : Nat → Nat) (X : va_W) (S : St) (A : Nat → Prop) (i : Nat) (hi : i < 16) (a1 : Int32) (a2 : Int32) : Met l y_N_set (Cond.code y_N_set b_N_set 3 none :: TB) (rk 0 0) (va_Pc [.ref (ad (2 * i)), .int a1, .int a2] (preM E A (fun S => wb E ad S ++ X) S)) (va_Qv (fun u => u = (s_N_set S i a1 a2)) (fun u t => va_P E.1 vwCl ((fun S => wb E ad S ++ X) u) t.heap) A) 0 0 A := by
  refine w_muV rfl (Nat.le_of_ble_eq_true rfl) ?_
  intro p e s m args below meth c Q ls hx hb hml hts hown hP hK hD hS hl hend
  have hl : lv_has ls 3 [(0, .ref (ad (2 * i))), (1, .int a1), (2, .int a2)] := hl
  have hP : va_P E.1 vwCl (wb E ad S ++ X) s.heap := hP
  have hown : s.vm.findClass R_N = some m.cls := hown
  have hD : ∀ S' : St, va_D A (wb E ad S' ++ X) := hD
  refine lv_iload_n hx hb d_N_set_0 rfl (lv_at hl 1 rfl) ?_
  refine lv_if_lt (tgt := 28) hx hb d_N_set_1 (by decide) (fun c_1 => ?_) (fun c_1 => ?_)
  · exact hend _ _ _ _ _ (by rw [s_N_set, if_pos c_1]) hP hS d_N_set_28
  · refine lv_iload_n hx hb d_N_set_4 rfl (lv_at hl 1 rfl) ?_
    refine lv_aload_n hx hb d_N_set_5 rfl (lv_at hl 0 rfl) ?_
    refine g_N_size hi hx hb hts hown hK hP d_N_set_6 ?_
    refine lv_icmp_ge (tgt := 28) hx hb d_N_set_9 (by decide) (fun c_9 => ?_) (fun c_9 => ?_)
    · exact hend _ _ _ _ _ (by rw [s_N_set, if_neg c_1, if_pos c_9]) hP hS d_N_set_28
    · refine lv_iload_n hx hb d_N_set_12 rfl (lv_at hl 1 rfl) ?_
      refine lv_aload_n hx hb d_N_set_13 rfl (lv_at hl 0 rfl) ?_
      refine g_N_numbers hi hx hb hts hown hK hP d_N_set_14 ?_
      refine n_N_len hi hx hb hK hP d_N_set_17 ?_
      refine lv_icmp_ge (tgt := 28) hx hb d_N_set_18 (by decide) (fun c_18 => ?_) (fun c_18 => ?_)
      · exact hend _ _ _ _ _ (by rw [s_N_set, if_neg c_1, if_neg c_9, if_pos c_18]) hP hS d_N_set_28
      · refine lv_aload_n hx hb d_N_set_21 rfl (lv_at hl 0 rfl) ?_
        refine g_N_numbers hi hx hb hts hown hK hP d_N_set_22 ?_
        refine lv_iload_n hx hb d_N_set_25 rfl (lv_at hl 1 rfl) ?_
        refine lv_iload_n hx hb d_N_set_26 rfl (lv_at hl 2 rfl) ?_
        refine a_N hi hx hb hK hP hD hS (vin_c (cap_i i) c_1 c_18) d_N_set_27 (fun H locs hP hS => ?_)
        have hP : va_P E.1 vwCl (wb E ad (sA S i a1.toNatClampNeg a2) ++ X) H := hP
        exact hend _ _ _ _ _ (by rw [s_N_set, if_neg c_1, if_neg c_9, if_neg c_18]) hP hS d_N_set_28

def s_N_empty (S : St) (i : Nat) : St := (sV S i (0 : Int32))
set_option maxRecDepth 20000 in
theorem c_N_empty (l : Launch) (E : Cx) (ad : Nat → Nat) (X : va_W) (S : St) (A : Nat → Prop) (i : Nat) (hi : i < 16) : Met l y_N_empty (Cond.code y_N_empty b_N_empty 1 none :: TB) (rk 0 0) (va_Pc [.ref (ad (2 * i))] (preM E A (fun S => wb E ad S ++ X) S)) (va_Qv (fun u => u = (s_N_empty S i)) (fun u t => va_P E.1 vwCl ((fun S => wb E ad S ++ X) u) t.heap) A) 0 0 A := by
  refine w_muV rfl (Nat.le_of_ble_eq_true rfl) ?_
  intro p e s m args below meth c Q ls hx hb hml hts hown hP hK hD hS hl hend
  have hl : lv_has ls 1 [(0, .ref (ad (2 * i)))] := hl
  have hP : va_P E.1 vwCl (wb E ad S ++ X) s.heap := hP
  have hown : s.vm.findClass R_N = some m.cls := hown
  have hD : ∀ S' : St, va_D A (wb E ad S' ++ X) := hD
  refine lv_aload_n hx hb d_N_empty_0 rfl (lv_at hl 0 rfl) ?_
  refine lv_iconst (v := (0 : Int32)) hx hb d_N_empty_1 rfl ?_
  refine p_N_size hi hx hb hts hown hK hP hD hS d_N_empty_2 (fun H locs hP hS => ?_)
  have hP : va_P E.1 vwCl (wb E ad (sV S i (0 : Int32)) ++ X) H := hP
  exact hend _ _ _ _ _ (by rw [s_N_empty]) hP hS d_N_empty_5

def s_N_add (S : St) (i : Nat) (a1 : Int32) : St := (if (S.1 i) < 0 then S else (if (nI (cap i)) ≤ (S.1 i) then S else (sV (sA S i (S.1 i).toNatClampNeg a1) i (((sA S i (S.1 i).toNatClampNeg a1).1 i) + (1 : Int32)))))
set_option maxRecDepth 20000 in
theorem c_N_add (l : Launch) (E : Cx) (ad : Nat → Nat) (X : va_W) (S : St) (A : Nat → Prop) (i : Nat) (hi : i < 16) (a1 : Int32) : Met l y_N_add (Cond.code y_N_add b_N_add 2 none :: TB) (rk 0 0) (va_Pc [.ref (ad (2 * i)), .int a1] (preM E A (fun S => wb E ad S ++ X) S)) (va_Qv (fun u => u = (s_N_add S i a1)) (fun u t => va_P E.1 vwCl ((fun S => wb E ad S ++ X) u) t.heap) A) 0 0 A := by
  refine w_muV rfl (Nat.le_of_ble_eq_true rfl) ?_
  intro p e s m args below meth c Q ls hx hb hml hts hown hP hK hD hS hl hend
  have hl : lv_has ls 2 [(0, .ref (ad (2 * i))), (1, .int a1)] := hl
  have hP : va_P E.1 vwCl (wb E ad S ++ X) s.heap := hP
  have hown : s.vm.findClass R_N = some m.cls := hown
  have hD : ∀ S' : St, va_D A (wb E ad S' ++ X) := hD
  refine lv_aload_n hx hb d_N_add_0 rfl (lv_at hl 0 rfl) ?_
  refine g_N_size hi hx hb hts hown hK hP d_N_add_1 ?_
  refine lv_if_lt (tgt := 39) hx hb d_N_add_4 (by decide) (fun c_4 => ?_) (fun c_4 => ?_)
  · exact hend _ _ _ _ _ (by rw [s_N_add, if_pos c_4]) hP hS d_N_add_39
  · refine lv_aload_n hx hb d_N_add_7 rfl (lv_at hl 0 rfl) ?_
    refine g_N_size hi hx hb hts hown hK hP d_N_add_8 ?_
    refine lv_aload_n hx hb d_N_add_11 rfl (lv_at hl 0 rfl) ?_
    refine g_N_numbers hi hx hb hts hown hK hP d_N_add_12 ?_
    refine n_N_len hi hx hb hK hP d_N_add_15 ?_
    refine lv_icmp_ge (tgt := 39) hx hb d_N_add_16 (by decide) (fun c_16 => ?_) (fun c_16 => ?_)
    · exact hend _ _ _ _ _ (by rw [s_N_add, if_neg c_4, if_pos c_16]) hP hS d_N_add_39
    · refine lv_aload_n hx hb d_N_add_19 rfl (lv_at hl 0 rfl) ?_
      refine g_N_numbers hi hx hb hts hown hK hP d_N_add_20 ?_
      refine lv_aload_n hx hb d_N_add_23 rfl (lv_at hl 0 rfl) ?_
      refine g_N_size hi hx hb hts hown hK hP d_N_add_24 ?_
      refine lv_iload_n hx hb d_N_add_27 rfl (lv_at hl 1 rfl) ?_
      refine a_N hi hx hb hK hP hD hS (vin_c (cap_i i) c_4 c_16) d_N_add_28 (fun H locs hP hS => ?_)
      have hP : va_P E.1 vwCl (wb E ad (sA S i (S.1 i).toNatClampNeg a1) ++ X) H := hP
      refine lv_aload_n hx hb d_N_add_29 rfl (lv_at hl 0 rfl) ?_
      refine lv_dup hx hb d_N_add_30 rfl ?_
      refine g_N_size hi hx hb hts hown hK hP d_N_add_31 ?_
      refine lv_iconst (v := (1 : Int32)) hx hb d_N_add_34 rfl ?_
      refine lv_iadd hx hb d_N_add_35 ?_
      refine p_N_size hi hx hb hts hown hK hP hD hS d_N_add_36 (fun H locs hP hS => ?_)
      have hP : va_P E.1 vwCl (wb E ad (sV (sA S i (S.1 i).toNatClampNeg a1) i (((sA S i (S.1 i).toNatClampNeg a1).1 i) + (1 : Int32))) ++ X) H := hP
      exact hend _ _ _ _ _ (by rw [s_N_add, if_neg c_4, if_neg c_16]) hP hS d_N_add_39
theorem N_add_ne {S : St} {i j : Nat} {x : Int32} (h : i ≠ j) : (s_N_add S i x).1 j = S.1 j := by
  unfold s_N_add
  (repeat' split) <;> first | rfl | simp [sV, sA, sF, upd, Ne.symm h]
theorem N_empty_ne {S : St} {i j : Nat} (h : i ≠ j) : (s_N_empty S i).1 j = S.1 j := by
  unfold s_N_empty
  simp [sV, upd, Ne.symm h]

def s_N_become_b6 (i : Nat) (j : Nat) : Nat → St → Int32 → St
  | 0, Z, _ => Z
  | n + 1, Z, x2 => (if (s_N_size Z j) ≤ x2 then Z else (s_N_become_b6 i j n (s_N_add Z i (s_N_at Z j x2)) (x2 + 1)))
def s_N_become (S : St) (i : Nat) (j : Nat) : St := (s_N_become_b6 i j ((S.1 j).toInt.toNat + 1) (s_N_empty S i) (0 : Int32))
set_option maxRecDepth 20000 in
theorem c_N_become (l : Launch) (E : Cx) (ad : Nat → Nat) (X : va_W) (S : St) (A : Nat → Prop) (i : Nat) (hi : i < 16) (j : Nat) (hj : j < 16) (hij : i ≠ j) : Met l y_N_become (Cond.code y_N_become b_N_become 3 none :: TB) (rk 1 21) (va_Pc [.ref (ad (2 * i)), .ref (ad (2 * j))] (preM E A (fun S => wb E ad S ++ X) S)) (va_Qv (fun u => u = (s_N_become S i j)) (fun u t => va_P E.1 vwCl ((fun S => wb E ad S ++ X) u) t.heap) A) 0 0 A := by
  refine w_muV rfl (Nat.le_of_ble_eq_true rfl) ?_
  intro p e s m args below meth c Q ls hx hb hml hts hown hP hK hD hS hl hend
  have hl : lv_has ls 3 [(0, .ref (ad (2 * i))), (1, .ref (ad (2 * j)))] := hl
  have hP : va_P E.1 vwCl (wb E ad S ++ X) s.heap := hP
  have hown : s.vm.findClass R_N = some m.cls := hown
  have hD : ∀ S' : St, va_D A (wb E ad S' ++ X) := hD
  have b6 : ∀ (n : Nat) (Z : St) (x2 : Int32) (H : Heap) (locs : List Loc), va_P E.1 vwCl (wb E ad Z ++ X) H → va_S A s.heap H locs → (UP n (Z.1 j) x2) → ∀ (ls : Array Slot), lv_has ls 3 [(0, .ref (ad (2 * i))), (1, .ref (ad (2 * j))), (2, .int x2)] → (s_N_become S i j) = s_N_become_b6 i j n Z x2 → W p l e (rk 1 21) s m args below meth c H locs 0 0 Q (F0 m 6 ls []) := by
    intro n6
    induction n6 with
    | zero => intro Z x2 H locs hP hS hv; exact absurd hv (UP_z)
    | succ n6 ih6 =>
      intro Z x2 H locs hP hS hv ls hl hq
      refine lv_iload_n hx hb d_N_become_6 rfl (lv_at hl 2 rfl) ?_
      refine lv_aload_n hx hb d_N_become_7 rfl (lv_at hl 1 rfl) ?_
      refine k_vi (rest := [.int x2]) (c_N_size l E ad X Z j hj) mi_N_size ml_N_20 hx hb hml hts hown hK hP (rvN hj) hl ⟨rfl, rfl⟩ ⟨(Nat.le_of_ble_eq_true rfl), (Nat.le_of_ble_eq_true rfl)⟩ ⟨Nat.zero_le _, Nat.zero_le _⟩ rfl (Nat.le_of_ble_eq_true rfl) rfl d_N_become_8 ?_
      refine lv_icmp_ge (tgt := 29) hx hb d_N_become_11 (by decide) (fun c_11 => ?_) (fun c_11 => ?_)
      · exact hend _ _ _ _ _ (by rw [hq, s_N_become_b6, if_pos c_11]) hP hS d_N_become_29
      · refine lv_aload_n hx hb d_N_become_14 rfl (lv_at hl 0 rfl) ?_
        refine lv_aload_n hx hb d_N_become_15 rfl (lv_at hl 1 rfl) ?_
        refine lv_iload_n hx hb d_N_become_16 rfl (lv_at hl 2 rfl) ?_
        refine k_vi (rest := [.ref (ad (2 * i))]) (c_N_at l E ad X Z j hj x2) mi_N_at ml_N_23 hx hb hml hts hown hK hP (rvN hj) hl ⟨rfl, rfl⟩ ⟨(Nat.le_of_ble_eq_true rfl), (Nat.le_of_ble_eq_true rfl)⟩ ⟨Nat.zero_le _, Nat.zero_le _⟩ rfl (Nat.le_of_ble_eq_true rfl) rfl d_N_become_17 ?_
        refine k_mvv (rest := []) (c_N_add l E ad X Z A i hi (s_N_at Z j x2)) mi_N_add ml_N_27 hx hb hml hts hown hK hP hD hS (rvN hi) hl ⟨rfl, rfl⟩ ⟨(Nat.le_of_ble_eq_true rfl), (Nat.le_of_ble_eq_true rfl)⟩ ⟨Nat.zero_le _, Nat.zero_le _⟩ rfl (Nat.le_of_ble_eq_true rfl) rfl d_N_become_20 (fun H locs hP hS => ?_)
        have hP : va_P E.1 vwCl (wb E ad (s_N_add Z i (s_N_at Z j x2)) ++ X) H := hP
        refine lv_iinc (v := (x2 + 1)) (lv' := [(2, .int (x2 + 1)), (0, .ref (ad (2 * i))), (1, .ref (ad (2 * j)))]) hx hb d_N_become_23 hl (k := 2) rfl rfl (by decide) rfl (fun ls hl => ?_)
        refine lv_goto (tgt := 6) hx hb d_N_become_26 (by decide) ?_
        exact ih6 (s_N_add Z i (s_N_at Z j x2)) (x2 + 1) H locs hP hS (by rw [N_add_ne hij]; exact UP_up hv c_11) ls (lv_sub hl [1, 2, 0] rfl) (by rw [hq, s_N_become_b6, if_neg c_11])
  refine lv_aload_n hx hb d_N_become_0 rfl (lv_at hl 0 rfl) ?_
  refine k_mvv (rest := []) (c_N_empty l E ad X S A i hi) mi_N_empty ml_N_17 hx hb hml hts hown hK hP hD hS (rvN hi) hl ⟨rfl, rfl⟩ ⟨(Nat.le_of_ble_eq_true rfl), (Nat.le_of_ble_eq_true rfl)⟩ ⟨Nat.zero_le _, Nat.zero_le _⟩ rfl (Nat.le_of_ble_eq_true rfl) rfl d_N_become_1 (fun H locs hP hS => ?_)
  have hP : va_P E.1 vwCl (wb E ad (s_N_empty S i) ++ X) H := hP
  refine lv_iconst (v := (0 : Int32)) hx hb d_N_become_4 rfl ?_
  refine lv_istore_n (lv' := [(2, .int (0 : Int32)), (0, .ref (ad (2 * i))), (1, .ref (ad (2 * j)))]) hx hb d_N_become_5 rfl hl (by decide) rfl (fun ls hl => ?_)
  exact b6 ((S.1 j).toInt.toNat + 1) (s_N_empty S i) (0 : Int32) H locs hP hS (by rw [N_empty_ne hij]; exact UP_in (by decide)) ls (lv_sub hl [1, 2, 0] rfl) (by rw [s_N_become])
