/-! by program (wip/p32/cls.py) -/
def s_P_isOutward (a0 : Int32) : Int32 := (if a0 < (5 : Int32) then (0 : Int32) else (if (99 : Int32) < a0 then (0 : Int32) else (1 : Int32)))
theorem z_P_isOutward (a0 : Int32) : (s_P_isOutward a0) = 0 ∨ (s_P_isOutward a0) = 1 := by rw [s_P_isOutward]; exact (ite_z (Or.inl rfl) (ite_z (Or.inl rfl) (Or.inr rfl)))
set_option maxRecDepth 20000 in
theorem c_P_isOutward (l : Launch) (E : Cx) (a0 : Int32) : Met l y_P_isOutward (Cond.code y_P_isOutward b_P_isOutward 1 (some .boolean) :: TB) (rk 0 0) (va_Pc [.int a0] (preR E [])) (vp_Si (fun r => r = (s_P_isOutward a0))) 0 0 (fun _ => False) := by
  refine w_roI rfl (Nat.le_of_ble_eq_true rfl) (k_nb (z_P_isOutward a0)) ?_
  intro p e s m args below meth c Q ls hx hb hml hts hown hP hK hl hend
  have hl : lv_has ls 1 [(0, .int a0)] := hl
  have hown : s.vm.findClass R_P = some m.cls := hown
  refine lv_iload_n hx hb d_P_isOutward_0 rfl (lv_at hl 0 rfl) ?_
  refine lv_iconst (v := (5 : Int32)) hx hb d_P_isOutward_1 rfl ?_
  refine lv_icmp_lt (tgt := 15) hx hb d_P_isOutward_2 (by decide) (fun c_2 => ?_) (fun c_2 => ?_)
  · refine lv_iconst (v := (0 : Int32)) hx hb d_P_isOutward_15 rfl ?_
    exact hend _ _ _ (by rw [s_P_isOutward, if_pos c_2]) d_P_isOutward_16
  · refine lv_iload_n hx hb d_P_isOutward_5 rfl (lv_at hl 0 rfl) ?_
    refine lv_bipush (v := (99 : Int32)) hx hb d_P_isOutward_6 rfl ?_
    refine lv_icmp_gt (tgt := 15) hx hb d_P_isOutward_8 (by decide) (fun c_8 => ?_) (fun c_8 => ?_)
    · refine lv_iconst (v := (0 : Int32)) hx hb d_P_isOutward_15 rfl ?_
      exact hend _ _ _ (by rw [s_P_isOutward, if_neg c_2, if_pos c_8]) d_P_isOutward_16
    · refine lv_iconst (v := (1 : Int32)) hx hb d_P_isOutward_11 rfl ?_
      refine lv_goto (tgt := 16) hx hb d_P_isOutward_12 (by decide) ?_
      exact hend _ _ _ (by rw [s_P_isOutward, if_neg c_2, if_neg c_8]) d_P_isOutward_16

def s_P_isTeeth (a0 : Int32) : Int32 := (if (s_P_isOutward a0) = 0 then (if a0 < (-99 : Int32) then (0 : Int32) else (if (-20 : Int32) < a0 then (0 : Int32) else (1 : Int32))) else (1 : Int32))
theorem z_P_isTeeth (a0 : Int32) : (s_P_isTeeth a0) = 0 ∨ (s_P_isTeeth a0) = 1 := by rw [s_P_isTeeth]; exact (ite_z (ite_z (Or.inl rfl) (ite_z (Or.inl rfl) (Or.inr rfl))) (Or.inr rfl))
set_option maxRecDepth 20000 in
theorem c_P_isTeeth (l : Launch) (E : Cx) (a0 : Int32) : Met l y_P_isTeeth (Cond.code y_P_isTeeth b_P_isTeeth 1 (some .boolean) :: TB) (rk 1 20) (va_Pc [.int a0] (preR E [])) (vp_Si (fun r => r = (s_P_isTeeth a0))) 0 0 (fun _ => False) := by
  refine w_roI rfl (Nat.le_of_ble_eq_true rfl) (k_nb (z_P_isTeeth a0)) ?_
  intro p e s m args below meth c Q ls hx hb hml hts hown hP hK hl hend
  have hl : lv_has ls 1 [(0, .int a0)] := hl
  have hown : s.vm.findClass R_P = some m.cls := hown
  refine lv_iload_n hx hb d_P_isTeeth_0 rfl (lv_at hl 0 rfl) ?_
  refine k_si (rest := []) (c_P_isOutward l E a0) mi_P_isOutward ml_P_142 hx hb hml hts hown hK va_nil hl ⟨rfl, rfl⟩ ⟨(Nat.le_of_ble_eq_true rfl), (Nat.le_of_ble_eq_true rfl)⟩ ⟨Nat.zero_le _, Nat.zero_le _⟩ rfl (Nat.le_of_ble_eq_true rfl) rfl d_P_isTeeth_1 ?_
  refine lv_if_ne (tgt := 19) hx hb d_P_isTeeth_4 (by decide) (fun c_4 => ?_) (fun c_4 => ?_)
  · refine lv_iconst (v := (1 : Int32)) hx hb d_P_isTeeth_19 rfl ?_
    refine lv_goto (tgt := 24) hx hb d_P_isTeeth_20 (by decide) ?_
    exact hend _ _ _ (by rw [s_P_isTeeth, if_neg c_4]) d_P_isTeeth_24
  · refine lv_iload_n hx hb d_P_isTeeth_7 rfl (lv_at hl 0 rfl) ?_
    refine lv_bipush (v := (-99 : Int32)) hx hb d_P_isTeeth_8 rfl ?_
    refine lv_icmp_lt (tgt := 23) hx hb d_P_isTeeth_10 (by decide) (fun c_10 => ?_) (fun c_10 => ?_)
    · refine lv_iconst (v := (0 : Int32)) hx hb d_P_isTeeth_23 rfl ?_
      exact hend _ _ _ (by rw [s_P_isTeeth, if_pos c_4, if_pos c_10]) d_P_isTeeth_24
    · refine lv_iload_n hx hb d_P_isTeeth_13 rfl (lv_at hl 0 rfl) ?_
      refine lv_bipush (v := (-20 : Int32)) hx hb d_P_isTeeth_14 rfl ?_
      refine lv_icmp_gt (tgt := 23) hx hb d_P_isTeeth_16 (by decide) (fun c_16 => ?_) (fun c_16 => ?_)
      · refine lv_iconst (v := (0 : Int32)) hx hb d_P_isTeeth_23 rfl ?_
        exact hend _ _ _ (by rw [s_P_isTeeth, if_pos c_4, if_neg c_10, if_pos c_16]) d_P_isTeeth_24
      · refine lv_iconst (v := (1 : Int32)) hx hb d_P_isTeeth_19 rfl ?_
        refine lv_goto (tgt := 24) hx hb d_P_isTeeth_20 (by decide) ?_
        exact hend _ _ _ (by rw [s_P_isTeeth, if_pos c_4, if_neg c_10, if_neg c_16]) d_P_isTeeth_24

def s_P_isShift (a0 : Int32) : Int32 := (if a0 < (-50 : Int32) then (0 : Int32) else (if (100 : Int32) < a0 then (0 : Int32) else (1 : Int32)))
theorem z_P_isShift (a0 : Int32) : (s_P_isShift a0) = 0 ∨ (s_P_isShift a0) = 1 := by rw [s_P_isShift]; exact (ite_z (Or.inl rfl) (ite_z (Or.inl rfl) (Or.inr rfl)))
set_option maxRecDepth 20000 in
theorem c_P_isShift (l : Launch) (E : Cx) (a0 : Int32) : Met l y_P_isShift (Cond.code y_P_isShift b_P_isShift 1 (some .boolean) :: TB) (rk 0 0) (va_Pc [.int a0] (preR E [])) (vp_Si (fun r => r = (s_P_isShift a0))) 0 0 (fun _ => False) := by
  refine w_roI rfl (Nat.le_of_ble_eq_true rfl) (k_nb (z_P_isShift a0)) ?_
  intro p e s m args below meth c Q ls hx hb hml hts hown hP hK hl hend
  have hl : lv_has ls 1 [(0, .int a0)] := hl
  have hown : s.vm.findClass R_P = some m.cls := hown
  refine lv_iload_n hx hb d_P_isShift_0 rfl (lv_at hl 0 rfl) ?_
  refine lv_bipush (v := (-50 : Int32)) hx hb d_P_isShift_1 rfl ?_
  refine lv_icmp_lt (tgt := 16) hx hb d_P_isShift_3 (by decide) (fun c_3 => ?_) (fun c_3 => ?_)
  · refine lv_iconst (v := (0 : Int32)) hx hb d_P_isShift_16 rfl ?_
    exact hend _ _ _ (by rw [s_P_isShift, if_pos c_3]) d_P_isShift_17
  · refine lv_iload_n hx hb d_P_isShift_6 rfl (lv_at hl 0 rfl) ?_
    refine lv_bipush (v := (100 : Int32)) hx hb d_P_isShift_7 rfl ?_
    refine lv_icmp_gt (tgt := 16) hx hb d_P_isShift_9 (by decide) (fun c_9 => ?_) (fun c_9 => ?_)
    · refine lv_iconst (v := (0 : Int32)) hx hb d_P_isShift_16 rfl ?_
      exact hend _ _ _ (by rw [s_P_isShift, if_neg c_3, if_pos c_9]) d_P_isShift_17
    · refine lv_iconst (v := (1 : Int32)) hx hb d_P_isShift_12 rfl ?_
      refine lv_goto (tgt := 17) hx hb d_P_isShift_13 (by decide) ?_
      exact hend _ _ _ (by rw [s_P_isShift, if_neg c_3, if_neg c_9]) d_P_isShift_17

def s_P_isPart (a0 : Int32) : Int32 := (if a0 = 0 then (1 : Int32) else (if a0 = (1 : Int32) then (1 : Int32) else (0 : Int32)))
theorem z_P_isPart (a0 : Int32) : (s_P_isPart a0) = 0 ∨ (s_P_isPart a0) = 1 := by rw [s_P_isPart]; exact (ite_z (Or.inr rfl) (ite_z (Or.inr rfl) (Or.inl rfl)))
set_option maxRecDepth 20000 in
theorem c_P_isPart (l : Launch) (E : Cx) (a0 : Int32) : Met l y_P_isPart (Cond.code y_P_isPart b_P_isPart 1 (some .boolean) :: TB) (rk 0 0) (va_Pc [.int a0] (preR E [])) (vp_Si (fun r => r = (s_P_isPart a0))) 0 0 (fun _ => False) := by
  refine w_roI rfl (Nat.le_of_ble_eq_true rfl) (k_nb (z_P_isPart a0)) ?_
  intro p e s m args below meth c Q ls hx hb hml hts hown hP hK hl hend
  have hl : lv_has ls 1 [(0, .int a0)] := hl
  have hown : s.vm.findClass R_P = some m.cls := hown
  refine lv_iload_n hx hb d_P_isPart_0 rfl (lv_at hl 0 rfl) ?_
  refine lv_if_eq (tgt := 9) hx hb d_P_isPart_1 (by decide) (fun c_1 => ?_) (fun c_1 => ?_)
  · refine lv_iconst (v := (1 : Int32)) hx hb d_P_isPart_9 rfl ?_
    refine lv_goto (tgt := 14) hx hb d_P_isPart_10 (by decide) ?_
    exact hend _ _ _ (by rw [s_P_isPart, if_pos c_1]) d_P_isPart_14
  · refine lv_iload_n hx hb d_P_isPart_4 rfl (lv_at hl 0 rfl) ?_
    refine lv_iconst (v := (1 : Int32)) hx hb d_P_isPart_5 rfl ?_
    refine lv_icmp_ne (tgt := 13) hx hb d_P_isPart_6 (by decide) (fun c_6 => ?_) (fun c_6 => ?_)
    · refine lv_iconst (v := (0 : Int32)) hx hb d_P_isPart_13 rfl ?_
      exact hend _ _ _ (by rw [s_P_isPart, if_neg c_1, if_neg c_6]) d_P_isPart_14
    · refine lv_iconst (v := (1 : Int32)) hx hb d_P_isPart_9 rfl ?_
      refine lv_goto (tgt := 14) hx hb d_P_isPart_10 (by decide) ?_
      exact hend _ _ _ (by rw [s_P_isPart, if_neg c_1, if_pos c_6]) d_P_isPart_14

def s_P_commonDivisor_b9 : Nat → Int64 → Int64 → Int32 → Int64
  | 0, _, _, _ => 0
  | n + 1, x4, x6, x8 => (if (200 : Int32) ≤ x8 then x4 else (if (lg_cmp x6 (0 : Int64)) = 0 then x4 else (s_P_commonDivisor_b9 n x6 (x4 - x4 / x6 * x6) (x8 + 1))))
def s_P_commonDivisor (a0 : Int64) (a2 : Int64) : Int64 := (s_P_commonDivisor_b9 (201) a0 a2 (0 : Int32))
set_option maxRecDepth 20000 in
theorem c_P_commonDivisor (l : Launch) (E : Cx) (a0 : Int64) (a2 : Int64) : Met l y_P_commonDivisor (Cond.code y_P_commonDivisor b_P_commonDivisor 11 (some .long) :: TB) (rk 0 0) (va_Pc [.long a0, .long a2] (preR E [])) (vp_Sl (fun r => r = (s_P_commonDivisor a0 a2))) 0 0 (fun _ => False) := by
  refine w_roL rfl (Nat.le_of_ble_eq_true rfl) ?_
  intro p e s m args below meth c Q ls hx hb hml hts hown hP hK hl hend
  have hl : lv_has ls 11 [(0, .long a0), (2, .long a2)] := hl
  have hown : s.vm.findClass R_P = some m.cls := hown
  have b9 : ∀ (n : Nat) (x4 : Int64) (x6 : Int64) (x8 : Int32), (UP n 200 x8) → ∀ (ls : Array Slot), lv_has ls 11 [(4, .long x4), (6, .long x6), (8, .int x8)] → (s_P_commonDivisor a0 a2) = s_P_commonDivisor_b9 n x4 x6 x8 → W p l e (rk 0 0) s m args below meth c s.heap [] 0 0 Q (F0 m 9 ls []) := by
    intro n9
    induction n9 with
    | zero => intro x4 x6 x8 hv; exact absurd hv (UP_z)
    | succ n9 ih9 =>
      intro x4 x6 x8 hv ls hl hq
      refine lv_iload hx hb d_P_commonDivisor_9 (lv_at hl 2 rfl) ?_
      refine lv_sipush (v := (200 : Int32)) hx hb d_P_commonDivisor_11 rfl ?_
      refine lv_icmp_ge (tgt := 45) hx hb d_P_commonDivisor_14 (by decide) (fun c_14 => ?_) (fun c_14 => ?_)
      · refine lv_lload hx hb d_P_commonDivisor_45 (lv_at hl 0 rfl) ?_
        exact hend _ _ _ (by rw [hq, s_P_commonDivisor_b9, if_pos c_14]) d_P_commonDivisor_47
      · refine lv_lload hx hb d_P_commonDivisor_17 (lv_at hl 1 rfl) ?_
        refine lv_lconst (v := (0 : Int64)) hx hb d_P_commonDivisor_19 rfl ?_
        refine W.lcmp hx hb d_P_commonDivisor_20 ?_
        refine lv_if_eq (tgt := 45) hx hb d_P_commonDivisor_21 (by decide) (fun c_21 => ?_) (fun c_21 => ?_)
        · refine lv_lload hx hb d_P_commonDivisor_45 (lv_at hl 0 rfl) ?_
          exact hend _ _ _ (by rw [hq, s_P_commonDivisor_b9, if_neg c_14, if_pos c_21]) d_P_commonDivisor_47
        · refine lv_lload hx hb d_P_commonDivisor_24 (lv_at hl 0 rfl) ?_
          refine lv_lload hx hb d_P_commonDivisor_26 (lv_at hl 1 rfl) ?_
          refine lv_lrem hx hb d_P_commonDivisor_28 (lcmp_ne c_21) ?_
          refine lv_lstore (lv' := [(9, .long (x4 - x4 / x6 * x6)), (4, .long x4), (6, .long x6), (8, .int x8)]) hx hb d_P_commonDivisor_29 hl (by decide) rfl (fun ls hl => ?_)
          refine lv_lload hx hb d_P_commonDivisor_31 (lv_at hl 2 rfl) ?_
          refine lv_lstore (lv' := [(4, .long x6), (9, .long (x4 - x4 / x6 * x6)), (6, .long x6), (8, .int x8)]) hx hb d_P_commonDivisor_33 hl (by decide) rfl (fun ls hl => ?_)
          refine lv_lload hx hb d_P_commonDivisor_35 (lv_at hl 1 rfl) ?_
          refine lv_lstore (lv' := [(6, .long (x4 - x4 / x6 * x6)), (4, .long x6), (9, .long (x4 - x4 / x6 * x6)), (8, .int x8)]) hx hb d_P_commonDivisor_37 hl (by decide) rfl (fun ls hl => ?_)
          refine lv_iinc (v := (x8 + 1)) (lv' := [(8, .int (x8 + 1)), (6, .long (x4 - x4 / x6 * x6)), (4, .long x6), (9, .long (x4 - x4 / x6 * x6))]) hx hb d_P_commonDivisor_39 hl (k := 3) rfl rfl (by decide) rfl (fun ls hl => ?_)
          refine lv_goto (tgt := 9) hx hb d_P_commonDivisor_42 (by decide) ?_
          exact ih9 x6 (x4 - x4 / x6 * x6) (x8 + 1) (UP_up hv c_14) ls (lv_sub hl [2, 1, 0] rfl) (by rw [hq, s_P_commonDivisor_b9, if_neg c_14, if_neg c_21])
  refine lv_lload_n hx hb d_P_commonDivisor_0 rfl (lv_at hl 0 rfl) ?_
  refine lv_lstore (lv' := [(4, .long a0), (0, .long a0), (2, .long a2)]) hx hb d_P_commonDivisor_1 hl (by decide) rfl (fun ls hl => ?_)
  refine lv_lload_n hx hb d_P_commonDivisor_3 rfl (lv_at hl 2 rfl) ?_
  refine lv_lstore (lv' := [(6, .long a2), (4, .long a0), (0, .long a0), (2, .long a2)]) hx hb d_P_commonDivisor_4 hl (by decide) rfl (fun ls hl => ?_)
  refine lv_iconst (v := (0 : Int32)) hx hb d_P_commonDivisor_6 rfl ?_
  refine lv_istore (lv' := [(8, .int (0 : Int32)), (6, .long a2), (4, .long a0), (0, .long a0), (2, .long a2)]) hx hb d_P_commonDivisor_7 hl (by decide) rfl (fun ls hl => ?_)
  exact b9 (201) a0 a2 (0 : Int32) (UP_in' (by decide) (by decide)) ls (lv_sub hl [2, 1, 0] rfl) (by rw [s_P_commonDivisor])

def s_P_partOf_b20 (x5 : Int64) (t0 : Int64) : Int64 := (if (lg_cmp x5 (1 : Int64)) ≤ 0 then t0 else (t0 / x5))
def s_P_partOf (a0 : Int64) (a2 : Int64) (a4 : Int32) : Int64 := (if a4 = 0 then (s_P_partOf_b20 (s_P_commonDivisor (if 0 < a0 then a0 else -a0) a2) a0) else (s_P_partOf_b20 (s_P_commonDivisor (if 0 < a0 then a0 else -a0) a2) a2))
set_option maxRecDepth 20000 in
theorem c_P_partOf (l : Launch) (E : Cx) (a0 : Int64) (a2 : Int64) (a4 : Int32) : Met l y_P_partOf (Cond.code y_P_partOf b_P_partOf 9 (some .long) :: TB) (rk 1 30) (va_Pc [.long a0, .long a2, .int a4] (preR E [])) (vp_Sl (fun r => r = (s_P_partOf a0 a2 a4))) 0 0 (fun _ => False) := by
  refine w_roL rfl (Nat.le_of_ble_eq_true rfl) ?_
  intro p e s m args below meth c Q ls hx hb hml hts hown hP hK hl hend
  have hl : lv_has ls 9 [(0, .long a0), (2, .long a2), (4, .int a4)] := hl
  have hown : s.vm.findClass R_P = some m.cls := hown
  have b20 : ∀ (x5 : Int64) (t0 : Int64), ∀ (ls : Array Slot), lv_has ls 9 [(5, .long x5)] → (s_P_partOf a0 a2 a4) = s_P_partOf_b20 x5 t0 → W p l e (rk 1 30) s m args below meth c s.heap [] 0 0 Q (F0 m 20 ls [.long t0]) := by
    intro x5 t0 ls hl hq
    refine lv_lstore (lv' := [(7, .long t0), (5, .long x5)]) hx hb d_P_partOf_20 hl (by decide) rfl (fun ls hl => ?_)
    refine lv_lload hx hb d_P_partOf_22 (lv_at hl 1 rfl) ?_
    refine lv_lconst (v := (1 : Int64)) hx hb d_P_partOf_24 rfl ?_
    refine W.lcmp hx hb d_P_partOf_25 ?_
    refine lv_if_le (tgt := 37) hx hb d_P_partOf_26 (by decide) (fun c_26 => ?_) (fun c_26 => ?_)
    · refine lv_lload hx hb d_P_partOf_37 (lv_at hl 0 rfl) ?_
      exact hend _ _ _ (by rw [hq, s_P_partOf_b20, if_pos c_26]) d_P_partOf_39
    · refine lv_lload hx hb d_P_partOf_29 (lv_at hl 0 rfl) ?_
      refine lv_lload hx hb d_P_partOf_31 (lv_at hl 1 rfl) ?_
      refine lv_ldiv hx hb d_P_partOf_33 (lcmp_gt1 c_26) ?_
      refine lv_goto (tgt := 39) hx hb d_P_partOf_34 (by decide) ?_
      exact hend _ _ _ (by rw [hq, s_P_partOf_b20, if_neg c_26]) d_P_partOf_39
  refine lv_lload_n hx hb d_P_partOf_0 rfl (lv_at hl 0 rfl) ?_
  refine va_mabs_long hx hb (hml.trans hl.1.symm) hown (hts _ ml_P_244) (hts _ st_mabsl) (hts _ iz_Math) (hts _ co_mabsl) (Nat.le_of_ble_eq_true rfl) (Nat.le_of_ble_eq_true rfl) (Nat.zero_le _) (Nat.zero_le _) d_P_partOf_1 ?_
  refine lv_lload_n hx hb d_P_partOf_4 rfl (lv_at hl 1 rfl) ?_
  refine k_sl (rest := []) (c_P_commonDivisor l E (if 0 < a0 then a0 else -a0) a2) mi_P_commonDivisor ml_P_248 hx hb hml hts hown hK va_nil hl ⟨rfl, rfl⟩ ⟨(Nat.le_of_ble_eq_true rfl), (Nat.le_of_ble_eq_true rfl)⟩ ⟨Nat.zero_le _, Nat.zero_le _⟩ rfl (Nat.le_of_ble_eq_true rfl) rfl d_P_partOf_5 ?_
  refine lv_lstore (lv' := [(5, .long (s_P_commonDivisor (if 0 < a0 then a0 else -a0) a2)), (0, .long a0), (2, .long a2), (4, .int a4)]) hx hb d_P_partOf_8 hl (by decide) rfl (fun ls hl => ?_)
  refine lv_iload hx hb d_P_partOf_10 (lv_at hl 3 rfl) ?_
  refine lv_if_ne (tgt := 19) hx hb d_P_partOf_12 (by decide) (fun c_12 => ?_) (fun c_12 => ?_)
  · refine lv_lload_n hx hb d_P_partOf_19 rfl (lv_at hl 2 rfl) ?_
    exact b20 (s_P_commonDivisor (if 0 < a0 then a0 else -a0) a2) a2 ls (lv_sub hl [0] rfl) (by rw [s_P_partOf, if_neg c_12])
  · refine lv_lload_n hx hb d_P_partOf_15 rfl (lv_at hl 1 rfl) ?_
    refine lv_goto (tgt := 20) hx hb d_P_partOf_16 (by decide) ?_
    exact b20 (s_P_commonDivisor (if 0 < a0 then a0 else -a0) a2) a0 ls (lv_sub hl [0] rfl) (by rw [s_P_partOf, if_pos c_12])

def s_P_root_b6 : Nat → Int64 → Int64 → Int32 → Int64
  | 0, _, _, _ => 0
  | n + 1, x0, x2, x4 => (if x4 < 0 then x2 else (if 0 < (lg_cmp ((x2 + ((1 : Int64) <<< (x4.toInt64 &&& 63))) * (x2 + ((1 : Int64) <<< (x4.toInt64 &&& 63)))) x0) then (s_P_root_b6 n x0 x2 (x4 + (-1))) else (s_P_root_b6 n x0 (x2 + ((1 : Int64) <<< (x4.toInt64 &&& 63))) (x4 + (-1)))))
def s_P_root (a0 : Int64) : Int64 := (s_P_root_b6 (32) a0 (0 : Int64) (30 : Int32))
set_option maxRecDepth 20000 in
theorem c_P_root (l : Launch) (E : Cx) (a0 : Int64) : Met l y_P_root (Cond.code y_P_root b_P_root 7 (some .long) :: TB) (rk 0 0) (va_Pc [.long a0] (preR E [])) (vp_Sl (fun r => r = (s_P_root a0))) 0 0 (fun _ => False) := by
  refine w_roL rfl (Nat.le_of_ble_eq_true rfl) ?_
  intro p e s m args below meth c Q ls hx hb hml hts hown hP hK hl hend
  have hl : lv_has ls 7 [(0, .long a0)] := hl
  have hown : s.vm.findClass R_P = some m.cls := hown
  have b6 : ∀ (n : Nat) (x0 : Int64) (x2 : Int64) (x4 : Int32), (DN n x4) → ∀ (ls : Array Slot), lv_has ls 7 [(0, .long x0), (2, .long x2), (4, .int x4)] → (s_P_root a0) = s_P_root_b6 n x0 x2 x4 → W p l e (rk 0 0) s m args below meth c s.heap [] 0 0 Q (F0 m 6 ls []) := by
    intro n6
    induction n6 with
    | zero => intro x0 x2 x4 hv; exact absurd hv (DN_z)
    | succ n6 ih6 =>
      intro x0 x2 x4 hv ls hl hq
      refine lv_iload hx hb d_P_root_6 (lv_at hl 2 rfl) ?_
      refine lv_if_lt (tgt := 38) hx hb d_P_root_8 (by decide) (fun c_8 => ?_) (fun c_8 => ?_)
      · refine lv_lload_n hx hb d_P_root_38 rfl (lv_at hl 1 rfl) ?_
        exact hend _ _ _ (by rw [hq, s_P_root_b6, if_pos c_8]) d_P_root_39
      · refine lv_lload_n hx hb d_P_root_11 rfl (lv_at hl 1 rfl) ?_
        refine lv_lconst (v := (1 : Int64)) hx hb d_P_root_12 rfl ?_
        refine lv_iload hx hb d_P_root_13 (lv_at hl 2 rfl) ?_
        refine lv_lshl hx hb d_P_root_15 rfl ?_
        refine lv_ladd hx hb d_P_root_16 ?_
        refine lv_lstore (lv' := [(5, .long (x2 + ((1 : Int64) <<< (x4.toInt64 &&& 63)))), (0, .long x0), (2, .long x2), (4, .int x4)]) hx hb d_P_root_17 hl (by decide) rfl (fun ls hl => ?_)
        refine lv_lload hx hb d_P_root_19 (lv_at hl 0 rfl) ?_
        refine lv_lload hx hb d_P_root_21 (lv_at hl 0 rfl) ?_
        refine lv_lmul hx hb d_P_root_23 ?_
        refine lv_lload_n hx hb d_P_root_24 rfl (lv_at hl 1 rfl) ?_
        refine W.lcmp hx hb d_P_root_25 ?_
        refine lv_if_gt (tgt := 32) hx hb d_P_root_26 (by decide) (fun c_26 => ?_) (fun c_26 => ?_)
        · refine lv_iinc (v := (x4 + (-1))) (lv' := [(4, .int (x4 + (-1))), (5, .long (x2 + ((1 : Int64) <<< (x4.toInt64 &&& 63)))), (0, .long x0), (2, .long x2)]) hx hb d_P_root_32 hl (k := 3) rfl rfl (by decide) rfl (fun ls hl => ?_)
          refine lv_goto (tgt := 6) hx hb d_P_root_35 (by decide) ?_
          exact ih6 x0 x2 (x4 + (-1)) (DN_dn hv c_8) ls (lv_sub hl [2, 3, 0] rfl) (by rw [hq, s_P_root_b6, if_neg c_8, if_pos c_26])
        · refine lv_lload hx hb d_P_root_29 (lv_at hl 0 rfl) ?_
          refine lv_lstore_n (lv' := [(2, .long (x2 + ((1 : Int64) <<< (x4.toInt64 &&& 63)))), (5, .long (x2 + ((1 : Int64) <<< (x4.toInt64 &&& 63)))), (0, .long x0), (4, .int x4)]) hx hb d_P_root_31 rfl hl (by decide) rfl (fun ls hl => ?_)
          refine lv_iinc (v := (x4 + (-1))) (lv' := [(4, .int (x4 + (-1))), (2, .long (x2 + ((1 : Int64) <<< (x4.toInt64 &&& 63)))), (5, .long (x2 + ((1 : Int64) <<< (x4.toInt64 &&& 63)))), (0, .long x0)]) hx hb d_P_root_32 hl (k := 3) rfl rfl (by decide) rfl (fun ls hl => ?_)
          refine lv_goto (tgt := 6) hx hb d_P_root_35 (by decide) ?_
          exact ih6 x0 (x2 + ((1 : Int64) <<< (x4.toInt64 &&& 63))) (x4 + (-1)) (DN_dn hv c_8) ls (lv_sub hl [3, 1, 0] rfl) (by rw [hq, s_P_root_b6, if_neg c_8, if_neg c_26])
  refine lv_lconst (v := (0 : Int64)) hx hb d_P_root_0 rfl ?_
  refine lv_lstore_n (lv' := [(2, .long (0 : Int64)), (0, .long a0)]) hx hb d_P_root_1 rfl hl (by decide) rfl (fun ls hl => ?_)
  refine lv_bipush (v := (30 : Int32)) hx hb d_P_root_2 rfl ?_
  refine lv_istore (lv' := [(4, .int (30 : Int32)), (2, .long (0 : Int64)), (0, .long a0)]) hx hb d_P_root_4 hl (by decide) rfl (fun ls hl => ?_)
  exact b6 (32) a0 (0 : Int64) (30 : Int32) (DN_in (x := 30)) ls (lv_sub hl [2, 1, 0] rfl) (by rw [s_P_root])

def s_T_ring (a0 : Int32) (a1 : Int32) : Int32 := (a0 + ((2 : Int32) * a1))
set_option maxRecDepth 20000 in
theorem c_T_ring (l : Launch) (E : Cx) (a0 : Int32) (a1 : Int32) : Met l y_T_ring (Cond.code y_T_ring b_T_ring 2 (some .int) :: TB) (rk 0 0) (va_Pc [.int a0, .int a1] (preR E [])) (vp_Si (fun r => r = (s_T_ring a0 a1))) 0 0 (fun _ => False) := by
  refine w_roI rfl (Nat.le_of_ble_eq_true rfl) rfl ?_
  intro p e s m args below meth c Q ls hx hb hml hts hown hP hK hl hend
  have hl : lv_has ls 2 [(0, .int a0), (1, .int a1)] := hl
  have hown : s.vm.findClass R_T = some m.cls := hown
  refine lv_iload_n hx hb d_T_ring_0 rfl (lv_at hl 0 rfl) ?_
  refine lv_iconst (v := (2 : Int32)) hx hb d_T_ring_1 rfl ?_
  refine lv_iload_n hx hb d_T_ring_2 rfl (lv_at hl 1 rfl) ?_
  refine lv_imul hx hb d_T_ring_3 ?_
  refine lv_iadd hx hb d_T_ring_4 ?_
  exact hend _ _ _ (by rw [s_T_ring]) d_T_ring_5

def s_T_divides (a0 : Int32) (a1 : Int32) (a2 : Int32) : Int32 := (if a2 = 0 then (0 : Int32) else (if ((a0 + (s_T_ring a0 a1)) - (a0 + (s_T_ring a0 a1)) / a2 * a2) = 0 then (1 : Int32) else (0 : Int32)))
theorem z_T_divides (a0 : Int32) (a1 : Int32) (a2 : Int32) : (s_T_divides a0 a1 a2) = 0 ∨ (s_T_divides a0 a1 a2) = 1 := by rw [s_T_divides]; exact (ite_z (Or.inl rfl) (ite_z (Or.inr rfl) (Or.inl rfl)))
set_option maxRecDepth 20000 in
theorem c_T_divides (l : Launch) (E : Cx) (a0 : Int32) (a1 : Int32) (a2 : Int32) : Met l y_T_divides (Cond.code y_T_divides b_T_divides 3 (some .boolean) :: TB) (rk 1 21) (va_Pc [.int a0, .int a1, .int a2] (preR E [])) (vp_Si (fun r => r = (s_T_divides a0 a1 a2))) 0 0 (fun _ => False) := by
  refine w_roI rfl (Nat.le_of_ble_eq_true rfl) (k_nb (z_T_divides a0 a1 a2)) ?_
  intro p e s m args below meth c Q ls hx hb hml hts hown hP hK hl hend
  have hl : lv_has ls 3 [(0, .int a0), (1, .int a1), (2, .int a2)] := hl
  have hown : s.vm.findClass R_T = some m.cls := hown
  refine lv_iload_n hx hb d_T_divides_0 rfl (lv_at hl 2 rfl) ?_
  refine lv_if_eq (tgt := 20) hx hb d_T_divides_1 (by decide) (fun c_1 => ?_) (fun c_1 => ?_)
  · refine lv_iconst (v := (0 : Int32)) hx hb d_T_divides_20 rfl ?_
    exact hend _ _ _ (by rw [s_T_divides, if_pos c_1]) d_T_divides_21
  · refine lv_iload_n hx hb d_T_divides_4 rfl (lv_at hl 0 rfl) ?_
    refine lv_iload_n hx hb d_T_divides_5 rfl (lv_at hl 0 rfl) ?_
    refine lv_iload_n hx hb d_T_divides_6 rfl (lv_at hl 1 rfl) ?_
    refine k_si (rest := [.int a0]) (c_T_ring l E a0 a1) mi_T_ring ml_T_9 hx hb hml hts hown hK va_nil hl ⟨rfl, rfl⟩ ⟨(Nat.le_of_ble_eq_true rfl), (Nat.le_of_ble_eq_true rfl)⟩ ⟨Nat.zero_le _, Nat.zero_le _⟩ rfl (Nat.le_of_ble_eq_true rfl) rfl d_T_divides_7 ?_
    refine lv_iadd hx hb d_T_divides_10 ?_
    refine lv_iload_n hx hb d_T_divides_11 rfl (lv_at hl 2 rfl) ?_
    refine lv_irem hx hb d_T_divides_12 c_1 ?_
    refine lv_if_ne (tgt := 20) hx hb d_T_divides_13 (by decide) (fun c_13 => ?_) (fun c_13 => ?_)
    · refine lv_iconst (v := (0 : Int32)) hx hb d_T_divides_20 rfl ?_
      exact hend _ _ _ (by rw [s_T_divides, if_neg c_1, if_neg c_13]) d_T_divides_21
    · refine lv_iconst (v := (1 : Int32)) hx hb d_T_divides_16 rfl ?_
      refine lv_goto (tgt := 21) hx hb d_T_divides_17 (by decide) ?_
      exact hend _ _ _ (by rw [s_T_divides, if_neg c_1, if_pos c_13]) d_T_divides_21

def s_T_sine (a0 : Int32) : Int32 := (if a0 = 2 then (1000 : Int32) else (if a0 = 3 then (866 : Int32) else (if a0 = 4 then (707 : Int32) else (if a0 = 5 then (587 : Int32) else (if a0 = 6 then (500 : Int32) else (if a0 = 7 then (433 : Int32) else (if a0 = 8 then (382 : Int32) else (0 : Int32))))))))
set_option maxRecDepth 20000 in
theorem c_T_sine (l : Launch) (E : Cx) (a0 : Int32) : Met l y_T_sine (Cond.code y_T_sine b_T_sine 1 (some .int) :: TB) (rk 0 0) (va_Pc [.int a0] (preR E [])) (vp_Si (fun r => r = (s_T_sine a0))) 0 0 (fun _ => False) := by
  refine w_roI rfl (Nat.le_of_ble_eq_true rfl) rfl ?_
  intro p e s m args below meth c Q ls hx hb hml hts hown hP hK hl hend
  have hl : lv_has ls 1 [(0, .int a0)] := hl
  have hown : s.vm.findClass R_T = some m.cls := hown
  refine lv_iload_n hx hb d_T_sine_0 rfl (lv_at hl 0 rfl) ?_
  by_cases c_1_2 : a0 = (2 : Int32)
  · refine lv_tableIn (x := a0) (off := 43) (tgt := 44) hx hb d_T_sine_1 (by rw [c_1_2]; decide) (by rw [c_1_2]; decide) (by rw [c_1_2]; rfl) (by decide) ?_
    refine lv_sipush (v := (1000 : Int32)) hx hb d_T_sine_44 rfl ?_
    exact hend _ _ _ (by rw [s_T_sine, if_pos c_1_2]) d_T_sine_47
  by_cases c_1_3 : a0 = (3 : Int32)
  · refine lv_tableIn (x := a0) (off := 47) (tgt := 48) hx hb d_T_sine_1 (by rw [c_1_3]; decide) (by rw [c_1_3]; decide) (by rw [c_1_3]; rfl) (by decide) ?_
    refine lv_sipush (v := (866 : Int32)) hx hb d_T_sine_48 rfl ?_
    exact hend _ _ _ (by rw [s_T_sine, if_neg c_1_2, if_pos c_1_3]) d_T_sine_51
  by_cases c_1_4 : a0 = (4 : Int32)
  · refine lv_tableIn (x := a0) (off := 51) (tgt := 52) hx hb d_T_sine_1 (by rw [c_1_4]; decide) (by rw [c_1_4]; decide) (by rw [c_1_4]; rfl) (by decide) ?_
    refine lv_sipush (v := (707 : Int32)) hx hb d_T_sine_52 rfl ?_
    exact hend _ _ _ (by rw [s_T_sine, if_neg c_1_2, if_neg c_1_3, if_pos c_1_4]) d_T_sine_55
  by_cases c_1_5 : a0 = (5 : Int32)
  · refine lv_tableIn (x := a0) (off := 55) (tgt := 56) hx hb d_T_sine_1 (by rw [c_1_5]; decide) (by rw [c_1_5]; decide) (by rw [c_1_5]; rfl) (by decide) ?_
    refine lv_sipush (v := (587 : Int32)) hx hb d_T_sine_56 rfl ?_
    exact hend _ _ _ (by rw [s_T_sine, if_neg c_1_2, if_neg c_1_3, if_neg c_1_4, if_pos c_1_5]) d_T_sine_59
  by_cases c_1_6 : a0 = (6 : Int32)
  · refine lv_tableIn (x := a0) (off := 59) (tgt := 60) hx hb d_T_sine_1 (by rw [c_1_6]; decide) (by rw [c_1_6]; decide) (by rw [c_1_6]; rfl) (by decide) ?_
    refine lv_sipush (v := (500 : Int32)) hx hb d_T_sine_60 rfl ?_
    exact hend _ _ _ (by rw [s_T_sine, if_neg c_1_2, if_neg c_1_3, if_neg c_1_4, if_neg c_1_5, if_pos c_1_6]) d_T_sine_63
  by_cases c_1_7 : a0 = (7 : Int32)
  · refine lv_tableIn (x := a0) (off := 63) (tgt := 64) hx hb d_T_sine_1 (by rw [c_1_7]; decide) (by rw [c_1_7]; decide) (by rw [c_1_7]; rfl) (by decide) ?_
    refine lv_sipush (v := (433 : Int32)) hx hb d_T_sine_64 rfl ?_
    exact hend _ _ _ (by rw [s_T_sine, if_neg c_1_2, if_neg c_1_3, if_neg c_1_4, if_neg c_1_5, if_neg c_1_6, if_pos c_1_7]) d_T_sine_67
  by_cases c_1_8 : a0 = (8 : Int32)
  · refine lv_tableIn (x := a0) (off := 67) (tgt := 68) hx hb d_T_sine_1 (by rw [c_1_8]; decide) (by rw [c_1_8]; decide) (by rw [c_1_8]; rfl) (by decide) ?_
    refine lv_sipush (v := (382 : Int32)) hx hb d_T_sine_68 rfl ?_
    exact hend _ _ _ (by rw [s_T_sine, if_neg c_1_2, if_neg c_1_3, if_neg c_1_4, if_neg c_1_5, if_neg c_1_6, if_neg c_1_7, if_pos c_1_8]) d_T_sine_71
  have kd : W p l e (rk 0 0) s m args below meth c s.heap [] 0 0 Q (F0 m 72 ls []) := by
    refine lv_iconst (v := (0 : Int32)) hx hb d_T_sine_72 rfl ?_
    exact hend _ _ _ (by rw [s_T_sine, if_neg c_1_2, if_neg c_1_3, if_neg c_1_4, if_neg c_1_5, if_neg c_1_6, if_neg c_1_7, if_neg c_1_8]) d_T_sine_73
  have n_0 := lv_neT c_1_2 (a := 2) rfl
  have n_1 := lv_neT c_1_3 (a := 3) rfl
  have n_2 := lv_neT c_1_4 (a := 4) rfl
  have n_3 := lv_neT c_1_5 (a := 5) rfl
  have n_4 := lv_neT c_1_6 (a := 6) rfl
  have n_5 := lv_neT c_1_7 (a := 7) rfl
  have n_6 := lv_neT c_1_8 (a := 8) rfl
  exact lv_tableOut (x := a0) (tgt := 72) hx hb d_T_sine_1 (by omega) (by decide) kd

def s_T_touch (a0 : Int32) (a1 : Int32) (a2 : Int32) : Int32 := (if a2 = (1 : Int32) then (0 : Int32) else (if ((1000 : Int32) * (a1 + (2 : Int32))) < ((a0 + a1) * (s_T_sine a2)) then (0 : Int32) else (1 : Int32)))
theorem z_T_touch (a0 : Int32) (a1 : Int32) (a2 : Int32) : (s_T_touch a0 a1 a2) = 0 ∨ (s_T_touch a0 a1 a2) = 1 := by rw [s_T_touch]; exact (ite_z (Or.inl rfl) (ite_z (Or.inl rfl) (Or.inr rfl)))
set_option maxRecDepth 20000 in
theorem c_T_touch (l : Launch) (E : Cx) (a0 : Int32) (a1 : Int32) (a2 : Int32) : Met l y_T_touch (Cond.code y_T_touch b_T_touch 3 (some .boolean) :: TB) (rk 1 20) (va_Pc [.int a0, .int a1, .int a2] (preR E [])) (vp_Si (fun r => r = (s_T_touch a0 a1 a2))) 0 0 (fun _ => False) := by
  refine w_roI rfl (Nat.le_of_ble_eq_true rfl) (k_nb (z_T_touch a0 a1 a2)) ?_
  intro p e s m args below meth c Q ls hx hb hml hts hown hP hK hl hend
  have hl : lv_has ls 3 [(0, .int a0), (1, .int a1), (2, .int a2)] := hl
  have hown : s.vm.findClass R_T = some m.cls := hown
  refine lv_iload_n hx hb d_T_touch_0 rfl (lv_at hl 2 rfl) ?_
  refine lv_iconst (v := (1 : Int32)) hx hb d_T_touch_1 rfl ?_
  refine lv_icmp_eq (tgt := 27) hx hb d_T_touch_2 (by decide) (fun c_2 => ?_) (fun c_2 => ?_)
  · refine lv_iconst (v := (0 : Int32)) hx hb d_T_touch_27 rfl ?_
    exact hend _ _ _ (by rw [s_T_touch, if_pos c_2]) d_T_touch_28
  · refine lv_iload_n hx hb d_T_touch_5 rfl (lv_at hl 0 rfl) ?_
    refine lv_iload_n hx hb d_T_touch_6 rfl (lv_at hl 1 rfl) ?_
    refine lv_iadd hx hb d_T_touch_7 ?_
    refine lv_iload_n hx hb d_T_touch_8 rfl (lv_at hl 2 rfl) ?_
    refine k_si (rest := [.int (a0 + a1)]) (c_T_sine l E a2) mi_T_sine ml_T_15 hx hb hml hts hown hK va_nil hl ⟨rfl, rfl⟩ ⟨(Nat.le_of_ble_eq_true rfl), (Nat.le_of_ble_eq_true rfl)⟩ ⟨Nat.zero_le _, Nat.zero_le _⟩ rfl (Nat.le_of_ble_eq_true rfl) rfl d_T_touch_9 ?_
    refine lv_imul hx hb d_T_touch_12 ?_
    refine lv_sipush (v := (1000 : Int32)) hx hb d_T_touch_13 rfl ?_
    refine lv_iload_n hx hb d_T_touch_16 rfl (lv_at hl 1 rfl) ?_
    refine lv_iconst (v := (2 : Int32)) hx hb d_T_touch_17 rfl ?_
    refine lv_iadd hx hb d_T_touch_18 ?_
    refine lv_imul hx hb d_T_touch_19 ?_
    refine lv_icmp_gt (tgt := 27) hx hb d_T_touch_20 (by decide) (fun c_20 => ?_) (fun c_20 => ?_)
    · refine lv_iconst (v := (0 : Int32)) hx hb d_T_touch_27 rfl ?_
      exact hend _ _ _ (by rw [s_T_touch, if_neg c_2, if_pos c_20]) d_T_touch_28
    · refine lv_iconst (v := (1 : Int32)) hx hb d_T_touch_23 rfl ?_
      refine lv_goto (tgt := 28) hx hb d_T_touch_24 (by decide) ?_
      exact hend _ _ _ (by rw [s_T_touch, if_neg c_2, if_neg c_20]) d_T_touch_28

def s_T_canBe (a0 : Int32) (a1 : Int32) (a2 : Int32) : Int32 := (if (s_T_divides a0 a1 a2) = 0 then (0 : Int32) else (if (s_T_touch a0 a1 a2) = 0 then (1 : Int32) else (0 : Int32)))
theorem z_T_canBe (a0 : Int32) (a1 : Int32) (a2 : Int32) : (s_T_canBe a0 a1 a2) = 0 ∨ (s_T_canBe a0 a1 a2) = 1 := by rw [s_T_canBe]; exact (ite_z (Or.inl rfl) (ite_z (Or.inr rfl) (Or.inl rfl)))
set_option maxRecDepth 20000 in
theorem c_T_canBe (l : Launch) (E : Cx) (a0 : Int32) (a1 : Int32) (a2 : Int32) : Met l y_T_canBe (Cond.code y_T_canBe b_T_canBe 3 (some .boolean) :: TB) (rk 2 43) (va_Pc [.int a0, .int a1, .int a2] (preR E [])) (vp_Si (fun r => r = (s_T_canBe a0 a1 a2))) 0 0 (fun _ => False) := by
  refine w_roI rfl (Nat.le_of_ble_eq_true rfl) (k_nb (z_T_canBe a0 a1 a2)) ?_
  intro p e s m args below meth c Q ls hx hb hml hts hown hP hK hl hend
  have hl : lv_has ls 3 [(0, .int a0), (1, .int a1), (2, .int a2)] := hl
  have hown : s.vm.findClass R_T = some m.cls := hown
  refine lv_iload_n hx hb d_T_canBe_0 rfl (lv_at hl 0 rfl) ?_
  refine lv_iload_n hx hb d_T_canBe_1 rfl (lv_at hl 1 rfl) ?_
  refine lv_iload_n hx hb d_T_canBe_2 rfl (lv_at hl 2 rfl) ?_
  refine k_si (rest := []) (c_T_divides l E a0 a1 a2) mi_T_divides ml_T_19 hx hb hml hts hown hK va_nil hl ⟨rfl, rfl⟩ ⟨(Nat.le_of_ble_eq_true rfl), (Nat.le_of_ble_eq_true rfl)⟩ ⟨Nat.zero_le _, Nat.zero_le _⟩ rfl (Nat.le_of_ble_eq_true rfl) rfl d_T_canBe_3 ?_
  refine lv_if_eq (tgt := 22) hx hb d_T_canBe_6 (by decide) (fun c_6 => ?_) (fun c_6 => ?_)
  · refine lv_iconst (v := (0 : Int32)) hx hb d_T_canBe_22 rfl ?_
    exact hend _ _ _ (by rw [s_T_canBe, if_pos c_6]) d_T_canBe_23
  · refine lv_iload_n hx hb d_T_canBe_9 rfl (lv_at hl 0 rfl) ?_
    refine lv_iload_n hx hb d_T_canBe_10 rfl (lv_at hl 1 rfl) ?_
    refine lv_iload_n hx hb d_T_canBe_11 rfl (lv_at hl 2 rfl) ?_
    refine k_si (rest := []) (c_T_touch l E a0 a1 a2) mi_T_touch ml_T_23 hx hb hml hts hown hK va_nil hl ⟨rfl, rfl⟩ ⟨(Nat.le_of_ble_eq_true rfl), (Nat.le_of_ble_eq_true rfl)⟩ ⟨Nat.zero_le _, Nat.zero_le _⟩ rfl (Nat.le_of_ble_eq_true rfl) rfl d_T_canBe_12 ?_
    refine lv_if_ne (tgt := 22) hx hb d_T_canBe_15 (by decide) (fun c_15 => ?_) (fun c_15 => ?_)
    · refine lv_iconst (v := (0 : Int32)) hx hb d_T_canBe_22 rfl ?_
      exact hend _ _ _ (by rw [s_T_canBe, if_neg c_6, if_neg c_15]) d_T_canBe_23
    · refine lv_iconst (v := (1 : Int32)) hx hb d_T_canBe_18 rfl ?_
      refine lv_goto (tgt := 23) hx hb d_T_canBe_19 (by decide) ?_
      exact hend _ _ _ (by rw [s_T_canBe, if_neg c_6, if_pos c_15]) d_T_canBe_23

def s_T_teethTogether (a0 : Int32) (a1 : Int32) (a2 : Int32) : Int32 := ((a0 + (a2 * a1)) + (s_T_ring a0 a1))
set_option maxRecDepth 20000 in
theorem c_T_teethTogether (l : Launch) (E : Cx) (a0 : Int32) (a1 : Int32) (a2 : Int32) : Met l y_T_teethTogether (Cond.code y_T_teethTogether b_T_teethTogether 3 (some .int) :: TB) (rk 1 21) (va_Pc [.int a0, .int a1, .int a2] (preR E [])) (vp_Si (fun r => r = (s_T_teethTogether a0 a1 a2))) 0 0 (fun _ => False) := by
  refine w_roI rfl (Nat.le_of_ble_eq_true rfl) rfl ?_
  intro p e s m args below meth c Q ls hx hb hml hts hown hP hK hl hend
  have hl : lv_has ls 3 [(0, .int a0), (1, .int a1), (2, .int a2)] := hl
  have hown : s.vm.findClass R_T = some m.cls := hown
  refine lv_iload_n hx hb d_T_teethTogether_0 rfl (lv_at hl 0 rfl) ?_
  refine lv_iload_n hx hb d_T_teethTogether_1 rfl (lv_at hl 2 rfl) ?_
  refine lv_iload_n hx hb d_T_teethTogether_2 rfl (lv_at hl 1 rfl) ?_
  refine lv_imul hx hb d_T_teethTogether_3 ?_
  refine lv_iadd hx hb d_T_teethTogether_4 ?_
  refine lv_iload_n hx hb d_T_teethTogether_5 rfl (lv_at hl 0 rfl) ?_
  refine lv_iload_n hx hb d_T_teethTogether_6 rfl (lv_at hl 1 rfl) ?_
  refine k_si (rest := [.int (a0 + (a2 * a1))]) (c_T_ring l E a0 a1) mi_T_ring ml_T_9 hx hb hml hts hown hK va_nil hl ⟨rfl, rfl⟩ ⟨(Nat.le_of_ble_eq_true rfl), (Nat.le_of_ble_eq_true rfl)⟩ ⟨Nat.zero_le _, Nat.zero_le _⟩ rfl (Nat.le_of_ble_eq_true rfl) rfl d_T_teethTogether_7 ?_
  refine lv_iadd hx hb d_T_teethTogether_10 ?_
  exact hend _ _ _ (by rw [s_T_teethTogether]) d_T_teethTogether_11

def s_T_mostPlanets_b3 : Nat → Int32 → Int32 → Int32 → Int32
  | 0, _, _, _ => 0
  | n + 1, x0, x1, x2 => (if x2 ≤ (1 : Int32) then (1 : Int32) else (if (s_T_canBe x0 x1 x2) = 0 then (s_T_mostPlanets_b3 n x0 x1 (x2 + (-1))) else x2))
def s_T_mostPlanets (a0 : Int32) (a1 : Int32) : Int32 := (s_T_mostPlanets_b3 (10) a0 a1 (8 : Int32))
set_option maxRecDepth 20000 in
theorem c_T_mostPlanets (l : Launch) (E : Cx) (a0 : Int32) (a1 : Int32) : Met l y_T_mostPlanets (Cond.code y_T_mostPlanets b_T_mostPlanets 3 (some .int) :: TB) (rk 3 65) (va_Pc [.int a0, .int a1] (preR E [])) (vp_Si (fun r => r = (s_T_mostPlanets a0 a1))) 0 0 (fun _ => False) := by
  refine w_roI rfl (Nat.le_of_ble_eq_true rfl) rfl ?_
  intro p e s m args below meth c Q ls hx hb hml hts hown hP hK hl hend
  have hl : lv_has ls 3 [(0, .int a0), (1, .int a1)] := hl
  have hown : s.vm.findClass R_T = some m.cls := hown
  have b3 : ∀ (n : Nat) (x0 : Int32) (x1 : Int32) (x2 : Int32), (DN n x2) → ∀ (ls : Array Slot), lv_has ls 3 [(0, .int x0), (1, .int x1), (2, .int x2)] → (s_T_mostPlanets a0 a1) = s_T_mostPlanets_b3 n x0 x1 x2 → W p l e (rk 3 65) s m args below meth c s.heap [] 0 0 Q (F0 m 3 ls []) := by
    intro n3
    induction n3 with
    | zero => intro x0 x1 x2 hv; exact absurd hv (DN_z)
    | succ n3 ih3 =>
      intro x0 x1 x2 hv ls hl hq
      refine lv_iload_n hx hb d_T_mostPlanets_3 rfl (lv_at hl 2 rfl) ?_
      refine lv_iconst (v := (1 : Int32)) hx hb d_T_mostPlanets_4 rfl ?_
      refine lv_icmp_le (tgt := 25) hx hb d_T_mostPlanets_5 (by decide) (fun c_5 => ?_) (fun c_5 => ?_)
      · refine lv_iconst (v := (1 : Int32)) hx hb d_T_mostPlanets_25 rfl ?_
        exact hend _ _ _ (by rw [hq, s_T_mostPlanets_b3, if_pos c_5]) d_T_mostPlanets_26
      · refine lv_iload_n hx hb d_T_mostPlanets_8 rfl (lv_at hl 0 rfl) ?_
        refine lv_iload_n hx hb d_T_mostPlanets_9 rfl (lv_at hl 1 rfl) ?_
        refine lv_iload_n hx hb d_T_mostPlanets_10 rfl (lv_at hl 2 rfl) ?_
        refine k_si (rest := []) (c_T_canBe l E x0 x1 x2) mi_T_canBe ml_T_26 hx hb hml hts hown hK va_nil hl ⟨rfl, rfl⟩ ⟨(Nat.le_of_ble_eq_true rfl), (Nat.le_of_ble_eq_true rfl)⟩ ⟨Nat.zero_le _, Nat.zero_le _⟩ rfl (Nat.le_of_ble_eq_true rfl) rfl d_T_mostPlanets_11 ?_
        refine lv_if_eq (tgt := 19) hx hb d_T_mostPlanets_14 (by decide) (fun c_14 => ?_) (fun c_14 => ?_)
        · refine lv_iinc (v := (x2 + (-1))) (lv' := [(2, .int (x2 + (-1))), (0, .int x0), (1, .int x1)]) hx hb d_T_mostPlanets_19 hl (k := 2) rfl rfl (by decide) rfl (fun ls hl => ?_)
          refine lv_goto (tgt := 3) hx hb d_T_mostPlanets_22 (by decide) ?_
          exact ih3 x0 x1 (x2 + (-1)) (DN_dn1 hv c_5) ls (lv_sub hl [1, 2, 0] rfl) (by rw [hq, s_T_mostPlanets_b3, if_neg c_5, if_pos c_14])
        · refine lv_iload_n hx hb d_T_mostPlanets_17 rfl (lv_at hl 2 rfl) ?_
          exact hend _ _ _ (by rw [hq, s_T_mostPlanets_b3, if_neg c_5, if_neg c_14]) d_T_mostPlanets_18
  refine lv_bipush (v := (8 : Int32)) hx hb d_T_mostPlanets_0 rfl ?_
  refine lv_istore_n (lv' := [(2, .int (8 : Int32)), (0, .int a0), (1, .int a1)]) hx hb d_T_mostPlanets_2 rfl hl (by decide) rfl (fun ls hl => ?_)
  exact b3 (10) a0 a1 (8 : Int32) (DN_in (x := 8)) ls (lv_sub hl [1, 2, 0] rfl) (by rw [s_T_mostPlanets])

def s_T_weight (a0 : Int32) (a1 : Int32) (a2 : Int32) : Int32 := (if a2 = 0 then a0 else (if a2 = 1 then (a0 + (s_T_ring a0 a1)) else (if a2 = 2 then (s_T_ring a0 a1) else (0 : Int32))))
set_option maxRecDepth 20000 in
theorem c_T_weight (l : Launch) (E : Cx) (a0 : Int32) (a1 : Int32) (a2 : Int32) : Met l y_T_weight (Cond.code y_T_weight b_T_weight 3 (some .int) :: TB) (rk 1 21) (va_Pc [.int a0, .int a1, .int a2] (preR E [])) (vp_Si (fun r => r = (s_T_weight a0 a1 a2))) 0 0 (fun _ => False) := by
  refine w_roI rfl (Nat.le_of_ble_eq_true rfl) rfl ?_
  intro p e s m args below meth c Q ls hx hb hml hts hown hP hK hl hend
  have hl : lv_has ls 3 [(0, .int a0), (1, .int a1), (2, .int a2)] := hl
  have hown : s.vm.findClass R_T = some m.cls := hown
  refine lv_iload_n hx hb d_T_weight_0 rfl (lv_at hl 2 rfl) ?_
  by_cases c_1_0 : a2 = (0 : Int32)
  · refine lv_tableIn (x := a2) (off := 27) (tgt := 28) hx hb d_T_weight_1 (by rw [c_1_0]; decide) (by rw [c_1_0]; decide) (by rw [c_1_0]; rfl) (by decide) ?_
    refine lv_iload_n hx hb d_T_weight_28 rfl (lv_at hl 0 rfl) ?_
    exact hend _ _ _ (by rw [s_T_weight, if_pos c_1_0]) d_T_weight_29
  by_cases c_1_1 : a2 = (1 : Int32)
  · refine lv_tableIn (x := a2) (off := 29) (tgt := 30) hx hb d_T_weight_1 (by rw [c_1_1]; decide) (by rw [c_1_1]; decide) (by rw [c_1_1]; rfl) (by decide) ?_
    refine lv_iload_n hx hb d_T_weight_30 rfl (lv_at hl 0 rfl) ?_
    refine lv_iload_n hx hb d_T_weight_31 rfl (lv_at hl 0 rfl) ?_
    refine lv_iload_n hx hb d_T_weight_32 rfl (lv_at hl 1 rfl) ?_
    refine k_si (rest := [.int a0]) (c_T_ring l E a0 a1) mi_T_ring ml_T_9 hx hb hml hts hown hK va_nil hl ⟨rfl, rfl⟩ ⟨(Nat.le_of_ble_eq_true rfl), (Nat.le_of_ble_eq_true rfl)⟩ ⟨Nat.zero_le _, Nat.zero_le _⟩ rfl (Nat.le_of_ble_eq_true rfl) rfl d_T_weight_33 ?_
    refine lv_iadd hx hb d_T_weight_36 ?_
    exact hend _ _ _ (by rw [s_T_weight, if_neg c_1_0, if_pos c_1_1]) d_T_weight_37
  by_cases c_1_2 : a2 = (2 : Int32)
  · refine lv_tableIn (x := a2) (off := 37) (tgt := 38) hx hb d_T_weight_1 (by rw [c_1_2]; decide) (by rw [c_1_2]; decide) (by rw [c_1_2]; rfl) (by decide) ?_
    refine lv_iload_n hx hb d_T_weight_38 rfl (lv_at hl 0 rfl) ?_
    refine lv_iload_n hx hb d_T_weight_39 rfl (lv_at hl 1 rfl) ?_
    refine k_si (rest := []) (c_T_ring l E a0 a1) mi_T_ring ml_T_9 hx hb hml hts hown hK va_nil hl ⟨rfl, rfl⟩ ⟨(Nat.le_of_ble_eq_true rfl), (Nat.le_of_ble_eq_true rfl)⟩ ⟨Nat.zero_le _, Nat.zero_le _⟩ rfl (Nat.le_of_ble_eq_true rfl) rfl d_T_weight_40 ?_
    exact hend _ _ _ (by rw [s_T_weight, if_neg c_1_0, if_neg c_1_1, if_pos c_1_2]) d_T_weight_43
  have kd : W p l e (rk 1 21) s m args below meth c s.heap [] 0 0 Q (F0 m 44 ls []) := by
    refine lv_iconst (v := (0 : Int32)) hx hb d_T_weight_44 rfl ?_
    exact hend _ _ _ (by rw [s_T_weight, if_neg c_1_0, if_neg c_1_1, if_neg c_1_2]) d_T_weight_45
  have n_0 := lv_neT c_1_0 (a := 0) rfl
  have n_1 := lv_neT c_1_1 (a := 1) rfl
  have n_2 := lv_neT c_1_2 (a := 2) rfl
  exact lv_tableOut (x := a2) (tgt := 44) hx hb d_T_weight_1 (by omega) (by decide) kd

def s_T_ratioPart_b10 (x0 : Int32) (x1 : Int32) (x2 : Int32) (x3 : Int32) (x4 : Int32) (t0 : Int32) : Int64 := (if (s_T_weight x0 x1 x2) ≤ 0 then (-9223372036854775808 : Int64) else (s_P_partOf ((t0 * (s_T_weight x0 x1 (((3 : Int32) - x2) - x3))).toInt64) ((s_T_weight x0 x1 x2).toInt64) x4))
def s_T_ratioPart (a0 : Int32) (a1 : Int32) (a2 : Int32) (a3 : Int32) (a4 : Int32) : Int64 := (if a3 = (1 : Int32) then (s_T_ratioPart_b10 a0 a1 a2 a3 a4 (-1 : Int32)) else (s_T_ratioPart_b10 a0 a1 a2 a3 a4 (1 : Int32)))
set_option maxRecDepth 20000 in
theorem c_T_ratioPart (l : Launch) (E : Cx) (a0 : Int32) (a1 : Int32) (a2 : Int32) (a3 : Int32) (a4 : Int32) : Met l y_T_ratioPart (Cond.code y_T_ratioPart b_T_ratioPart 8 (some .long) :: TB) (rk 2 58) (va_Pc [.int a0, .int a1, .int a2, .int a3, .int a4] (preR E [])) (vp_Sl (fun r => r = (s_T_ratioPart a0 a1 a2 a3 a4))) 0 0 (fun _ => False) := by
  refine w_roL rfl (Nat.le_of_ble_eq_true rfl) ?_
  intro p e s m args below meth c Q ls hx hb hml hts hown hP hK hl hend
  have hl : lv_has ls 8 [(0, .int a0), (1, .int a1), (2, .int a2), (3, .int a3), (4, .int a4)] := hl
  have hown : s.vm.findClass R_T = some m.cls := hown
  have b10 : ∀ (x0 : Int32) (x1 : Int32) (x2 : Int32) (x3 : Int32) (x4 : Int32) (t0 : Int32), ∀ (ls : Array Slot), lv_has ls 8 [(0, .int x0), (1, .int x1), (2, .int x2), (3, .int x3), (4, .int x4)] → (s_T_ratioPart a0 a1 a2 a3 a4) = s_T_ratioPart_b10 x0 x1 x2 x3 x4 t0 → W p l e (rk 2 58) s m args below meth c s.heap [] 0 0 Q (F0 m 10 ls [.int t0]) := by
    intro x0 x1 x2 x3 x4 t0 ls hl hq
    refine lv_istore (lv' := [(5, .int t0), (0, .int x0), (1, .int x1), (2, .int x2), (3, .int x3), (4, .int x4)]) hx hb d_T_ratioPart_10 hl (by decide) rfl (fun ls hl => ?_)
    refine lv_iload_n hx hb d_T_ratioPart_12 rfl (lv_at hl 1 rfl) ?_
    refine lv_iload_n hx hb d_T_ratioPart_13 rfl (lv_at hl 2 rfl) ?_
    refine lv_iconst (v := (3 : Int32)) hx hb d_T_ratioPart_14 rfl ?_
    refine lv_iload_n hx hb d_T_ratioPart_15 rfl (lv_at hl 3 rfl) ?_
    refine lv_isub hx hb d_T_ratioPart_16 ?_
    refine lv_iload_n hx hb d_T_ratioPart_17 rfl (lv_at hl 4 rfl) ?_
    refine lv_isub hx hb d_T_ratioPart_18 ?_
    refine k_si (rest := []) (c_T_weight l E x0 x1 (((3 : Int32) - x2) - x3)) mi_T_weight ml_T_29 hx hb hml hts hown hK va_nil hl ⟨rfl, rfl⟩ ⟨(Nat.le_of_ble_eq_true rfl), (Nat.le_of_ble_eq_true rfl)⟩ ⟨Nat.zero_le _, Nat.zero_le _⟩ rfl (Nat.le_of_ble_eq_true rfl) rfl d_T_ratioPart_19 ?_
    refine lv_istore (lv' := [(6, .int (s_T_weight x0 x1 (((3 : Int32) - x2) - x3))), (5, .int t0), (0, .int x0), (1, .int x1), (2, .int x2), (3, .int x3), (4, .int x4)]) hx hb d_T_ratioPart_22 hl (by decide) rfl (fun ls hl => ?_)
    refine lv_iload_n hx hb d_T_ratioPart_24 rfl (lv_at hl 2 rfl) ?_
    refine lv_iload_n hx hb d_T_ratioPart_25 rfl (lv_at hl 3 rfl) ?_
    refine lv_iload_n hx hb d_T_ratioPart_26 rfl (lv_at hl 4 rfl) ?_
    refine k_si (rest := []) (c_T_weight l E x0 x1 x2) mi_T_weight ml_T_29 hx hb hml hts hown hK va_nil hl ⟨rfl, rfl⟩ ⟨(Nat.le_of_ble_eq_true rfl), (Nat.le_of_ble_eq_true rfl)⟩ ⟨Nat.zero_le _, Nat.zero_le _⟩ rfl (Nat.le_of_ble_eq_true rfl) rfl d_T_ratioPart_27 ?_
    refine lv_istore (lv' := [(7, .int (s_T_weight x0 x1 x2)), (6, .int (s_T_weight x0 x1 (((3 : Int32) - x2) - x3))), (5, .int t0), (0, .int x0), (1, .int x1), (2, .int x2), (3, .int x3), (4, .int x4)]) hx hb d_T_ratioPart_30 hl (by decide) rfl (fun ls hl => ?_)
    refine lv_iload hx hb d_T_ratioPart_32 (lv_at hl 0 rfl) ?_
    refine lv_if_le (tgt := 54) hx hb d_T_ratioPart_34 (by decide) (fun c_34 => ?_) (fun c_34 => ?_)
    · refine lv_ldc2 (v := (-9223372036854775808 : Int64)) hx hb hown (hts _ kl_T_37) d_T_ratioPart_54 ?_
      exact hend _ _ _ (by rw [hq, s_T_ratioPart_b10, if_pos c_34]) d_T_ratioPart_57
    · refine lv_iload hx hb d_T_ratioPart_37 (lv_at hl 2 rfl) ?_
      refine lv_iload hx hb d_T_ratioPart_39 (lv_at hl 1 rfl) ?_
      refine lv_imul hx hb d_T_ratioPart_41 ?_
      refine lv_i2l hx hb d_T_ratioPart_42 rfl ?_
      refine lv_iload hx hb d_T_ratioPart_43 (lv_at hl 0 rfl) ?_
      refine lv_i2l hx hb d_T_ratioPart_45 rfl ?_
      refine lv_iload hx hb d_T_ratioPart_46 (lv_at hl 7 rfl) ?_
      refine k_nl (rest := []) (c_P_partOf l E ((t0 * (s_T_weight x0 x1 (((3 : Int32) - x2) - x3))).toInt64) ((s_T_weight x0 x1 x2).toInt64) x4) mi_P_partOf nw_T_33 hx hb hml hts hown hK va_nil hl ⟨rfl, rfl⟩ ⟨(Nat.le_of_ble_eq_true rfl), (Nat.le_of_ble_eq_true rfl)⟩ ⟨Nat.zero_le _, Nat.zero_le _⟩ rfl (Nat.le_of_ble_eq_true rfl) rfl d_T_ratioPart_48 ?_
      refine lv_goto (tgt := 57) hx hb d_T_ratioPart_51 (by decide) ?_
      exact hend _ _ _ (by rw [hq, s_T_ratioPart_b10, if_neg c_34]) d_T_ratioPart_57
  refine lv_iload_n hx hb d_T_ratioPart_0 rfl (lv_at hl 3 rfl) ?_
  refine lv_iconst (v := (1 : Int32)) hx hb d_T_ratioPart_1 rfl ?_
  refine lv_icmp_ne (tgt := 9) hx hb d_T_ratioPart_2 (by decide) (fun c_2 => ?_) (fun c_2 => ?_)
  · refine lv_iconst (v := (1 : Int32)) hx hb d_T_ratioPart_9 rfl ?_
    exact b10 a0 a1 a2 a3 a4 (1 : Int32) ls (lv_sub hl [0, 1, 2, 3, 4] rfl) (by rw [s_T_ratioPart, if_neg c_2])
  · refine lv_iconst (v := (-1 : Int32)) hx hb d_T_ratioPart_5 rfl ?_
    refine lv_goto (tgt := 10) hx hb d_T_ratioPart_6 (by decide) ?_
    exact b10 a0 a1 a2 a3 a4 (-1 : Int32) ls (lv_sub hl [0, 1, 2, 3, 4] rfl) (by rw [s_T_ratioPart, if_pos c_2])

def s_H_isAsked_b75 (x1 : Int32) (x3 : Int32) (x8 : Int32) (t0 : Int32) : Int32 := (if x8 = 0 then (0 : Int32) else (if t0 = 0 then (0 : Int32) else (if x1 < (1 : Int32) then (0 : Int32) else (if (8 : Int32) < x1 then (0 : Int32) else (if x3 < 0 then (0 : Int32) else (if (200 : Int32) < x3 then (0 : Int32) else (1 : Int32)))))))
def s_H_isAsked_b74 (x1 : Int32) (x3 : Int32) (x8 : Int32) : Int32 := (s_H_isAsked_b75 x1 x3 x8 (0 : Int32))
def s_H_isAsked_b49 (x1 : Int32) (x3 : Int32) (x6 : Int32) (x7 : Int32) (t0 : Int32) : Int32 := (if x6 < (1 : Int32) then (s_H_isAsked_b74 x1 x3 t0) else (if (99 : Int32) < x6 then (s_H_isAsked_b74 x1 x3 t0) else (if x7 < (1 : Int32) then (s_H_isAsked_b74 x1 x3 t0) else (s_H_isAsked_b75 x1 x3 t0 (1 : Int32)))))
def s_H_isAsked_b48 (x1 : Int32) (x3 : Int32) (x6 : Int32) (x7 : Int32) : Int32 := (s_H_isAsked_b49 x1 x3 x6 x7 (0 : Int32))
def s_H_isAsked (a0 : Int32) (a1 : Int32) (a2 : Int32) (a3 : Int32) : Int32 := (if (a0 / (100 : Int32)) < (5 : Int32) then (s_H_isAsked_b48 a1 a3 (a2 / (100 : Int32)) (a2 - a2 / (100 : Int32) * (100 : Int32))) else (if (60 : Int32) < (a0 - a0 / (100 : Int32) * (100 : Int32)) then (s_H_isAsked_b48 a1 a3 (a2 / (100 : Int32)) (a2 - a2 / (100 : Int32) * (100 : Int32))) else (if (a0 - a0 / (100 : Int32) * (100 : Int32)) < (a0 / (100 : Int32)) then (s_H_isAsked_b48 a1 a3 (a2 / (100 : Int32)) (a2 - a2 / (100 : Int32) * (100 : Int32))) else (s_H_isAsked_b49 a1 a3 (a2 / (100 : Int32)) (a2 - a2 / (100 : Int32) * (100 : Int32)) (1 : Int32)))))
theorem z_H_isAsked_b75 (x1 : Int32) (x3 : Int32) (x8 : Int32) (t0 : Int32) : (s_H_isAsked_b75 x1 x3 x8 t0) = 0 ∨ (s_H_isAsked_b75 x1 x3 x8 t0) = 1 := by rw [s_H_isAsked_b75]; exact (ite_z (Or.inl rfl) (ite_z (Or.inl rfl) (ite_z (Or.inl rfl) (ite_z (Or.inl rfl) (ite_z (Or.inl rfl) (ite_z (Or.inl rfl) (Or.inr rfl)))))))
theorem z_H_isAsked_b74 (x1 : Int32) (x3 : Int32) (x8 : Int32) : (s_H_isAsked_b74 x1 x3 x8) = 0 ∨ (s_H_isAsked_b74 x1 x3 x8) = 1 := by rw [s_H_isAsked_b74]; exact (z_H_isAsked_b75 x1 x3 x8 (0 : Int32))
theorem z_H_isAsked_b49 (x1 : Int32) (x3 : Int32) (x6 : Int32) (x7 : Int32) (t0 : Int32) : (s_H_isAsked_b49 x1 x3 x6 x7 t0) = 0 ∨ (s_H_isAsked_b49 x1 x3 x6 x7 t0) = 1 := by rw [s_H_isAsked_b49]; exact (ite_z (z_H_isAsked_b74 x1 x3 t0) (ite_z (z_H_isAsked_b74 x1 x3 t0) (ite_z (z_H_isAsked_b74 x1 x3 t0) (z_H_isAsked_b75 x1 x3 t0 (1 : Int32)))))
theorem z_H_isAsked_b48 (x1 : Int32) (x3 : Int32) (x6 : Int32) (x7 : Int32) : (s_H_isAsked_b48 x1 x3 x6 x7) = 0 ∨ (s_H_isAsked_b48 x1 x3 x6 x7) = 1 := by rw [s_H_isAsked_b48]; exact (z_H_isAsked_b49 x1 x3 x6 x7 (0 : Int32))
theorem z_H_isAsked (a0 : Int32) (a1 : Int32) (a2 : Int32) (a3 : Int32) : (s_H_isAsked a0 a1 a2 a3) = 0 ∨ (s_H_isAsked a0 a1 a2 a3) = 1 := by rw [s_H_isAsked]; exact (ite_z (z_H_isAsked_b48 a1 a3 (a2 / (100 : Int32)) (a2 - a2 / (100 : Int32) * (100 : Int32))) (ite_z (z_H_isAsked_b48 a1 a3 (a2 / (100 : Int32)) (a2 - a2 / (100 : Int32) * (100 : Int32))) (ite_z (z_H_isAsked_b48 a1 a3 (a2 / (100 : Int32)) (a2 - a2 / (100 : Int32) * (100 : Int32))) (z_H_isAsked_b49 a1 a3 (a2 / (100 : Int32)) (a2 - a2 / (100 : Int32) * (100 : Int32)) (1 : Int32)))))
set_option maxRecDepth 20000 in
theorem c_H_isAsked (l : Launch) (E : Cx) (a0 : Int32) (a1 : Int32) (a2 : Int32) (a3 : Int32) : Met l y_H_isAsked (Cond.code y_H_isAsked b_H_isAsked 10 (some .boolean) :: TB) (rk 0 0) (va_Pc [.int a0, .int a1, .int a2, .int a3] (preR E [])) (vp_Si (fun r => r = (s_H_isAsked a0 a1 a2 a3))) 0 0 (fun _ => False) := by
  refine w_roI rfl (Nat.le_of_ble_eq_true rfl) (k_nb (z_H_isAsked a0 a1 a2 a3)) ?_
  intro p e s m args below meth c Q ls hx hb hml hts hown hP hK hl hend
  have hl : lv_has ls 10 [(0, .int a0), (1, .int a1), (2, .int a2), (3, .int a3)] := hl
  have hown : s.vm.findClass R_H = some m.cls := hown
  have b75 : ∀ (x1 : Int32) (x3 : Int32) (x8 : Int32) (t0 : Int32), ∀ (ls : Array Slot), lv_has ls 10 [(1, .int x1), (3, .int x3), (8, .int x8)] → (s_H_isAsked a0 a1 a2 a3) = s_H_isAsked_b75 x1 x3 x8 t0 → W p l e (rk 0 0) s m args below meth c s.heap [] 0 0 Q (F0 m 75 ls [.int t0]) := by
    intro x1 x3 x8 t0 ls hl hq
    refine lv_istore (lv' := [(9, .int t0), (1, .int x1), (3, .int x3), (8, .int x8)]) hx hb d_H_isAsked_75 hl (by decide) rfl (fun ls hl => ?_)
    refine lv_iload hx hb d_H_isAsked_77 (lv_at hl 3 rfl) ?_
    refine lv_if_eq (tgt := 113) hx hb d_H_isAsked_79 (by decide) (fun c_79 => ?_) (fun c_79 => ?_)
    · refine lv_iconst (v := (0 : Int32)) hx hb d_H_isAsked_113 rfl ?_
      exact hend _ _ _ (by rw [hq, s_H_isAsked_b75, if_pos c_79]) d_H_isAsked_114
    · refine lv_iload hx hb d_H_isAsked_82 (lv_at hl 0 rfl) ?_
      refine lv_if_eq (tgt := 113) hx hb d_H_isAsked_84 (by decide) (fun c_84 => ?_) (fun c_84 => ?_)
      · refine lv_iconst (v := (0 : Int32)) hx hb d_H_isAsked_113 rfl ?_
        exact hend _ _ _ (by rw [hq, s_H_isAsked_b75, if_neg c_79, if_pos c_84]) d_H_isAsked_114
      · refine lv_iload_n hx hb d_H_isAsked_87 rfl (lv_at hl 1 rfl) ?_
        refine lv_iconst (v := (1 : Int32)) hx hb d_H_isAsked_88 rfl ?_
        refine lv_icmp_lt (tgt := 113) hx hb d_H_isAsked_89 (by decide) (fun c_89 => ?_) (fun c_89 => ?_)
        · refine lv_iconst (v := (0 : Int32)) hx hb d_H_isAsked_113 rfl ?_
          exact hend _ _ _ (by rw [hq, s_H_isAsked_b75, if_neg c_79, if_neg c_84, if_pos c_89]) d_H_isAsked_114
        · refine lv_iload_n hx hb d_H_isAsked_92 rfl (lv_at hl 1 rfl) ?_
          refine lv_bipush (v := (8 : Int32)) hx hb d_H_isAsked_93 rfl ?_
          refine lv_icmp_gt (tgt := 113) hx hb d_H_isAsked_95 (by decide) (fun c_95 => ?_) (fun c_95 => ?_)
          · refine lv_iconst (v := (0 : Int32)) hx hb d_H_isAsked_113 rfl ?_
            exact hend _ _ _ (by rw [hq, s_H_isAsked_b75, if_neg c_79, if_neg c_84, if_neg c_89, if_pos c_95]) d_H_isAsked_114
          · refine lv_iload_n hx hb d_H_isAsked_98 rfl (lv_at hl 2 rfl) ?_
            refine lv_if_lt (tgt := 113) hx hb d_H_isAsked_99 (by decide) (fun c_99 => ?_) (fun c_99 => ?_)
            · refine lv_iconst (v := (0 : Int32)) hx hb d_H_isAsked_113 rfl ?_
              exact hend _ _ _ (by rw [hq, s_H_isAsked_b75, if_neg c_79, if_neg c_84, if_neg c_89, if_neg c_95, if_pos c_99]) d_H_isAsked_114
            · refine lv_iload_n hx hb d_H_isAsked_102 rfl (lv_at hl 2 rfl) ?_
              refine lv_sipush (v := (200 : Int32)) hx hb d_H_isAsked_103 rfl ?_
              refine lv_icmp_gt (tgt := 113) hx hb d_H_isAsked_106 (by decide) (fun c_106 => ?_) (fun c_106 => ?_)
              · refine lv_iconst (v := (0 : Int32)) hx hb d_H_isAsked_113 rfl ?_
                exact hend _ _ _ (by rw [hq, s_H_isAsked_b75, if_neg c_79, if_neg c_84, if_neg c_89, if_neg c_95, if_neg c_99, if_pos c_106]) d_H_isAsked_114
              · refine lv_iconst (v := (1 : Int32)) hx hb d_H_isAsked_109 rfl ?_
                refine lv_goto (tgt := 114) hx hb d_H_isAsked_110 (by decide) ?_
                exact hend _ _ _ (by rw [hq, s_H_isAsked_b75, if_neg c_79, if_neg c_84, if_neg c_89, if_neg c_95, if_neg c_99, if_neg c_106]) d_H_isAsked_114
  have b74 : ∀ (x1 : Int32) (x3 : Int32) (x8 : Int32), ∀ (ls : Array Slot), lv_has ls 10 [(1, .int x1), (3, .int x3), (8, .int x8)] → (s_H_isAsked a0 a1 a2 a3) = s_H_isAsked_b74 x1 x3 x8 → W p l e (rk 0 0) s m args below meth c s.heap [] 0 0 Q (F0 m 74 ls []) := by
    intro x1 x3 x8 ls hl hq
    refine lv_iconst (v := (0 : Int32)) hx hb d_H_isAsked_74 rfl ?_
    exact b75 x1 x3 x8 (0 : Int32) ls (lv_sub hl [0, 1, 2] rfl) (by rw [hq, s_H_isAsked_b74])
  have b49 : ∀ (x1 : Int32) (x3 : Int32) (x6 : Int32) (x7 : Int32) (t0 : Int32), ∀ (ls : Array Slot), lv_has ls 10 [(1, .int x1), (3, .int x3), (6, .int x6), (7, .int x7)] → (s_H_isAsked a0 a1 a2 a3) = s_H_isAsked_b49 x1 x3 x6 x7 t0 → W p l e (rk 0 0) s m args below meth c s.heap [] 0 0 Q (F0 m 49 ls [.int t0]) := by
    intro x1 x3 x6 x7 t0 ls hl hq
    refine lv_istore (lv' := [(8, .int t0), (1, .int x1), (3, .int x3), (6, .int x6), (7, .int x7)]) hx hb d_H_isAsked_49 hl (by decide) rfl (fun ls hl => ?_)
    refine lv_iload hx hb d_H_isAsked_51 (lv_at hl 3 rfl) ?_
    refine lv_iconst (v := (1 : Int32)) hx hb d_H_isAsked_53 rfl ?_
    refine lv_icmp_lt (tgt := 74) hx hb d_H_isAsked_54 (by decide) (fun c_54 => ?_) (fun c_54 => ?_)
    · exact b74 x1 x3 t0 ls (lv_sub hl [1, 2, 0] rfl) (by rw [hq, s_H_isAsked_b49, if_pos c_54])
    · refine lv_iload hx hb d_H_isAsked_57 (lv_at hl 3 rfl) ?_
      refine lv_bipush (v := (99 : Int32)) hx hb d_H_isAsked_59 rfl ?_
      refine lv_icmp_gt (tgt := 74) hx hb d_H_isAsked_61 (by decide) (fun c_61 => ?_) (fun c_61 => ?_)
      · exact b74 x1 x3 t0 ls (lv_sub hl [1, 2, 0] rfl) (by rw [hq, s_H_isAsked_b49, if_neg c_54, if_pos c_61])
      · refine lv_iload hx hb d_H_isAsked_64 (lv_at hl 4 rfl) ?_
        refine lv_iconst (v := (1 : Int32)) hx hb d_H_isAsked_66 rfl ?_
        refine lv_icmp_lt (tgt := 74) hx hb d_H_isAsked_67 (by decide) (fun c_67 => ?_) (fun c_67 => ?_)
        · exact b74 x1 x3 t0 ls (lv_sub hl [1, 2, 0] rfl) (by rw [hq, s_H_isAsked_b49, if_neg c_54, if_neg c_61, if_pos c_67])
        · refine lv_iconst (v := (1 : Int32)) hx hb d_H_isAsked_70 rfl ?_
          refine lv_goto (tgt := 75) hx hb d_H_isAsked_71 (by decide) ?_
          exact b75 x1 x3 t0 (1 : Int32) ls (lv_sub hl [1, 2, 0] rfl) (by rw [hq, s_H_isAsked_b49, if_neg c_54, if_neg c_61, if_neg c_67])
  have b48 : ∀ (x1 : Int32) (x3 : Int32) (x6 : Int32) (x7 : Int32), ∀ (ls : Array Slot), lv_has ls 10 [(1, .int x1), (3, .int x3), (6, .int x6), (7, .int x7)] → (s_H_isAsked a0 a1 a2 a3) = s_H_isAsked_b48 x1 x3 x6 x7 → W p l e (rk 0 0) s m args below meth c s.heap [] 0 0 Q (F0 m 48 ls []) := by
    intro x1 x3 x6 x7 ls hl hq
    refine lv_iconst (v := (0 : Int32)) hx hb d_H_isAsked_48 rfl ?_
    exact b49 x1 x3 x6 x7 (0 : Int32) ls (lv_sub hl [0, 1, 2, 3] rfl) (by rw [hq, s_H_isAsked_b48])
  refine lv_iload_n hx hb d_H_isAsked_0 rfl (lv_at hl 0 rfl) ?_
  refine lv_bipush (v := (100 : Int32)) hx hb d_H_isAsked_1 rfl ?_
  refine lv_idiv hx hb d_H_isAsked_3 (by decide) ?_
  refine lv_istore (lv' := [(4, .int (a0 / (100 : Int32))), (0, .int a0), (1, .int a1), (2, .int a2), (3, .int a3)]) hx hb d_H_isAsked_4 hl (by decide) rfl (fun ls hl => ?_)
  refine lv_iload_n hx hb d_H_isAsked_6 rfl (lv_at hl 1 rfl) ?_
  refine lv_bipush (v := (100 : Int32)) hx hb d_H_isAsked_7 rfl ?_
  refine lv_irem hx hb d_H_isAsked_9 (by decide) ?_
  refine lv_istore (lv' := [(5, .int (a0 - a0 / (100 : Int32) * (100 : Int32))), (4, .int (a0 / (100 : Int32))), (0, .int a0), (1, .int a1), (2, .int a2), (3, .int a3)]) hx hb d_H_isAsked_10 hl (by decide) rfl (fun ls hl => ?_)
  refine lv_iload_n hx hb d_H_isAsked_12 rfl (lv_at hl 4 rfl) ?_
  refine lv_bipush (v := (100 : Int32)) hx hb d_H_isAsked_13 rfl ?_
  refine lv_idiv hx hb d_H_isAsked_15 (by decide) ?_
  refine lv_istore (lv' := [(6, .int (a2 / (100 : Int32))), (5, .int (a0 - a0 / (100 : Int32) * (100 : Int32))), (4, .int (a0 / (100 : Int32))), (0, .int a0), (1, .int a1), (2, .int a2), (3, .int a3)]) hx hb d_H_isAsked_16 hl (by decide) rfl (fun ls hl => ?_)
  refine lv_iload_n hx hb d_H_isAsked_18 rfl (lv_at hl 5 rfl) ?_
  refine lv_bipush (v := (100 : Int32)) hx hb d_H_isAsked_19 rfl ?_
  refine lv_irem hx hb d_H_isAsked_21 (by decide) ?_
  refine lv_istore (lv' := [(7, .int (a2 - a2 / (100 : Int32) * (100 : Int32))), (6, .int (a2 / (100 : Int32))), (5, .int (a0 - a0 / (100 : Int32) * (100 : Int32))), (4, .int (a0 / (100 : Int32))), (0, .int a0), (1, .int a1), (2, .int a2), (3, .int a3)]) hx hb d_H_isAsked_22 hl (by decide) rfl (fun ls hl => ?_)
  refine lv_iload hx hb d_H_isAsked_24 (lv_at hl 3 rfl) ?_
  refine lv_iconst (v := (5 : Int32)) hx hb d_H_isAsked_26 rfl ?_
  refine lv_icmp_lt (tgt := 48) hx hb d_H_isAsked_27 (by decide) (fun c_27 => ?_) (fun c_27 => ?_)
  · exact b48 a1 a3 (a2 / (100 : Int32)) (a2 - a2 / (100 : Int32) * (100 : Int32)) ls (lv_sub hl [5, 7, 1, 0] rfl) (by rw [s_H_isAsked, if_pos c_27])
  · refine lv_iload hx hb d_H_isAsked_30 (lv_at hl 2 rfl) ?_
    refine lv_bipush (v := (60 : Int32)) hx hb d_H_isAsked_32 rfl ?_
    refine lv_icmp_gt (tgt := 48) hx hb d_H_isAsked_34 (by decide) (fun c_34 => ?_) (fun c_34 => ?_)
    · exact b48 a1 a3 (a2 / (100 : Int32)) (a2 - a2 / (100 : Int32) * (100 : Int32)) ls (lv_sub hl [5, 7, 1, 0] rfl) (by rw [s_H_isAsked, if_neg c_27, if_pos c_34])
    · refine lv_iload hx hb d_H_isAsked_37 (lv_at hl 3 rfl) ?_
      refine lv_iload hx hb d_H_isAsked_39 (lv_at hl 2 rfl) ?_
      refine lv_icmp_gt (tgt := 48) hx hb d_H_isAsked_41 (by decide) (fun c_41 => ?_) (fun c_41 => ?_)
      · exact b48 a1 a3 (a2 / (100 : Int32)) (a2 - a2 / (100 : Int32) * (100 : Int32)) ls (lv_sub hl [5, 7, 1, 0] rfl) (by rw [s_H_isAsked, if_neg c_27, if_neg c_34, if_pos c_41])
      · refine lv_iconst (v := (1 : Int32)) hx hb d_H_isAsked_44 rfl ?_
        refine lv_goto (tgt := 49) hx hb d_H_isAsked_45 (by decide) ?_
        exact b49 a1 a3 (a2 / (100 : Int32)) (a2 - a2 / (100 : Int32) * (100 : Int32)) (1 : Int32) ls (lv_sub hl [5, 7, 1, 0] rfl) (by rw [s_H_isAsked, if_neg c_27, if_neg c_34, if_neg c_41])

def s_X_isLetter (a0 : Int32) : Int32 := (if a0 = (119 : Int32) then (1 : Int32) else (if a0 = (115 : Int32) then (1 : Int32) else (if a0 = (112 : Int32) then (1 : Int32) else (if a0 = (116 : Int32) then (1 : Int32) else (if a0 = (120 : Int32) then (1 : Int32) else (0 : Int32))))))
theorem z_X_isLetter (a0 : Int32) : (s_X_isLetter a0) = 0 ∨ (s_X_isLetter a0) = 1 := by rw [s_X_isLetter]; exact (ite_z (Or.inr rfl) (ite_z (Or.inr rfl) (ite_z (Or.inr rfl) (ite_z (Or.inr rfl) (ite_z (Or.inr rfl) (Or.inl rfl))))))
set_option maxRecDepth 20000 in
theorem c_X_isLetter (l : Launch) (E : Cx) (a0 : Int32) : Met l y_X_isLetter (Cond.code y_X_isLetter b_X_isLetter 1 (some .boolean) :: TB) (rk 0 0) (va_Pc [.int a0] (preR E [])) (vp_Si (fun r => r = (s_X_isLetter a0))) 0 0 (fun _ => False) := by
  refine w_roI rfl (Nat.le_of_ble_eq_true rfl) (k_nb (z_X_isLetter a0)) ?_
  intro p e s m args below meth c Q ls hx hb hml hts hown hP hK hl hend
  have hl : lv_has ls 1 [(0, .int a0)] := hl
  have hown : s.vm.findClass R_X = some m.cls := hown
  refine lv_iload_n hx hb d_X_isLetter_0 rfl (lv_at hl 0 rfl) ?_
  refine lv_bipush (v := (119 : Int32)) hx hb d_X_isLetter_1 rfl ?_
  refine lv_icmp_eq (tgt := 30) hx hb d_X_isLetter_3 (by decide) (fun c_3 => ?_) (fun c_3 => ?_)
  · refine lv_iconst (v := (1 : Int32)) hx hb d_X_isLetter_30 rfl ?_
    refine lv_goto (tgt := 35) hx hb d_X_isLetter_31 (by decide) ?_
    exact hend _ _ _ (by rw [s_X_isLetter, if_pos c_3]) d_X_isLetter_35
  · refine lv_iload_n hx hb d_X_isLetter_6 rfl (lv_at hl 0 rfl) ?_
    refine lv_bipush (v := (115 : Int32)) hx hb d_X_isLetter_7 rfl ?_
    refine lv_icmp_eq (tgt := 30) hx hb d_X_isLetter_9 (by decide) (fun c_9 => ?_) (fun c_9 => ?_)
    · refine lv_iconst (v := (1 : Int32)) hx hb d_X_isLetter_30 rfl ?_
      refine lv_goto (tgt := 35) hx hb d_X_isLetter_31 (by decide) ?_
      exact hend _ _ _ (by rw [s_X_isLetter, if_neg c_3, if_pos c_9]) d_X_isLetter_35
    · refine lv_iload_n hx hb d_X_isLetter_12 rfl (lv_at hl 0 rfl) ?_
      refine lv_bipush (v := (112 : Int32)) hx hb d_X_isLetter_13 rfl ?_
      refine lv_icmp_eq (tgt := 30) hx hb d_X_isLetter_15 (by decide) (fun c_15 => ?_) (fun c_15 => ?_)
      · refine lv_iconst (v := (1 : Int32)) hx hb d_X_isLetter_30 rfl ?_
        refine lv_goto (tgt := 35) hx hb d_X_isLetter_31 (by decide) ?_
        exact hend _ _ _ (by rw [s_X_isLetter, if_neg c_3, if_neg c_9, if_pos c_15]) d_X_isLetter_35
      · refine lv_iload_n hx hb d_X_isLetter_18 rfl (lv_at hl 0 rfl) ?_
        refine lv_bipush (v := (116 : Int32)) hx hb d_X_isLetter_19 rfl ?_
        refine lv_icmp_eq (tgt := 30) hx hb d_X_isLetter_21 (by decide) (fun c_21 => ?_) (fun c_21 => ?_)
        · refine lv_iconst (v := (1 : Int32)) hx hb d_X_isLetter_30 rfl ?_
          refine lv_goto (tgt := 35) hx hb d_X_isLetter_31 (by decide) ?_
          exact hend _ _ _ (by rw [s_X_isLetter, if_neg c_3, if_neg c_9, if_neg c_15, if_pos c_21]) d_X_isLetter_35
        · refine lv_iload_n hx hb d_X_isLetter_24 rfl (lv_at hl 0 rfl) ?_
          refine lv_bipush (v := (120 : Int32)) hx hb d_X_isLetter_25 rfl ?_
          refine lv_icmp_ne (tgt := 34) hx hb d_X_isLetter_27 (by decide) (fun c_27 => ?_) (fun c_27 => ?_)
          · refine lv_iconst (v := (0 : Int32)) hx hb d_X_isLetter_34 rfl ?_
            exact hend _ _ _ (by rw [s_X_isLetter, if_neg c_3, if_neg c_9, if_neg c_15, if_neg c_21, if_neg c_27]) d_X_isLetter_35
          · refine lv_iconst (v := (1 : Int32)) hx hb d_X_isLetter_30 rfl ?_
            refine lv_goto (tgt := 35) hx hb d_X_isLetter_31 (by decide) ?_
            exact hend _ _ _ (by rw [s_X_isLetter, if_neg c_3, if_neg c_9, if_neg c_15, if_neg c_21, if_pos c_27]) d_X_isLetter_35

def s_X_isFigure (a0 : Int32) : Int32 := (if a0 < (48 : Int32) then (0 : Int32) else (if (57 : Int32) < a0 then (0 : Int32) else (1 : Int32)))
theorem z_X_isFigure (a0 : Int32) : (s_X_isFigure a0) = 0 ∨ (s_X_isFigure a0) = 1 := by rw [s_X_isFigure]; exact (ite_z (Or.inl rfl) (ite_z (Or.inl rfl) (Or.inr rfl)))
set_option maxRecDepth 20000 in
theorem c_X_isFigure (l : Launch) (E : Cx) (a0 : Int32) : Met l y_X_isFigure (Cond.code y_X_isFigure b_X_isFigure 1 (some .boolean) :: TB) (rk 0 0) (va_Pc [.int a0] (preR E [])) (vp_Si (fun r => r = (s_X_isFigure a0))) 0 0 (fun _ => False) := by
  refine w_roI rfl (Nat.le_of_ble_eq_true rfl) (k_nb (z_X_isFigure a0)) ?_
  intro p e s m args below meth c Q ls hx hb hml hts hown hP hK hl hend
  have hl : lv_has ls 1 [(0, .int a0)] := hl
  have hown : s.vm.findClass R_X = some m.cls := hown
  refine lv_iload_n hx hb d_X_isFigure_0 rfl (lv_at hl 0 rfl) ?_
  refine lv_bipush (v := (48 : Int32)) hx hb d_X_isFigure_1 rfl ?_
  refine lv_icmp_lt (tgt := 16) hx hb d_X_isFigure_3 (by decide) (fun c_3 => ?_) (fun c_3 => ?_)
  · refine lv_iconst (v := (0 : Int32)) hx hb d_X_isFigure_16 rfl ?_
    exact hend _ _ _ (by rw [s_X_isFigure, if_pos c_3]) d_X_isFigure_17
  · refine lv_iload_n hx hb d_X_isFigure_6 rfl (lv_at hl 0 rfl) ?_
    refine lv_bipush (v := (57 : Int32)) hx hb d_X_isFigure_7 rfl ?_
    refine lv_icmp_gt (tgt := 16) hx hb d_X_isFigure_9 (by decide) (fun c_9 => ?_) (fun c_9 => ?_)
    · refine lv_iconst (v := (0 : Int32)) hx hb d_X_isFigure_16 rfl ?_
      exact hend _ _ _ (by rw [s_X_isFigure, if_neg c_3, if_pos c_9]) d_X_isFigure_17
    · refine lv_iconst (v := (1 : Int32)) hx hb d_X_isFigure_12 rfl ?_
      refine lv_goto (tgt := 17) hx hb d_X_isFigure_13 (by decide) ?_
      exact hend _ _ _ (by rw [s_X_isFigure, if_neg c_3, if_neg c_9]) d_X_isFigure_17
