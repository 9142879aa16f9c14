/-! constructors walked: by program (wip/p32/ctor.py) -/
set_option maxRecDepth 20000 in
theorem c_N_init (l : Launch) (E : Cx) (A : Nat → Prop) (W0 : va_W) (h : Nat) (a1 : Int32) (N : Nat) (hn : ¬ a1 < 0) (hN : a1.toNatClampNeg = N) (hB : N ≤ 1000) : Met l y_N_init (Cond.code y_N_init b_N_init 2 none :: TB) (rc 1 1 N 12) (va_Pc [.ref h, .int a1] (preC E A (W0 ++ [(h, .inr (1, [.null, .int 0]))]))) (va_Qv (fun _ : Nat → Nat => True) (TC E A (fun u => W0 ++ [(h, .inr (1, [.ref (u 0), .int (0 : Int32)])), ((u 0), .inl (E.2.1, N, .inl (fun _ => 0)))])) A) 1 N A := by
  refine w_ct rfl rfl (Nat.le_of_ble_eq_true rfl) ?_
  intro p e s m args below meth c Q ls hx hb hml hts hown hin2 hP hK hD hA hO hS hl hend
  have hl : lv_has ls 2 [(0, .ref h), (1, .int a1)] := hl
  have hown : s.vm.findClass R_N = some m.cls := hown
  refine lv_aload_n hx hb d_N_init_0 rfl (lv_at hl 0 rfl) ?_
  refine W.objInit hx hb hown (hts _ ml_N_1) (hts _ in_oi) (hts _ co_oi) rfl (by rw [hml]; exact hl.1) rfl d_N_init_1 (Nat.le_of_ble_eq_true rfl) (Nat.le_of_ble_eq_true rfl) ?_
  refine W.eq (g2 := F0 m 4 ls []) rfl ?_
  refine lv_aload_n hx hb d_N_init_4 rfl (lv_at hl 0 rfl) ?_
  refine lv_iconst (v := (0 : Int32)) hx hb d_N_init_5 rfl ?_
  refine kc_N_size (k := 0) hx hb hts hown hin2 hK hP hD hS rfl (Nat.le_of_ble_eq_true rfl) d_N_init_6 (fun H locs hP hD hS => ?_)
  have hP : va_P E.1 vwCl (W0 ++ [(h, .inr (1, [.null, .int (0 : Int32)]))]) H := hP
  have hD : va_D A (W0 ++ [(h, .inr (1, [.null, .int (0 : Int32)]))]) := hD
  refine lv_aload_n hx hb d_N_init_9 rfl (lv_at hl 0 rfl) ?_
  refine lv_iload_n hx hb d_N_init_10 rfl (lv_at hl 1 rfl) ?_
  refine lv_if_ge (tgt := 18) hx hb d_N_init_11 (by decide) (fun c_11 => ?_) (fun c_11 => absurd (Int32.not_lt.mp hn) c_11)
  refine lv_iload_n hx hb d_N_init_18 rfl (lv_at hl 1 rfl) ?_
  refine kc_newI (N := N) hx hb hts hK hP hD hS hA hn hN hB (by show 0 + 1 ≤ 1; omega) (by show 0 + N ≤ N; omega) d_N_init_19 (fun q1 H hP hD hS => ?_)
  have hP : va_P E.1 vwCl (W0 ++ [(h, .inr (1, [.null, .int (0 : Int32)])), (q1, .inl (E.2.1, N, .inl (fun _ => 0)))]) H := hP
  have hD : va_D A (W0 ++ [(h, .inr (1, [.null, .int (0 : Int32)])), (q1, .inl (E.2.1, N, .inl (fun _ => 0)))]) := hD
  refine kc_N_numbers (k := 0) hx hb hts hown hin2 hK hP hD hS rfl (Nat.le_of_ble_eq_true rfl) d_N_init_21 (fun H locs hP hD hS => ?_)
  have hP : va_P E.1 vwCl (W0 ++ [(h, .inr (1, [.ref q1, .int (0 : Int32)])), (q1, .inl (E.2.1, N, .inl (fun _ => 0)))]) H := hP
  have hD : va_D A (W0 ++ [(h, .inr (1, [.ref q1, .int (0 : Int32)])), (q1, .inl (E.2.1, N, .inl (fun _ => 0)))]) := hD
  refine W.widen (k := 1) (n := N) (by omega) (by omega) ?_
  exact hend _ _ (fun k => ([q1] : List Nat).getD k 0) _ _ hP hD hS d_N_init_24
set_option maxRecDepth 20000 in
theorem c_O_init (l : Launch) (E : Cx) (A : Nat → Prop) (W0 : va_W) (h : Nat) : Met l y_O_init (Cond.code y_O_init b_O_init 1 none :: TB) (rc 1 1 20 12) (va_Pc [.ref h] (preC E A (W0 ++ [(h, .inr (2, [.null, .int 0]))]))) (va_Qv (fun _ : Nat → Nat => True) (TC E A (fun u => W0 ++ [(h, .inr (2, [.ref (u 0), .int (-1 : Int32)])), ((u 0), .inl (E.2.2.1, 20, .inr (.inl (fun _ => 0))))])) A) 1 20 A := by
  refine w_ct rfl rfl (Nat.le_of_ble_eq_true rfl) ?_
  intro p e s m args below meth c Q ls hx hb hml hts hown hin2 hP hK hD hA hO hS hl hend
  have hl : lv_has ls 1 [(0, .ref h)] := hl
  have hown : s.vm.findClass R_O = some m.cls := hown
  refine lv_aload_n hx hb d_O_init_0 rfl (lv_at hl 0 rfl) ?_
  refine W.objInit hx hb hown (hts _ ml_O_3) (hts _ in_oi) (hts _ co_oi) rfl (by rw [hml]; exact hl.1) rfl d_O_init_1 (Nat.le_of_ble_eq_true rfl) (Nat.le_of_ble_eq_true rfl) ?_
  refine W.eq (g2 := F0 m 4 ls []) rfl ?_
  refine lv_aload_n hx hb d_O_init_4 rfl (lv_at hl 0 rfl) ?_
  refine lv_bipush (v := (20 : Int32)) hx hb d_O_init_5 rfl ?_
  refine kc_newJ (N := 20) hx hb hts hK hP hD hS hA (by decide) rfl (by decide) (Nat.le_of_ble_eq_true rfl) (Nat.le_of_ble_eq_true rfl) d_O_init_7 (fun q1 H hP hD hS => ?_)
  have hP : va_P E.1 vwCl (W0 ++ [(h, .inr (2, [.null, .int 0])), (q1, .inl (E.2.2.1, 20, .inr (.inl (fun _ => 0))))]) H := hP
  have hD : va_D A (W0 ++ [(h, .inr (2, [.null, .int 0])), (q1, .inl (E.2.2.1, 20, .inr (.inl (fun _ => 0))))]) := hD
  refine kc_O_places (k := 0) hx hb hts hown hin2 hK hP hD hS rfl (Nat.le_of_ble_eq_true rfl) d_O_init_9 (fun H locs hP hD hS => ?_)
  have hP : va_P E.1 vwCl (W0 ++ [(h, .inr (2, [.ref q1, .int 0])), (q1, .inl (E.2.2.1, 20, .inr (.inl (fun _ => 0))))]) H := hP
  have hD : va_D A (W0 ++ [(h, .inr (2, [.ref q1, .int 0])), (q1, .inl (E.2.2.1, 20, .inr (.inl (fun _ => 0))))]) := hD
  refine lv_aload_n hx hb d_O_init_12 rfl (lv_at hl 0 rfl) ?_
  refine lv_iconst (v := (-1 : Int32)) hx hb d_O_init_13 rfl ?_
  refine kc_O_size (k := 0) hx hb hts hown hin2 hK hP hD hS rfl (Nat.le_of_ble_eq_true rfl) d_O_init_14 (fun H locs hP hD hS => ?_)
  have hP : va_P E.1 vwCl (W0 ++ [(h, .inr (2, [.ref q1, .int (-1 : Int32)])), (q1, .inl (E.2.2.1, 20, .inr (.inl (fun _ => 0))))]) H := hP
  have hD : va_D A (W0 ++ [(h, .inr (2, [.ref q1, .int (-1 : Int32)])), (q1, .inl (E.2.2.1, 20, .inr (.inl (fun _ => 0))))]) := hD
  refine W.widen (k := 1) (n := 20) (by omega) (by omega) ?_
  exact hend _ _ (fun k => ([q1] : List Nat).getD k 0) _ _ hP hD hS d_O_init_17
set_option maxRecDepth 20000 in
theorem c_H_init (l : Launch) (E : Cx) (A : Nat → Prop) (W0 : va_W) (h : Nat) : Met l y_H_init (Cond.code y_H_init b_H_init 1 none :: TB) (rc 1 0 0 12) (va_Pc [.ref h] (preC E A (W0 ++ [(h, .inr (3, [.int 0, .int 0, .int 0, .int 0, .int 0, .int 0, .int 0]))]))) (va_Qv (fun _ : Nat → Nat => True) (TC E A (fun u => W0 ++ [(h, .inr (3, [.int (1 : Int32), .int (1 : Int32), .int (1 : Int32), .int (0 : Int32), .int (0 : Int32), .int (0 : Int32), .int (0 : Int32)]))])) A) 0 0 A := by
  refine w_ct rfl rfl (Nat.le_of_ble_eq_true rfl) ?_
  intro p e s m args below meth c Q ls hx hb hml hts hown hin2 hP hK hD hA hO hS hl hend
  have hl : lv_has ls 1 [(0, .ref h)] := hl
  have hown : s.vm.findClass R_H = some m.cls := hown
  refine lv_aload_n hx hb d_H_init_0 rfl (lv_at hl 0 rfl) ?_
  refine W.objInit hx hb hown (hts _ ml_H_3) (hts _ in_oi) (hts _ co_oi) rfl (by rw [hml]; exact hl.1) rfl d_H_init_1 (Nat.le_of_ble_eq_true rfl) (Nat.le_of_ble_eq_true rfl) ?_
  refine W.eq (g2 := F0 m 4 ls []) rfl ?_
  refine lv_aload_n hx hb d_H_init_4 rfl (lv_at hl 0 rfl) ?_
  refine lv_iconst (v := (1 : Int32)) hx hb d_H_init_5 rfl ?_
  refine kc_H_k (k := 0) hx hb hts hown hin2 hK hP hD hS rfl (Nat.le_of_ble_eq_true rfl) d_H_init_6 (fun H locs hP hD hS => ?_)
  have hP : va_P E.1 vwCl (W0 ++ [(h, .inr (3, [.int (1 : Int32), .int 0, .int 0, .int 0, .int 0, .int 0, .int 0]))]) H := hP
  have hD : va_D A (W0 ++ [(h, .inr (3, [.int (1 : Int32), .int 0, .int 0, .int 0, .int 0, .int 0, .int 0]))]) := hD
  refine lv_aload_n hx hb d_H_init_9 rfl (lv_at hl 0 rfl) ?_
  refine lv_iconst (v := (1 : Int32)) hx hb d_H_init_10 rfl ?_
  refine kc_H_u (k := 0) hx hb hts hown hin2 hK hP hD hS rfl (Nat.le_of_ble_eq_true rfl) d_H_init_11 (fun H locs hP hD hS => ?_)
  have hP : va_P E.1 vwCl (W0 ++ [(h, .inr (3, [.int (1 : Int32), .int (1 : Int32), .int 0, .int 0, .int 0, .int 0, .int 0]))]) H := hP
  have hD : va_D A (W0 ++ [(h, .inr (3, [.int (1 : Int32), .int (1 : Int32), .int 0, .int 0, .int 0, .int 0, .int 0]))]) := hD
  refine lv_aload_n hx hb d_H_init_14 rfl (lv_at hl 0 rfl) ?_
  refine lv_iconst (v := (1 : Int32)) hx hb d_H_init_15 rfl ?_
  refine kc_H_w (k := 0) hx hb hts hown hin2 hK hP hD hS rfl (Nat.le_of_ble_eq_true rfl) d_H_init_16 (fun H locs hP hD hS => ?_)
  have hP : va_P E.1 vwCl (W0 ++ [(h, .inr (3, [.int (1 : Int32), .int (1 : Int32), .int (1 : Int32), .int 0, .int 0, .int 0, .int 0]))]) H := hP
  have hD : va_D A (W0 ++ [(h, .inr (3, [.int (1 : Int32), .int (1 : Int32), .int (1 : Int32), .int 0, .int 0, .int 0, .int 0]))]) := hD
  refine lv_aload_n hx hb d_H_init_19 rfl (lv_at hl 0 rfl) ?_
  refine lv_iconst (v := (0 : Int32)) hx hb d_H_init_20 rfl ?_
  refine kc_H_t (k := 0) hx hb hts hown hin2 hK hP hD hS rfl (Nat.le_of_ble_eq_true rfl) d_H_init_21 (fun H locs hP hD hS => ?_)
  have hP : va_P E.1 vwCl (W0 ++ [(h, .inr (3, [.int (1 : Int32), .int (1 : Int32), .int (1 : Int32), .int (0 : Int32), .int 0, .int 0, .int 0]))]) H := hP
  have hD : va_D A (W0 ++ [(h, .inr (3, [.int (1 : Int32), .int (1 : Int32), .int (1 : Int32), .int (0 : Int32), .int 0, .int 0, .int 0]))]) := hD
  refine lv_aload_n hx hb d_H_init_24 rfl (lv_at hl 0 rfl) ?_
  refine lv_iconst (v := (0 : Int32)) hx hb d_H_init_25 rfl ?_
  refine kc_H_found (k := 0) hx hb hts hown hin2 hK hP hD hS rfl (Nat.le_of_ble_eq_true rfl) d_H_init_26 (fun H locs hP hD hS => ?_)
  have hP : va_P E.1 vwCl (W0 ++ [(h, .inr (3, [.int (1 : Int32), .int (1 : Int32), .int (1 : Int32), .int (0 : Int32), .int (0 : Int32), .int 0, .int 0]))]) H := hP
  have hD : va_D A (W0 ++ [(h, .inr (3, [.int (1 : Int32), .int (1 : Int32), .int (1 : Int32), .int (0 : Int32), .int (0 : Int32), .int 0, .int 0]))]) := hD
  refine lv_aload_n hx hb d_H_init_29 rfl (lv_at hl 0 rfl) ?_
  refine lv_iconst (v := (0 : Int32)) hx hb d_H_init_30 rfl ?_
  refine kc_H_sun (k := 0) hx hb hts hown hin2 hK hP hD hS rfl (Nat.le_of_ble_eq_true rfl) d_H_init_31 (fun H locs hP hD hS => ?_)
  have hP : va_P E.1 vwCl (W0 ++ [(h, .inr (3, [.int (1 : Int32), .int (1 : Int32), .int (1 : Int32), .int (0 : Int32), .int (0 : Int32), .int (0 : Int32), .int 0]))]) H := hP
  have hD : va_D A (W0 ++ [(h, .inr (3, [.int (1 : Int32), .int (1 : Int32), .int (1 : Int32), .int (0 : Int32), .int (0 : Int32), .int (0 : Int32), .int 0]))]) := hD
  refine lv_aload_n hx hb d_H_init_34 rfl (lv_at hl 0 rfl) ?_
  refine lv_iconst (v := (0 : Int32)) hx hb d_H_init_35 rfl ?_
  refine kc_H_planet (k := 0) hx hb hts hown hin2 hK hP hD hS rfl (Nat.le_of_ble_eq_true rfl) d_H_init_36 (fun H locs hP hD hS => ?_)
  have hP : va_P E.1 vwCl (W0 ++ [(h, .inr (3, [.int (1 : Int32), .int (1 : Int32), .int (1 : Int32), .int (0 : Int32), .int (0 : Int32), .int (0 : Int32), .int (0 : Int32)]))]) H := hP
  have hD : va_D A (W0 ++ [(h, .inr (3, [.int (1 : Int32), .int (1 : Int32), .int (1 : Int32), .int (0 : Int32), .int (0 : Int32), .int (0 : Int32), .int (0 : Int32)]))]) := hD
  refine W.widen (k := 0) (n := 0) (by omega) (by omega) ?_
  exact hend _ _ (fun k => ([] : List Nat).getD k 0) _ _ hP hD hS d_H_init_39
set_option maxRecDepth 20000 in
theorem c_B_init (l : Launch) (E : Cx) (A : Nat → Prop) (W0 : va_W) (h : Nat) : Met l y_B_init (Cond.code y_B_init b_B_init 1 none :: TB) (rc 2 8 58 33) (va_Pc [.ref h] (preC E A (W0 ++ [(h, .inr (0, [.null, .null, .null, .null, .int 0]))]))) (va_Qv (fun _ : Nat → Nat => True) (TC E A (fun u => W0 ++ [(h, .inr (0, [.ref (u 0), .ref (u 2), .ref (u 4), .ref (u 6), .int (1 : Int32)])), ((u 0), .inr (1, [.ref (u 1), .int (0 : Int32)])), ((u 1), .inl (E.2.1, 16, .inl (fun _ => 0))), ((u 2), .inr (1, [.ref (u 3), .int (0 : Int32)])), ((u 3), .inl (E.2.1, 16, .inl (fun _ => 0))), ((u 4), .inr (1, [.ref (u 5), .int (0 : Int32)])), ((u 5), .inl (E.2.1, 9, .inl (fun _ => 0))), ((u 6), .inr (1, [.ref (u 7), .int (0 : Int32)])), ((u 7), .inl (E.2.1, 9, .inl (fun _ => 0)))])) A) 8 58 A := by
  refine w_ct rfl rfl (Nat.le_of_ble_eq_true rfl) ?_
  intro p e s m args below meth c Q ls hx hb hml hts hown hin2 hP hK hD hA hO hS hl hend
  have hl : lv_has ls 1 [(0, .ref h)] := hl
  have hown : s.vm.findClass R_B = some m.cls := hown
  refine lv_aload_n hx hb d_B_init_0 rfl (lv_at hl 0 rfl) ?_
  refine W.objInit hx hb hown (hts _ ml_B_3) (hts _ in_oi) (hts _ co_oi) rfl (by rw [hml]; exact hl.1) rfl d_B_init_1 (Nat.le_of_ble_eq_true rfl) (Nat.le_of_ble_eq_true rfl) ?_
  refine W.eq (g2 := F0 m 4 ls []) rfl ?_
  refine lv_aload_n hx hb d_B_init_4 rfl (lv_at hl 0 rfl) ?_
  refine kc_new_B_N hx hb hts hown hK hP hD hS hA (Nat.le_of_ble_eq_true rfl) (Nat.le_of_ble_eq_true rfl) d_B_init_5 (fun q1 H hP hD hS => ?_)
  have hP : va_P E.1 vwCl (W0 ++ [(h, .inr (0, [.null, .null, .null, .null, .int 0])), (q1, .inr (1, [.null, .int 0]))]) H := hP
  have hD : va_D A (W0 ++ [(h, .inr (0, [.null, .null, .null, .null, .int 0])), (q1, .inr (1, [.null, .int 0]))]) := hD
  refine lv_dup hx hb d_B_init_8 rfl ?_
  refine lv_bipush (v := (16 : Int32)) hx hb d_B_init_9 rfl ?_
  have hP : va_P E.1 vwCl ((W0 ++ [(h, .inr (0, [.null, .null, .null, .null, .int 0]))]) ++ [(q1, .inr (1, [.null, .int 0]))]) H := by rw [List.append_assoc]; exact hP
  have hD : va_D A ((W0 ++ [(h, .inr (0, [.null, .null, .null, .null, .int 0]))]) ++ [(q1, .inr (1, [.null, .int 0]))]) := by rw [List.append_assoc]; exact hD
  refine k_ct (rest := [.ref q1, .ref h]) (c_N_init l E A (W0 ++ [(h, .inr (0, [.null, .null, .null, .null, .int 0]))]) q1 (16 : Int32) 16 (by decide) rfl (by decide)) mi_N_init ml_B_11 rfl hx hb hml hts hown hK hP hD hA hO hS hl ⟨rfl, rfl⟩ ⟨(Nat.le_of_ble_eq_true rfl), (Nat.le_of_ble_eq_true rfl)⟩ ⟨(Nat.le_of_ble_eq_true rfl), (Nat.le_of_ble_eq_true rfl)⟩ rfl (Nat.le_of_ble_eq_true rfl) rfl d_B_init_11 (fun u2 H locs hP hD hS => ?_)
  have hP : va_P E.1 vwCl (W0 ++ [(h, .inr (0, [.null, .null, .null, .null, .int 0])), (q1, .inr (1, [.ref (u2 0), .int (0 : Int32)])), ((u2 0), .inl (E.2.1, 16, .inl (fun _ => 0)))]) H := by rw [List.append_assoc] at hP; exact hP
  have hD : va_D A (W0 ++ [(h, .inr (0, [.null, .null, .null, .null, .int 0])), (q1, .inr (1, [.ref (u2 0), .int (0 : Int32)])), ((u2 0), .inl (E.2.1, 16, .inl (fun _ => 0)))]) := by rw [List.append_assoc] at hD; exact hD
  refine kc_B_teeth (k := 0) hx hb hts hown hin2 hK hP hD hS rfl (Nat.le_of_ble_eq_true rfl) d_B_init_14 (fun H locs hP hD hS => ?_)
  have hP : va_P E.1 vwCl (W0 ++ [(h, .inr (0, [.ref q1, .null, .null, .null, .int 0])), (q1, .inr (1, [.ref (u2 0), .int (0 : Int32)])), ((u2 0), .inl (E.2.1, 16, .inl (fun _ => 0)))]) H := hP
  have hD : va_D A (W0 ++ [(h, .inr (0, [.ref q1, .null, .null, .null, .int 0])), (q1, .inr (1, [.ref (u2 0), .int (0 : Int32)])), ((u2 0), .inl (E.2.1, 16, .inl (fun _ => 0)))]) := hD
  refine lv_aload_n hx hb d_B_init_17 rfl (lv_at hl 0 rfl) ?_
  refine kc_new_B_N hx hb hts hown hK hP hD hS hA (Nat.le_of_ble_eq_true rfl) (Nat.le_of_ble_eq_true rfl) d_B_init_18 (fun q3 H hP hD hS => ?_)
  have hP : va_P E.1 vwCl (W0 ++ [(h, .inr (0, [.ref q1, .null, .null, .null, .int 0])), (q1, .inr (1, [.ref (u2 0), .int (0 : Int32)])), ((u2 0), .inl (E.2.1, 16, .inl (fun _ => 0))), (q3, .inr (1, [.null, .int 0]))]) H := hP
  have hD : va_D A (W0 ++ [(h, .inr (0, [.ref q1, .null, .null, .null, .int 0])), (q1, .inr (1, [.ref (u2 0), .int (0 : Int32)])), ((u2 0), .inl (E.2.1, 16, .inl (fun _ => 0))), (q3, .inr (1, [.null, .int 0]))]) := hD
  refine lv_dup hx hb d_B_init_21 rfl ?_
  refine lv_bipush (v := (16 : Int32)) hx hb d_B_init_22 rfl ?_
  have hP : va_P E.1 vwCl ((W0 ++ [(h, .inr (0, [.ref q1, .null, .null, .null, .int 0])), (q1, .inr (1, [.ref (u2 0), .int (0 : Int32)])), ((u2 0), .inl (E.2.1, 16, .inl (fun _ => 0)))]) ++ [(q3, .inr (1, [.null, .int 0]))]) H := by rw [List.append_assoc]; exact hP
  have hD : va_D A ((W0 ++ [(h, .inr (0, [.ref q1, .null, .null, .null, .int 0])), (q1, .inr (1, [.ref (u2 0), .int (0 : Int32)])), ((u2 0), .inl (E.2.1, 16, .inl (fun _ => 0)))]) ++ [(q3, .inr (1, [.null, .int 0]))]) := by rw [List.append_assoc]; exact hD
  refine k_ct (rest := [.ref q3, .ref h]) (c_N_init l E A (W0 ++ [(h, .inr (0, [.ref q1, .null, .null, .null, .int 0])), (q1, .inr (1, [.ref (u2 0), .int (0 : Int32)])), ((u2 0), .inl (E.2.1, 16, .inl (fun _ => 0)))]) q3 (16 : Int32) 16 (by decide) rfl (by decide)) mi_N_init ml_B_11 rfl hx hb hml hts hown hK hP hD hA hO hS hl ⟨rfl, rfl⟩ ⟨(Nat.le_of_ble_eq_true rfl), (Nat.le_of_ble_eq_true rfl)⟩ ⟨(Nat.le_of_ble_eq_true rfl), (Nat.le_of_ble_eq_true rfl)⟩ rfl (Nat.le_of_ble_eq_true rfl) rfl d_B_init_24 (fun u4 H locs hP hD hS => ?_)
  have hP : va_P E.1 vwCl (W0 ++ [(h, .inr (0, [.ref q1, .null, .null, .null, .int 0])), (q1, .inr (1, [.ref (u2 0), .int (0 : Int32)])), ((u2 0), .inl (E.2.1, 16, .inl (fun _ => 0))), (q3, .inr (1, [.ref (u4 0), .int (0 : Int32)])), ((u4 0), .inl (E.2.1, 16, .inl (fun _ => 0)))]) H := by rw [List.append_assoc] at hP; exact hP
  have hD : va_D A (W0 ++ [(h, .inr (0, [.ref q1, .null, .null, .null, .int 0])), (q1, .inr (1, [.ref (u2 0), .int (0 : Int32)])), ((u2 0), .inl (E.2.1, 16, .inl (fun _ => 0))), (q3, .inr (1, [.ref (u4 0), .int (0 : Int32)])), ((u4 0), .inl (E.2.1, 16, .inl (fun _ => 0)))]) := by rw [List.append_assoc] at hD; exact hD
  refine kc_B_shifts (k := 0) hx hb hts hown hin2 hK hP hD hS rfl (Nat.le_of_ble_eq_true rfl) d_B_init_27 (fun H locs hP hD hS => ?_)
  have hP : va_P E.1 vwCl (W0 ++ [(h, .inr (0, [.ref q1, .ref q3, .null, .null, .int 0])), (q1, .inr (1, [.ref (u2 0), .int (0 : Int32)])), ((u2 0), .inl (E.2.1, 16, .inl (fun _ => 0))), (q3, .inr (1, [.ref (u4 0), .int (0 : Int32)])), ((u4 0), .inl (E.2.1, 16, .inl (fun _ => 0)))]) H := hP
  have hD : va_D A (W0 ++ [(h, .inr (0, [.ref q1, .ref q3, .null, .null, .int 0])), (q1, .inr (1, [.ref (u2 0), .int (0 : Int32)])), ((u2 0), .inl (E.2.1, 16, .inl (fun _ => 0))), (q3, .inr (1, [.ref (u4 0), .int (0 : Int32)])), ((u4 0), .inl (E.2.1, 16, .inl (fun _ => 0)))]) := hD
  refine lv_aload_n hx hb d_B_init_30 rfl (lv_at hl 0 rfl) ?_
  refine kc_new_B_N hx hb hts hown hK hP hD hS hA (Nat.le_of_ble_eq_true rfl) (Nat.le_of_ble_eq_true rfl) d_B_init_31 (fun q5 H hP hD hS => ?_)
  have hP : va_P E.1 vwCl (W0 ++ [(h, .inr (0, [.ref q1, .ref q3, .null, .null, .int 0])), (q1, .inr (1, [.ref (u2 0), .int (0 : Int32)])), ((u2 0), .inl (E.2.1, 16, .inl (fun _ => 0))), (q3, .inr (1, [.ref (u4 0), .int (0 : Int32)])), ((u4 0), .inl (E.2.1, 16, .inl (fun _ => 0))), (q5, .inr (1, [.null, .int 0]))]) H := hP
  have hD : va_D A (W0 ++ [(h, .inr (0, [.ref q1, .ref q3, .null, .null, .int 0])), (q1, .inr (1, [.ref (u2 0), .int (0 : Int32)])), ((u2 0), .inl (E.2.1, 16, .inl (fun _ => 0))), (q3, .inr (1, [.ref (u4 0), .int (0 : Int32)])), ((u4 0), .inl (E.2.1, 16, .inl (fun _ => 0))), (q5, .inr (1, [.null, .int 0]))]) := hD
  refine lv_dup hx hb d_B_init_34 rfl ?_
  refine lv_bipush (v := (9 : Int32)) hx hb d_B_init_35 rfl ?_
  have hP : va_P E.1 vwCl ((W0 ++ [(h, .inr (0, [.ref q1, .ref q3, .null, .null, .int 0])), (q1, .inr (1, [.ref (u2 0), .int (0 : Int32)])), ((u2 0), .inl (E.2.1, 16, .inl (fun _ => 0))), (q3, .inr (1, [.ref (u4 0), .int (0 : Int32)])), ((u4 0), .inl (E.2.1, 16, .inl (fun _ => 0)))]) ++ [(q5, .inr (1, [.null, .int 0]))]) H := by rw [List.append_assoc]; exact hP
  have hD : va_D A ((W0 ++ [(h, .inr (0, [.ref q1, .ref q3, .null, .null, .int 0])), (q1, .inr (1, [.ref (u2 0), .int (0 : Int32)])), ((u2 0), .inl (E.2.1, 16, .inl (fun _ => 0))), (q3, .inr (1, [.ref (u4 0), .int (0 : Int32)])), ((u4 0), .inl (E.2.1, 16, .inl (fun _ => 0)))]) ++ [(q5, .inr (1, [.null, .int 0]))]) := by rw [List.append_assoc]; exact hD
  refine k_ct (rest := [.ref q5, .ref h]) (c_N_init l E A (W0 ++ [(h, .inr (0, [.ref q1, .ref q3, .null, .null, .int 0])), (q1, .inr (1, [.ref (u2 0), .int (0 : Int32)])), ((u2 0), .inl (E.2.1, 16, .inl (fun _ => 0))), (q3, .inr (1, [.ref (u4 0), .int (0 : Int32)])), ((u4 0), .inl (E.2.1, 16, .inl (fun _ => 0)))]) q5 (9 : Int32) 9 (by decide) rfl (by decide)) mi_N_init ml_B_11 rfl hx hb hml hts hown hK hP hD hA hO hS hl ⟨rfl, rfl⟩ ⟨(Nat.le_of_ble_eq_true rfl), (Nat.le_of_ble_eq_true rfl)⟩ ⟨(Nat.le_of_ble_eq_true rfl), (Nat.le_of_ble_eq_true rfl)⟩ rfl (Nat.le_of_ble_eq_true rfl) rfl d_B_init_37 (fun u6 H locs hP hD hS => ?_)
  have hP : va_P E.1 vwCl (W0 ++ [(h, .inr (0, [.ref q1, .ref q3, .null, .null, .int 0])), (q1, .inr (1, [.ref (u2 0), .int (0 : Int32)])), ((u2 0), .inl (E.2.1, 16, .inl (fun _ => 0))), (q3, .inr (1, [.ref (u4 0), .int (0 : Int32)])), ((u4 0), .inl (E.2.1, 16, .inl (fun _ => 0))), (q5, .inr (1, [.ref (u6 0), .int (0 : Int32)])), ((u6 0), .inl (E.2.1, 9, .inl (fun _ => 0)))]) H := by rw [List.append_assoc] at hP; exact hP
  have hD : va_D A (W0 ++ [(h, .inr (0, [.ref q1, .ref q3, .null, .null, .int 0])), (q1, .inr (1, [.ref (u2 0), .int (0 : Int32)])), ((u2 0), .inl (E.2.1, 16, .inl (fun _ => 0))), (q3, .inr (1, [.ref (u4 0), .int (0 : Int32)])), ((u4 0), .inl (E.2.1, 16, .inl (fun _ => 0))), (q5, .inr (1, [.ref (u6 0), .int (0 : Int32)])), ((u6 0), .inl (E.2.1, 9, .inl (fun _ => 0)))]) := by rw [List.append_assoc] at hD; exact hD
  refine kc_B_drivers (k := 0) hx hb hts hown hin2 hK hP hD hS rfl (Nat.le_of_ble_eq_true rfl) d_B_init_40 (fun H locs hP hD hS => ?_)
  have hP : va_P E.1 vwCl (W0 ++ [(h, .inr (0, [.ref q1, .ref q3, .ref q5, .null, .int 0])), (q1, .inr (1, [.ref (u2 0), .int (0 : Int32)])), ((u2 0), .inl (E.2.1, 16, .inl (fun _ => 0))), (q3, .inr (1, [.ref (u4 0), .int (0 : Int32)])), ((u4 0), .inl (E.2.1, 16, .inl (fun _ => 0))), (q5, .inr (1, [.ref (u6 0), .int (0 : Int32)])), ((u6 0), .inl (E.2.1, 9, .inl (fun _ => 0)))]) H := hP
  have hD : va_D A (W0 ++ [(h, .inr (0, [.ref q1, .ref q3, .ref q5, .null, .int 0])), (q1, .inr (1, [.ref (u2 0), .int (0 : Int32)])), ((u2 0), .inl (E.2.1, 16, .inl (fun _ => 0))), (q3, .inr (1, [.ref (u4 0), .int (0 : Int32)])), ((u4 0), .inl (E.2.1, 16, .inl (fun _ => 0))), (q5, .inr (1, [.ref (u6 0), .int (0 : Int32)])), ((u6 0), .inl (E.2.1, 9, .inl (fun _ => 0)))]) := hD
  refine lv_aload_n hx hb d_B_init_43 rfl (lv_at hl 0 rfl) ?_
  refine kc_new_B_N hx hb hts hown hK hP hD hS hA (Nat.le_of_ble_eq_true rfl) (Nat.le_of_ble_eq_true rfl) d_B_init_44 (fun q7 H hP hD hS => ?_)
  have hP : va_P E.1 vwCl (W0 ++ [(h, .inr (0, [.ref q1, .ref q3, .ref q5, .null, .int 0])), (q1, .inr (1, [.ref (u2 0), .int (0 : Int32)])), ((u2 0), .inl (E.2.1, 16, .inl (fun _ => 0))), (q3, .inr (1, [.ref (u4 0), .int (0 : Int32)])), ((u4 0), .inl (E.2.1, 16, .inl (fun _ => 0))), (q5, .inr (1, [.ref (u6 0), .int (0 : Int32)])), ((u6 0), .inl (E.2.1, 9, .inl (fun _ => 0))), (q7, .inr (1, [.null, .int 0]))]) H := hP
  have hD : va_D A (W0 ++ [(h, .inr (0, [.ref q1, .ref q3, .ref q5, .null, .int 0])), (q1, .inr (1, [.ref (u2 0), .int (0 : Int32)])), ((u2 0), .inl (E.2.1, 16, .inl (fun _ => 0))), (q3, .inr (1, [.ref (u4 0), .int (0 : Int32)])), ((u4 0), .inl (E.2.1, 16, .inl (fun _ => 0))), (q5, .inr (1, [.ref (u6 0), .int (0 : Int32)])), ((u6 0), .inl (E.2.1, 9, .inl (fun _ => 0))), (q7, .inr (1, [.null, .int 0]))]) := hD
  refine lv_dup hx hb d_B_init_47 rfl ?_
  refine lv_bipush (v := (9 : Int32)) hx hb d_B_init_48 rfl ?_
  have hP : va_P E.1 vwCl ((W0 ++ [(h, .inr (0, [.ref q1, .ref q3, .ref q5, .null, .int 0])), (q1, .inr (1, [.ref (u2 0), .int (0 : Int32)])), ((u2 0), .inl (E.2.1, 16, .inl (fun _ => 0))), (q3, .inr (1, [.ref (u4 0), .int (0 : Int32)])), ((u4 0), .inl (E.2.1, 16, .inl (fun _ => 0))), (q5, .inr (1, [.ref (u6 0), .int (0 : Int32)])), ((u6 0), .inl (E.2.1, 9, .inl (fun _ => 0)))]) ++ [(q7, .inr (1, [.null, .int 0]))]) H := by rw [List.append_assoc]; exact hP
  have hD : va_D A ((W0 ++ [(h, .inr (0, [.ref q1, .ref q3, .ref q5, .null, .int 0])), (q1, .inr (1, [.ref (u2 0), .int (0 : Int32)])), ((u2 0), .inl (E.2.1, 16, .inl (fun _ => 0))), (q3, .inr (1, [.ref (u4 0), .int (0 : Int32)])), ((u4 0), .inl (E.2.1, 16, .inl (fun _ => 0))), (q5, .inr (1, [.ref (u6 0), .int (0 : Int32)])), ((u6 0), .inl (E.2.1, 9, .inl (fun _ => 0)))]) ++ [(q7, .inr (1, [.null, .int 0]))]) := by rw [List.append_assoc]; exact hD
  refine k_ct (rest := [.ref q7, .ref h]) (c_N_init l E A (W0 ++ [(h, .inr (0, [.ref q1, .ref q3, .ref q5, .null, .int 0])), (q1, .inr (1, [.ref (u2 0), .int (0 : Int32)])), ((u2 0), .inl (E.2.1, 16, .inl (fun _ => 0))), (q3, .inr (1, [.ref (u4 0), .int (0 : Int32)])), ((u4 0), .inl (E.2.1, 16, .inl (fun _ => 0))), (q5, .inr (1, [.ref (u6 0), .int (0 : Int32)])), ((u6 0), .inl (E.2.1, 9, .inl (fun _ => 0)))]) q7 (9 : Int32) 9 (by decide) rfl (by decide)) mi_N_init ml_B_11 rfl hx hb hml hts hown hK hP hD hA hO hS hl ⟨rfl, rfl⟩ ⟨(Nat.le_of_ble_eq_true rfl), (Nat.le_of_ble_eq_true rfl)⟩ ⟨(Nat.le_of_ble_eq_true rfl), (Nat.le_of_ble_eq_true rfl)⟩ rfl (Nat.le_of_ble_eq_true rfl) rfl d_B_init_50 (fun u8 H locs hP hD hS => ?_)
  have hP : va_P E.1 vwCl (W0 ++ [(h, .inr (0, [.ref q1, .ref q3, .ref q5, .null, .int 0])), (q1, .inr (1, [.ref (u2 0), .int (0 : Int32)])), ((u2 0), .inl (E.2.1, 16, .inl (fun _ => 0))), (q3, .inr (1, [.ref (u4 0), .int (0 : Int32)])), ((u4 0), .inl (E.2.1, 16, .inl (fun _ => 0))), (q5, .inr (1, [.ref (u6 0), .int (0 : Int32)])), ((u6 0), .inl (E.2.1, 9, .inl (fun _ => 0))), (q7, .inr (1, [.ref (u8 0), .int (0 : Int32)])), ((u8 0), .inl (E.2.1, 9, .inl (fun _ => 0)))]) H := by rw [List.append_assoc] at hP; exact hP
  have hD : va_D A (W0 ++ [(h, .inr (0, [.ref q1, .ref q3, .ref q5, .null, .int 0])), (q1, .inr (1, [.ref (u2 0), .int (0 : Int32)])), ((u2 0), .inl (E.2.1, 16, .inl (fun _ => 0))), (q3, .inr (1, [.ref (u4 0), .int (0 : Int32)])), ((u4 0), .inl (E.2.1, 16, .inl (fun _ => 0))), (q5, .inr (1, [.ref (u6 0), .int (0 : Int32)])), ((u6 0), .inl (E.2.1, 9, .inl (fun _ => 0))), (q7, .inr (1, [.ref (u8 0), .int (0 : Int32)])), ((u8 0), .inl (E.2.1, 9, .inl (fun _ => 0)))]) := by rw [List.append_assoc] at hD; exact hD
  refine kc_B_driven (k := 0) hx hb hts hown hin2 hK hP hD hS rfl (Nat.le_of_ble_eq_true rfl) d_B_init_53 (fun H locs hP hD hS => ?_)
  have hP : va_P E.1 vwCl (W0 ++ [(h, .inr (0, [.ref q1, .ref q3, .ref q5, .ref q7, .int 0])), (q1, .inr (1, [.ref (u2 0), .int (0 : Int32)])), ((u2 0), .inl (E.2.1, 16, .inl (fun _ => 0))), (q3, .inr (1, [.ref (u4 0), .int (0 : Int32)])), ((u4 0), .inl (E.2.1, 16, .inl (fun _ => 0))), (q5, .inr (1, [.ref (u6 0), .int (0 : Int32)])), ((u6 0), .inl (E.2.1, 9, .inl (fun _ => 0))), (q7, .inr (1, [.ref (u8 0), .int (0 : Int32)])), ((u8 0), .inl (E.2.1, 9, .inl (fun _ => 0)))]) H := hP
  have hD : va_D A (W0 ++ [(h, .inr (0, [.ref q1, .ref q3, .ref q5, .ref q7, .int 0])), (q1, .inr (1, [.ref (u2 0), .int (0 : Int32)])), ((u2 0), .inl (E.2.1, 16, .inl (fun _ => 0))), (q3, .inr (1, [.ref (u4 0), .int (0 : Int32)])), ((u4 0), .inl (E.2.1, 16, .inl (fun _ => 0))), (q5, .inr (1, [.ref (u6 0), .int (0 : Int32)])), ((u6 0), .inl (E.2.1, 9, .inl (fun _ => 0))), (q7, .inr (1, [.ref (u8 0), .int (0 : Int32)])), ((u8 0), .inl (E.2.1, 9, .inl (fun _ => 0)))]) := hD
  refine lv_aload_n hx hb d_B_init_56 rfl (lv_at hl 0 rfl) ?_
  refine lv_iconst (v := (1 : Int32)) hx hb d_B_init_57 rfl ?_
  refine kc_B_pressure (k := 0) hx hb hts hown hin2 hK hP hD hS rfl (Nat.le_of_ble_eq_true rfl) d_B_init_58 (fun H locs hP hD hS => ?_)
  have hP : va_P E.1 vwCl (W0 ++ [(h, .inr (0, [.ref q1, .ref q3, .ref q5, .ref q7, .int (1 : Int32)])), (q1, .inr (1, [.ref (u2 0), .int (0 : Int32)])), ((u2 0), .inl (E.2.1, 16, .inl (fun _ => 0))), (q3, .inr (1, [.ref (u4 0), .int (0 : Int32)])), ((u4 0), .inl (E.2.1, 16, .inl (fun _ => 0))), (q5, .inr (1, [.ref (u6 0), .int (0 : Int32)])), ((u6 0), .inl (E.2.1, 9, .inl (fun _ => 0))), (q7, .inr (1, [.ref (u8 0), .int (0 : Int32)])), ((u8 0), .inl (E.2.1, 9, .inl (fun _ => 0)))]) H := hP
  have hD : va_D A (W0 ++ [(h, .inr (0, [.ref q1, .ref q3, .ref q5, .ref q7, .int (1 : Int32)])), (q1, .inr (1, [.ref (u2 0), .int (0 : Int32)])), ((u2 0), .inl (E.2.1, 16, .inl (fun _ => 0))), (q3, .inr (1, [.ref (u4 0), .int (0 : Int32)])), ((u4 0), .inl (E.2.1, 16, .inl (fun _ => 0))), (q5, .inr (1, [.ref (u6 0), .int (0 : Int32)])), ((u6 0), .inl (E.2.1, 9, .inl (fun _ => 0))), (q7, .inr (1, [.ref (u8 0), .int (0 : Int32)])), ((u8 0), .inl (E.2.1, 9, .inl (fun _ => 0)))]) := hD
  refine W.widen (k := 8) (n := 58) (by omega) (by omega) ?_
  exact hend _ _ (fun k => ([q1, (u2 0), q3, (u4 0), q5, (u6 0), q7, (u8 0)] : List Nat).getD k 0) _ _ hP hD hS d_B_init_61
set_option maxRecDepth 20000 in
theorem c_X_init (l : Launch) (E : Cx) (A : Nat → Prop) (W0 : va_W) (h : Nat) : Met l y_X_init (Cond.code y_X_init b_X_init 1 none :: TB) (rc 2 8 208 33) (va_Pc [.ref h] (preC E A (W0 ++ [(h, .inr (4, [.null, .null, .null, .null, .int 0, .int 0]))]))) (va_Qv (fun _ : Nat → Nat => True) (TC E A (fun u => W0 ++ [(h, .inr (4, [.ref (u 0), .ref (u 2), .ref (u 4), .ref (u 6), .int (0 : Int32), .int (0 : Int32)])), ((u 0), .inr (1, [.ref (u 1), .int (0 : Int32)])), ((u 1), .inl (E.2.1, 80, .inl (fun _ => 0))), ((u 2), .inr (1, [.ref (u 3), .int (0 : Int32)])), ((u 3), .inl (E.2.1, 40, .inl (fun _ => 0))), ((u 4), .inr (1, [.ref (u 5), .int (0 : Int32)])), ((u 5), .inl (E.2.1, 40, .inl (fun _ => 0))), ((u 6), .inr (1, [.ref (u 7), .int (0 : Int32)])), ((u 7), .inl (E.2.1, 40, .inl (fun _ => 0)))])) A) 8 208 A := by
  refine w_ct rfl rfl (Nat.le_of_ble_eq_true rfl) ?_
  intro p e s m args below meth c Q ls hx hb hml hts hown hin2 hP hK hD hA hO hS hl hend
  have hl : lv_has ls 1 [(0, .ref h)] := hl
  have hown : s.vm.findClass R_X = some m.cls := hown
  refine lv_aload_n hx hb d_X_init_0 rfl (lv_at hl 0 rfl) ?_
  refine W.objInit hx hb hown (hts _ ml_X_3) (hts _ in_oi) (hts _ co_oi) rfl (by rw [hml]; exact hl.1) rfl d_X_init_1 (Nat.le_of_ble_eq_true rfl) (Nat.le_of_ble_eq_true rfl) ?_
  refine W.eq (g2 := F0 m 4 ls []) rfl ?_
  refine lv_aload_n hx hb d_X_init_4 rfl (lv_at hl 0 rfl) ?_
  refine kc_new_X_N hx hb hts hown hK hP hD hS hA (Nat.le_of_ble_eq_true rfl) (Nat.le_of_ble_eq_true rfl) d_X_init_5 (fun q1 H hP hD hS => ?_)
  have hP : va_P E.1 vwCl (W0 ++ [(h, .inr (4, [.null, .null, .null, .null, .int 0, .int 0])), (q1, .inr (1, [.null, .int 0]))]) H := hP
  have hD : va_D A (W0 ++ [(h, .inr (4, [.null, .null, .null, .null, .int 0, .int 0])), (q1, .inr (1, [.null, .int 0]))]) := hD
  refine lv_dup hx hb d_X_init_8 rfl ?_
  refine lv_bipush (v := (80 : Int32)) hx hb d_X_init_9 rfl ?_
  have hP : va_P E.1 vwCl ((W0 ++ [(h, .inr (4, [.null, .null, .null, .null, .int 0, .int 0]))]) ++ [(q1, .inr (1, [.null, .int 0]))]) H := by rw [List.append_assoc]; exact hP
  have hD : va_D A ((W0 ++ [(h, .inr (4, [.null, .null, .null, .null, .int 0, .int 0]))]) ++ [(q1, .inr (1, [.null, .int 0]))]) := by rw [List.append_assoc]; exact hD
  refine k_ct (rest := [.ref q1, .ref h]) (c_N_init l E A (W0 ++ [(h, .inr (4, [.null, .null, .null, .null, .int 0, .int 0]))]) q1 (80 : Int32) 80 (by decide) rfl (by decide)) mi_N_init ml_X_11 rfl hx hb hml hts hown hK hP hD hA hO hS hl ⟨rfl, rfl⟩ ⟨(Nat.le_of_ble_eq_true rfl), (Nat.le_of_ble_eq_true rfl)⟩ ⟨(Nat.le_of_ble_eq_true rfl), (Nat.le_of_ble_eq_true rfl)⟩ rfl (Nat.le_of_ble_eq_true rfl) rfl d_X_init_11 (fun u2 H locs hP hD hS => ?_)
  have hP : va_P E.1 vwCl (W0 ++ [(h, .inr (4, [.null, .null, .null, .null, .int 0, .int 0])), (q1, .inr (1, [.ref (u2 0), .int (0 : Int32)])), ((u2 0), .inl (E.2.1, 80, .inl (fun _ => 0)))]) H := by rw [List.append_assoc] at hP; exact hP
  have hD : va_D A (W0 ++ [(h, .inr (4, [.null, .null, .null, .null, .int 0, .int 0])), (q1, .inr (1, [.ref (u2 0), .int (0 : Int32)])), ((u2 0), .inl (E.2.1, 80, .inl (fun _ => 0)))]) := by rw [List.append_assoc] at hD; exact hD
  refine kc_X_bytes (k := 0) hx hb hts hown hin2 hK hP hD hS rfl (Nat.le_of_ble_eq_true rfl) d_X_init_14 (fun H locs hP hD hS => ?_)
  have hP : va_P E.1 vwCl (W0 ++ [(h, .inr (4, [.ref q1, .null, .null, .null, .int 0, .int 0])), (q1, .inr (1, [.ref (u2 0), .int (0 : Int32)])), ((u2 0), .inl (E.2.1, 80, .inl (fun _ => 0)))]) H := hP
  have hD : va_D A (W0 ++ [(h, .inr (4, [.ref q1, .null, .null, .null, .int 0, .int 0])), (q1, .inr (1, [.ref (u2 0), .int (0 : Int32)])), ((u2 0), .inl (E.2.1, 80, .inl (fun _ => 0)))]) := hD
  refine lv_aload_n hx hb d_X_init_17 rfl (lv_at hl 0 rfl) ?_
  refine kc_new_X_N hx hb hts hown hK hP hD hS hA (Nat.le_of_ble_eq_true rfl) (Nat.le_of_ble_eq_true rfl) d_X_init_18 (fun q3 H hP hD hS => ?_)
  have hP : va_P E.1 vwCl (W0 ++ [(h, .inr (4, [.ref q1, .null, .null, .null, .int 0, .int 0])), (q1, .inr (1, [.ref (u2 0), .int (0 : Int32)])), ((u2 0), .inl (E.2.1, 80, .inl (fun _ => 0))), (q3, .inr (1, [.null, .int 0]))]) H := hP
  have hD : va_D A (W0 ++ [(h, .inr (4, [.ref q1, .null, .null, .null, .int 0, .int 0])), (q1, .inr (1, [.ref (u2 0), .int (0 : Int32)])), ((u2 0), .inl (E.2.1, 80, .inl (fun _ => 0))), (q3, .inr (1, [.null, .int 0]))]) := hD
  refine lv_dup hx hb d_X_init_21 rfl ?_
  refine lv_bipush (v := (40 : Int32)) hx hb d_X_init_22 rfl ?_
  have hP : va_P E.1 vwCl ((W0 ++ [(h, .inr (4, [.ref q1, .null, .null, .null, .int 0, .int 0])), (q1, .inr (1, [.ref (u2 0), .int (0 : Int32)])), ((u2 0), .inl (E.2.1, 80, .inl (fun _ => 0)))]) ++ [(q3, .inr (1, [.null, .int 0]))]) H := by rw [List.append_assoc]; exact hP
  have hD : va_D A ((W0 ++ [(h, .inr (4, [.ref q1, .null, .null, .null, .int 0, .int 0])), (q1, .inr (1, [.ref (u2 0), .int (0 : Int32)])), ((u2 0), .inl (E.2.1, 80, .inl (fun _ => 0)))]) ++ [(q3, .inr (1, [.null, .int 0]))]) := by rw [List.append_assoc]; exact hD
  refine k_ct (rest := [.ref q3, .ref h]) (c_N_init l E A (W0 ++ [(h, .inr (4, [.ref q1, .null, .null, .null, .int 0, .int 0])), (q1, .inr (1, [.ref (u2 0), .int (0 : Int32)])), ((u2 0), .inl (E.2.1, 80, .inl (fun _ => 0)))]) q3 (40 : Int32) 40 (by decide) rfl (by decide)) mi_N_init ml_X_11 rfl hx hb hml hts hown hK hP hD hA hO hS hl ⟨rfl, rfl⟩ ⟨(Nat.le_of_ble_eq_true rfl), (Nat.le_of_ble_eq_true rfl)⟩ ⟨(Nat.le_of_ble_eq_true rfl), (Nat.le_of_ble_eq_true rfl)⟩ rfl (Nat.le_of_ble_eq_true rfl) rfl d_X_init_24 (fun u4 H locs hP hD hS => ?_)
  have hP : va_P E.1 vwCl (W0 ++ [(h, .inr (4, [.ref q1, .null, .null, .null, .int 0, .int 0])), (q1, .inr (1, [.ref (u2 0), .int (0 : Int32)])), ((u2 0), .inl (E.2.1, 80, .inl (fun _ => 0))), (q3, .inr (1, [.ref (u4 0), .int (0 : Int32)])), ((u4 0), .inl (E.2.1, 40, .inl (fun _ => 0)))]) H := by rw [List.append_assoc] at hP; exact hP
  have hD : va_D A (W0 ++ [(h, .inr (4, [.ref q1, .null, .null, .null, .int 0, .int 0])), (q1, .inr (1, [.ref (u2 0), .int (0 : Int32)])), ((u2 0), .inl (E.2.1, 80, .inl (fun _ => 0))), (q3, .inr (1, [.ref (u4 0), .int (0 : Int32)])), ((u4 0), .inl (E.2.1, 40, .inl (fun _ => 0)))]) := by rw [List.append_assoc] at hD; exact hD
  refine kc_X_letters (k := 0) hx hb hts hown hin2 hK hP hD hS rfl (Nat.le_of_ble_eq_true rfl) d_X_init_27 (fun H locs hP hD hS => ?_)
  have hP : va_P E.1 vwCl (W0 ++ [(h, .inr (4, [.ref q1, .ref q3, .null, .null, .int 0, .int 0])), (q1, .inr (1, [.ref (u2 0), .int (0 : Int32)])), ((u2 0), .inl (E.2.1, 80, .inl (fun _ => 0))), (q3, .inr (1, [.ref (u4 0), .int (0 : Int32)])), ((u4 0), .inl (E.2.1, 40, .inl (fun _ => 0)))]) H := hP
  have hD : va_D A (W0 ++ [(h, .inr (4, [.ref q1, .ref q3, .null, .null, .int 0, .int 0])), (q1, .inr (1, [.ref (u2 0), .int (0 : Int32)])), ((u2 0), .inl (E.2.1, 80, .inl (fun _ => 0))), (q3, .inr (1, [.ref (u4 0), .int (0 : Int32)])), ((u4 0), .inl (E.2.1, 40, .inl (fun _ => 0)))]) := hD
  refine lv_aload_n hx hb d_X_init_30 rfl (lv_at hl 0 rfl) ?_
  refine kc_new_X_N hx hb hts hown hK hP hD hS hA (Nat.le_of_ble_eq_true rfl) (Nat.le_of_ble_eq_true rfl) d_X_init_31 (fun q5 H hP hD hS => ?_)
  have hP : va_P E.1 vwCl (W0 ++ [(h, .inr (4, [.ref q1, .ref q3, .null, .null, .int 0, .int 0])), (q1, .inr (1, [.ref (u2 0), .int (0 : Int32)])), ((u2 0), .inl (E.2.1, 80, .inl (fun _ => 0))), (q3, .inr (1, [.ref (u4 0), .int (0 : Int32)])), ((u4 0), .inl (E.2.1, 40, .inl (fun _ => 0))), (q5, .inr (1, [.null, .int 0]))]) H := hP
  have hD : va_D A (W0 ++ [(h, .inr (4, [.ref q1, .ref q3, .null, .null, .int 0, .int 0])), (q1, .inr (1, [.ref (u2 0), .int (0 : Int32)])), ((u2 0), .inl (E.2.1, 80, .inl (fun _ => 0))), (q3, .inr (1, [.ref (u4 0), .int (0 : Int32)])), ((u4 0), .inl (E.2.1, 40, .inl (fun _ => 0))), (q5, .inr (1, [.null, .int 0]))]) := hD
  refine lv_dup hx hb d_X_init_34 rfl ?_
  refine lv_bipush (v := (40 : Int32)) hx hb d_X_init_35 rfl ?_
  have hP : va_P E.1 vwCl ((W0 ++ [(h, .inr (4, [.ref q1, .ref q3, .null, .null, .int 0, .int 0])), (q1, .inr (1, [.ref (u2 0), .int (0 : Int32)])), ((u2 0), .inl (E.2.1, 80, .inl (fun _ => 0))), (q3, .inr (1, [.ref (u4 0), .int (0 : Int32)])), ((u4 0), .inl (E.2.1, 40, .inl (fun _ => 0)))]) ++ [(q5, .inr (1, [.null, .int 0]))]) H := by rw [List.append_assoc]; exact hP
  have hD : va_D A ((W0 ++ [(h, .inr (4, [.ref q1, .ref q3, .null, .null, .int 0, .int 0])), (q1, .inr (1, [.ref (u2 0), .int (0 : Int32)])), ((u2 0), .inl (E.2.1, 80, .inl (fun _ => 0))), (q3, .inr (1, [.ref (u4 0), .int (0 : Int32)])), ((u4 0), .inl (E.2.1, 40, .inl (fun _ => 0)))]) ++ [(q5, .inr (1, [.null, .int 0]))]) := by rw [List.append_assoc]; exact hD
  refine k_ct (rest := [.ref q5, .ref h]) (c_N_init l E A (W0 ++ [(h, .inr (4, [.ref q1, .ref q3, .null, .null, .int 0, .int 0])), (q1, .inr (1, [.ref (u2 0), .int (0 : Int32)])), ((u2 0), .inl (E.2.1, 80, .inl (fun _ => 0))), (q3, .inr (1, [.ref (u4 0), .int (0 : Int32)])), ((u4 0), .inl (E.2.1, 40, .inl (fun _ => 0)))]) q5 (40 : Int32) 40 (by decide) rfl (by decide)) mi_N_init ml_X_11 rfl hx hb hml hts hown hK hP hD hA hO hS hl ⟨rfl, rfl⟩ ⟨(Nat.le_of_ble_eq_true rfl), (Nat.le_of_ble_eq_true rfl)⟩ ⟨(Nat.le_of_ble_eq_true rfl), (Nat.le_of_ble_eq_true rfl)⟩ rfl (Nat.le_of_ble_eq_true rfl) rfl d_X_init_37 (fun u6 H locs hP hD hS => ?_)
  have hP : va_P E.1 vwCl (W0 ++ [(h, .inr (4, [.ref q1, .ref q3, .null, .null, .int 0, .int 0])), (q1, .inr (1, [.ref (u2 0), .int (0 : Int32)])), ((u2 0), .inl (E.2.1, 80, .inl (fun _ => 0))), (q3, .inr (1, [.ref (u4 0), .int (0 : Int32)])), ((u4 0), .inl (E.2.1, 40, .inl (fun _ => 0))), (q5, .inr (1, [.ref (u6 0), .int (0 : Int32)])), ((u6 0), .inl (E.2.1, 40, .inl (fun _ => 0)))]) H := by rw [List.append_assoc] at hP; exact hP
  have hD : va_D A (W0 ++ [(h, .inr (4, [.ref q1, .ref q3, .null, .null, .int 0, .int 0])), (q1, .inr (1, [.ref (u2 0), .int (0 : Int32)])), ((u2 0), .inl (E.2.1, 80, .inl (fun _ => 0))), (q3, .inr (1, [.ref (u4 0), .int (0 : Int32)])), ((u4 0), .inl (E.2.1, 40, .inl (fun _ => 0))), (q5, .inr (1, [.ref (u6 0), .int (0 : Int32)])), ((u6 0), .inl (E.2.1, 40, .inl (fun _ => 0)))]) := by rw [List.append_assoc] at hD; exact hD
  refine kc_X_firsts (k := 0) hx hb hts hown hin2 hK hP hD hS rfl (Nat.le_of_ble_eq_true rfl) d_X_init_40 (fun H locs hP hD hS => ?_)
  have hP : va_P E.1 vwCl (W0 ++ [(h, .inr (4, [.ref q1, .ref q3, .ref q5, .null, .int 0, .int 0])), (q1, .inr (1, [.ref (u2 0), .int (0 : Int32)])), ((u2 0), .inl (E.2.1, 80, .inl (fun _ => 0))), (q3, .inr (1, [.ref (u4 0), .int (0 : Int32)])), ((u4 0), .inl (E.2.1, 40, .inl (fun _ => 0))), (q5, .inr (1, [.ref (u6 0), .int (0 : Int32)])), ((u6 0), .inl (E.2.1, 40, .inl (fun _ => 0)))]) H := hP
  have hD : va_D A (W0 ++ [(h, .inr (4, [.ref q1, .ref q3, .ref q5, .null, .int 0, .int 0])), (q1, .inr (1, [.ref (u2 0), .int (0 : Int32)])), ((u2 0), .inl (E.2.1, 80, .inl (fun _ => 0))), (q3, .inr (1, [.ref (u4 0), .int (0 : Int32)])), ((u4 0), .inl (E.2.1, 40, .inl (fun _ => 0))), (q5, .inr (1, [.ref (u6 0), .int (0 : Int32)])), ((u6 0), .inl (E.2.1, 40, .inl (fun _ => 0)))]) := hD
  refine lv_aload_n hx hb d_X_init_43 rfl (lv_at hl 0 rfl) ?_
  refine kc_new_X_N hx hb hts hown hK hP hD hS hA (Nat.le_of_ble_eq_true rfl) (Nat.le_of_ble_eq_true rfl) d_X_init_44 (fun q7 H hP hD hS => ?_)
  have hP : va_P E.1 vwCl (W0 ++ [(h, .inr (4, [.ref q1, .ref q3, .ref q5, .null, .int 0, .int 0])), (q1, .inr (1, [.ref (u2 0), .int (0 : Int32)])), ((u2 0), .inl (E.2.1, 80, .inl (fun _ => 0))), (q3, .inr (1, [.ref (u4 0), .int (0 : Int32)])), ((u4 0), .inl (E.2.1, 40, .inl (fun _ => 0))), (q5, .inr (1, [.ref (u6 0), .int (0 : Int32)])), ((u6 0), .inl (E.2.1, 40, .inl (fun _ => 0))), (q7, .inr (1, [.null, .int 0]))]) H := hP
  have hD : va_D A (W0 ++ [(h, .inr (4, [.ref q1, .ref q3, .ref q5, .null, .int 0, .int 0])), (q1, .inr (1, [.ref (u2 0), .int (0 : Int32)])), ((u2 0), .inl (E.2.1, 80, .inl (fun _ => 0))), (q3, .inr (1, [.ref (u4 0), .int (0 : Int32)])), ((u4 0), .inl (E.2.1, 40, .inl (fun _ => 0))), (q5, .inr (1, [.ref (u6 0), .int (0 : Int32)])), ((u6 0), .inl (E.2.1, 40, .inl (fun _ => 0))), (q7, .inr (1, [.null, .int 0]))]) := hD
  refine lv_dup hx hb d_X_init_47 rfl ?_
  refine lv_bipush (v := (40 : Int32)) hx hb d_X_init_48 rfl ?_
  have hP : va_P E.1 vwCl ((W0 ++ [(h, .inr (4, [.ref q1, .ref q3, .ref q5, .null, .int 0, .int 0])), (q1, .inr (1, [.ref (u2 0), .int (0 : Int32)])), ((u2 0), .inl (E.2.1, 80, .inl (fun _ => 0))), (q3, .inr (1, [.ref (u4 0), .int (0 : Int32)])), ((u4 0), .inl (E.2.1, 40, .inl (fun _ => 0))), (q5, .inr (1, [.ref (u6 0), .int (0 : Int32)])), ((u6 0), .inl (E.2.1, 40, .inl (fun _ => 0)))]) ++ [(q7, .inr (1, [.null, .int 0]))]) H := by rw [List.append_assoc]; exact hP
  have hD : va_D A ((W0 ++ [(h, .inr (4, [.ref q1, .ref q3, .ref q5, .null, .int 0, .int 0])), (q1, .inr (1, [.ref (u2 0), .int (0 : Int32)])), ((u2 0), .inl (E.2.1, 80, .inl (fun _ => 0))), (q3, .inr (1, [.ref (u4 0), .int (0 : Int32)])), ((u4 0), .inl (E.2.1, 40, .inl (fun _ => 0))), (q5, .inr (1, [.ref (u6 0), .int (0 : Int32)])), ((u6 0), .inl (E.2.1, 40, .inl (fun _ => 0)))]) ++ [(q7, .inr (1, [.null, .int 0]))]) := by rw [List.append_assoc]; exact hD
  refine k_ct (rest := [.ref q7, .ref h]) (c_N_init l E A (W0 ++ [(h, .inr (4, [.ref q1, .ref q3, .ref q5, .null, .int 0, .int 0])), (q1, .inr (1, [.ref (u2 0), .int (0 : Int32)])), ((u2 0), .inl (E.2.1, 80, .inl (fun _ => 0))), (q3, .inr (1, [.ref (u4 0), .int (0 : Int32)])), ((u4 0), .inl (E.2.1, 40, .inl (fun _ => 0))), (q5, .inr (1, [.ref (u6 0), .int (0 : Int32)])), ((u6 0), .inl (E.2.1, 40, .inl (fun _ => 0)))]) q7 (40 : Int32) 40 (by decide) rfl (by decide)) mi_N_init ml_X_11 rfl hx hb hml hts hown hK hP hD hA hO hS hl ⟨rfl, rfl⟩ ⟨(Nat.le_of_ble_eq_true rfl), (Nat.le_of_ble_eq_true rfl)⟩ ⟨(Nat.le_of_ble_eq_true rfl), (Nat.le_of_ble_eq_true rfl)⟩ rfl (Nat.le_of_ble_eq_true rfl) rfl d_X_init_50 (fun u8 H locs hP hD hS => ?_)
  have hP : va_P E.1 vwCl (W0 ++ [(h, .inr (4, [.ref q1, .ref q3, .ref q5, .null, .int 0, .int 0])), (q1, .inr (1, [.ref (u2 0), .int (0 : Int32)])), ((u2 0), .inl (E.2.1, 80, .inl (fun _ => 0))), (q3, .inr (1, [.ref (u4 0), .int (0 : Int32)])), ((u4 0), .inl (E.2.1, 40, .inl (fun _ => 0))), (q5, .inr (1, [.ref (u6 0), .int (0 : Int32)])), ((u6 0), .inl (E.2.1, 40, .inl (fun _ => 0))), (q7, .inr (1, [.ref (u8 0), .int (0 : Int32)])), ((u8 0), .inl (E.2.1, 40, .inl (fun _ => 0)))]) H := by rw [List.append_assoc] at hP; exact hP
  have hD : va_D A (W0 ++ [(h, .inr (4, [.ref q1, .ref q3, .ref q5, .null, .int 0, .int 0])), (q1, .inr (1, [.ref (u2 0), .int (0 : Int32)])), ((u2 0), .inl (E.2.1, 80, .inl (fun _ => 0))), (q3, .inr (1, [.ref (u4 0), .int (0 : Int32)])), ((u4 0), .inl (E.2.1, 40, .inl (fun _ => 0))), (q5, .inr (1, [.ref (u6 0), .int (0 : Int32)])), ((u6 0), .inl (E.2.1, 40, .inl (fun _ => 0))), (q7, .inr (1, [.ref (u8 0), .int (0 : Int32)])), ((u8 0), .inl (E.2.1, 40, .inl (fun _ => 0)))]) := by rw [List.append_assoc] at hD; exact hD
  refine kc_X_seconds (k := 0) hx hb hts hown hin2 hK hP hD hS rfl (Nat.le_of_ble_eq_true rfl) d_X_init_53 (fun H locs hP hD hS => ?_)
  have hP : va_P E.1 vwCl (W0 ++ [(h, .inr (4, [.ref q1, .ref q3, .ref q5, .ref q7, .int 0, .int 0])), (q1, .inr (1, [.ref (u2 0), .int (0 : Int32)])), ((u2 0), .inl (E.2.1, 80, .inl (fun _ => 0))), (q3, .inr (1, [.ref (u4 0), .int (0 : Int32)])), ((u4 0), .inl (E.2.1, 40, .inl (fun _ => 0))), (q5, .inr (1, [.ref (u6 0), .int (0 : Int32)])), ((u6 0), .inl (E.2.1, 40, .inl (fun _ => 0))), (q7, .inr (1, [.ref (u8 0), .int (0 : Int32)])), ((u8 0), .inl (E.2.1, 40, .inl (fun _ => 0)))]) H := hP
  have hD : va_D A (W0 ++ [(h, .inr (4, [.ref q1, .ref q3, .ref q5, .ref q7, .int 0, .int 0])), (q1, .inr (1, [.ref (u2 0), .int (0 : Int32)])), ((u2 0), .inl (E.2.1, 80, .inl (fun _ => 0))), (q3, .inr (1, [.ref (u4 0), .int (0 : Int32)])), ((u4 0), .inl (E.2.1, 40, .inl (fun _ => 0))), (q5, .inr (1, [.ref (u6 0), .int (0 : Int32)])), ((u6 0), .inl (E.2.1, 40, .inl (fun _ => 0))), (q7, .inr (1, [.ref (u8 0), .int (0 : Int32)])), ((u8 0), .inl (E.2.1, 40, .inl (fun _ => 0)))]) := hD
  refine lv_aload_n hx hb d_X_init_56 rfl (lv_at hl 0 rfl) ?_
  refine lv_iconst (v := (0 : Int32)) hx hb d_X_init_57 rfl ?_
  refine kc_X_place (k := 0) hx hb hts hown hin2 hK hP hD hS rfl (Nat.le_of_ble_eq_true rfl) d_X_init_58 (fun H locs hP hD hS => ?_)
  have hP : va_P E.1 vwCl (W0 ++ [(h, .inr (4, [.ref q1, .ref q3, .ref q5, .ref q7, .int (0 : Int32), .int 0])), (q1, .inr (1, [.ref (u2 0), .int (0 : Int32)])), ((u2 0), .inl (E.2.1, 80, .inl (fun _ => 0))), (q3, .inr (1, [.ref (u4 0), .int (0 : Int32)])), ((u4 0), .inl (E.2.1, 40, .inl (fun _ => 0))), (q5, .inr (1, [.ref (u6 0), .int (0 : Int32)])), ((u6 0), .inl (E.2.1, 40, .inl (fun _ => 0))), (q7, .inr (1, [.ref (u8 0), .int (0 : Int32)])), ((u8 0), .inl (E.2.1, 40, .inl (fun _ => 0)))]) H := hP
  have hD : va_D A (W0 ++ [(h, .inr (4, [.ref q1, .ref q3, .ref q5, .ref q7, .int (0 : Int32), .int 0])), (q1, .inr (1, [.ref (u2 0), .int (0 : Int32)])), ((u2 0), .inl (E.2.1, 80, .inl (fun _ => 0))), (q3, .inr (1, [.ref (u4 0), .int (0 : Int32)])), ((u4 0), .inl (E.2.1, 40, .inl (fun _ => 0))), (q5, .inr (1, [.ref (u6 0), .int (0 : Int32)])), ((u6 0), .inl (E.2.1, 40, .inl (fun _ => 0))), (q7, .inr (1, [.ref (u8 0), .int (0 : Int32)])), ((u8 0), .inl (E.2.1, 40, .inl (fun _ => 0)))]) := hD
  refine lv_aload_n hx hb d_X_init_61 rfl (lv_at hl 0 rfl) ?_
  refine lv_iconst (v := (0 : Int32)) hx hb d_X_init_62 rfl ?_
  refine kc_X_number (k := 0) hx hb hts hown hin2 hK hP hD hS rfl (Nat.le_of_ble_eq_true rfl) d_X_init_63 (fun H locs hP hD hS => ?_)
  have hP : va_P E.1 vwCl (W0 ++ [(h, .inr (4, [.ref q1, .ref q3, .ref q5, .ref q7, .int (0 : Int32), .int (0 : Int32)])), (q1, .inr (1, [.ref (u2 0), .int (0 : Int32)])), ((u2 0), .inl (E.2.1, 80, .inl (fun _ => 0))), (q3, .inr (1, [.ref (u4 0), .int (0 : Int32)])), ((u4 0), .inl (E.2.1, 40, .inl (fun _ => 0))), (q5, .inr (1, [.ref (u6 0), .int (0 : Int32)])), ((u6 0), .inl (E.2.1, 40, .inl (fun _ => 0))), (q7, .inr (1, [.ref (u8 0), .int (0 : Int32)])), ((u8 0), .inl (E.2.1, 40, .inl (fun _ => 0)))]) H := hP
  have hD : va_D A (W0 ++ [(h, .inr (4, [.ref q1, .ref q3, .ref q5, .ref q7, .int (0 : Int32), .int (0 : Int32)])), (q1, .inr (1, [.ref (u2 0), .int (0 : Int32)])), ((u2 0), .inl (E.2.1, 80, .inl (fun _ => 0))), (q3, .inr (1, [.ref (u4 0), .int (0 : Int32)])), ((u4 0), .inl (E.2.1, 40, .inl (fun _ => 0))), (q5, .inr (1, [.ref (u6 0), .int (0 : Int32)])), ((u6 0), .inl (E.2.1, 40, .inl (fun _ => 0))), (q7, .inr (1, [.ref (u8 0), .int (0 : Int32)])), ((u8 0), .inl (E.2.1, 40, .inl (fun _ => 0)))]) := hD
  refine W.widen (k := 8) (n := 208) (by omega) (by omega) ?_
  exact hend _ _ (fun k => ([q1, (u2 0), q3, (u4 0), q5, (u6 0), q7, (u8 0)] : List Nat).getD k 0) _ _ hP hD hS d_X_init_66
