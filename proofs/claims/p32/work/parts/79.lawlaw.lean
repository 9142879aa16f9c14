/-! the law's walk: by program (wip/p32/lawlaw.py) -/
theorem cnt_ne {S : St} (hI : Inv S) : ¬ (s_B_size S + (1 : Int32)) = 0 := by
  have h := hI.1.1
  rw [s_B_size, s_N_size, eq32, i32_suc (by omega), z32]
  omega
def s_L_law_b380 (xs : Nat → Int32) (L : Nat) (Z : St) (x3 : Int32) (x4 : Int32) (t0 : Int32) : Int32 × St := (if t0 = 0 then ((0 : Int32), Z) else (if (s_L_isTrain Z) = 0 then ((0 : Int32), Z) else (if (s_L_areSets Z (s_L_cell xs L (1 : Int32))).1 = 0 then ((0 : Int32), (s_L_areSets Z (s_L_cell xs L (1 : Int32))).2) else (if (s_P_undo (s_P_wheel (s_P_pressure (s_P_clear (s_L_areSets Z (s_L_cell xs L (1 : Int32))).2).2 (0 : Int32)).2 (77 : Int32)).2).1 = x3 then (if (s_P_count (s_P_undo (s_P_wheel (s_P_pressure (s_P_clear (s_L_areSets Z (s_L_cell xs L (1 : Int32))).2).2 (0 : Int32)).2 (77 : Int32)).2).2 (1 : Int32)) = x4 then (if (s_P_count (s_P_undo (s_P_wheel (s_P_pressure (s_P_clear (s_L_areSets Z (s_L_cell xs L (1 : Int32))).2).2 (0 : Int32)).2 (77 : Int32)).2).2 (0 : Int32)) = x3 then ((1 : Int32), (s_P_undo (s_P_wheel (s_P_pressure (s_P_clear (s_L_areSets Z (s_L_cell xs L (1 : Int32))).2).2 (0 : Int32)).2 (77 : Int32)).2).2) else ((0 : Int32), (s_P_undo (s_P_wheel (s_P_pressure (s_P_clear (s_L_areSets Z (s_L_cell xs L (1 : Int32))).2).2 (0 : Int32)).2 (77 : Int32)).2).2)) else ((0 : Int32), (s_P_undo (s_P_wheel (s_P_pressure (s_P_clear (s_L_areSets Z (s_L_cell xs L (1 : Int32))).2).2 (0 : Int32)).2 (77 : Int32)).2).2)) else ((0 : Int32), (s_P_undo (s_P_wheel (s_P_pressure (s_P_clear (s_L_areSets Z (s_L_cell xs L (1 : Int32))).2).2 (0 : Int32)).2 (77 : Int32)).2).2)))))
def s_L_law_b379 (xs : Nat → Int32) (L : Nat) (Z : St) (x3 : Int32) (x4 : Int32) : Int32 × St := (s_L_law_b380 xs L Z x3 x4 (0 : Int32))
def s_L_law_b285 (xs : Nat → Int32) (L : Nat) (k253 : St → Int32 → Int32 → Int32 → Int32 → Int32 × St) : Nat → St → Int32 → Int32 → Int32 → Int32 → Int32 → Int32 × St
  | 0, Z, _, _, _, _, _ => (0, Z)
  | n + 1, Z, x3, x4, x5, x6, x7 => (if x3 ≤ x7 then (k253 Z x3 x4 x5 (x6 + 1)) else (if (s_L_isPair Z x6 x7) = 0 then ((0 : Int32), Z) else (s_L_law_b285 xs L k253 n Z x3 x4 x5 x6 (x7 + 1))))
def s_L_law_b253 (xs : Nat → Int32) (L : Nat) : Nat → St → Int32 → Int32 → Int32 → Int32 → Int32 × St
  | 0, Z, _, _, _, _ => (0, Z)
  | n + 1, Z, x3, x4, x5, x6 => (if x3 ≤ x6 then (if x5 = ((2 : Int32) * x4) then (if (s_P_lay (s_P_row Z (0 : Int32) (20 : Int32)).2 (0 : Int32)).1 = x3 then (if (s_P_judge (s_P_lay (s_P_row Z (0 : Int32) (20 : Int32)).2 (0 : Int32)).2 (0 : Int32)) = x3 then (if x3 < ((s_P_wheels (s_P_lay (s_P_row Z (0 : Int32) (20 : Int32)).2 (0 : Int32)).2 (0 : Int32)) + (s_P_wheels (s_P_lay (s_P_row Z (0 : Int32) (20 : Int32)).2 (0 : Int32)).2 (2 : Int32))) then (s_L_law_b379 xs L (s_P_lay (s_P_row Z (0 : Int32) (20 : Int32)).2 (0 : Int32)).2 x3 x4) else (if x3 < (s_P_wheels (s_P_lay (s_P_row Z (0 : Int32) (20 : Int32)).2 (0 : Int32)).2 (3 : Int32)) then (s_L_law_b379 xs L (s_P_lay (s_P_row Z (0 : Int32) (20 : Int32)).2 (0 : Int32)).2 x3 x4) else (s_L_law_b380 xs L (s_P_lay (s_P_row Z (0 : Int32) (20 : Int32)).2 (0 : Int32)).2 x3 x4 (1 : Int32)))) else (s_L_law_b379 xs L (s_P_lay (s_P_row Z (0 : Int32) (20 : Int32)).2 (0 : Int32)).2 x3 x4)) else (s_L_law_b379 xs L (s_P_lay (s_P_row Z (0 : Int32) (20 : Int32)).2 (0 : Int32)).2 x3 x4)) else (s_L_law_b379 xs L (s_P_row Z (0 : Int32) (20 : Int32)).2 x3 x4)) else (if (s_L_isWheel Z x6) = 0 then ((0 : Int32), Z) else (s_L_law_b285 xs L (fun Z x3 x4 x5 x6 => s_L_law_b253 xs L n Z x3 x4 x5 x6) (x3.toInt.toNat + 1) Z x3 x4 (x5 + (s_P_of Z x6 (5 : Int32))) x6 (0 : Int32))))
def s_L_law_b191 (xs : Nat → Int32) (L : Nat) (k25 : St → Int32 → Int32 → Int32 × St) (Z : St) (x2 : Int32) (x3 : Int32) (t0 : Int32) (t1 : Int32) : Int32 × St := (if (t1 &&& t0) = 0 then ((0 : Int32), Z) else (if (s_P_count Z (2 : Int32)) = 0 then (if (16 : Int32) < (s_P_count Z (0 : Int32)) then ((0 : Int32), Z) else (if (s_P_count Z (1 : Int32)) ≤ (9 : Int32) then (k25 Z x2 (x3 + 1)) else ((0 : Int32), Z))) else ((0 : Int32), Z)))
def s_L_law_b186 (xs : Nat → Int32) (L : Nat) (k25 : St → Int32 → Int32 → Int32 × St) (Z : St) (x2 : Int32) (x3 : Int32) (t0 : Int32) : Int32 × St := (s_L_law_b191 xs L k25 Z x2 x3 (1 : Int32) t0)
def s_L_law_b190 (xs : Nat → Int32) (L : Nat) (k25 : St → Int32 → Int32 → Int32 × St) (Z : St) (x2 : Int32) (x3 : Int32) (t0 : Int32) : Int32 × St := (s_L_law_b191 xs L k25 Z x2 x3 (0 : Int32) t0)
def s_L_law_b161 (xs : Nat → Int32) (L : Nat) (k25 : St → Int32 → Int32 → Int32 × St) (Z : St) (x2 : Int32) (x3 : Int32) (x5 : Int32) (x6 : Int32) (x7 : Int32) (t0 : Int32) : Int32 × St := (if 0 < x7 then (s_L_law_b186 xs L k25 Z x2 x3 t0) else (if (s_P_count Z (0 : Int32)) = x5 then (if (s_P_count Z (1 : Int32)) = x6 then (s_L_law_b186 xs L k25 Z x2 x3 t0) else (s_L_law_b190 xs L k25 Z x2 x3 t0)) else (s_L_law_b190 xs L k25 Z x2 x3 t0)))
def s_L_law_b142 (xs : Nat → Int32) (L : Nat) (k25 : St → Int32 → Int32 → Int32 × St) (Z : St) (x2 : Int32) (x3 : Int32) (x5 : Int32) (x6 : Int32) (x7 : Int32) (x8 : Int32) (t0 : Int32) (t1 : Int32) : Int32 × St := (if x8 = (10 : Int32) then (s_L_law_b161 xs L k25 Z x2 x3 x5 x6 x7 (t1 &&& t0)) else (if x8 = (11 : Int32) then (s_L_law_b161 xs L k25 Z x2 x3 x5 x6 x7 (t1 &&& t0)) else (s_L_law_b186 xs L k25 Z x2 x3 (t1 &&& t0))))
def s_L_law_b137 (xs : Nat → Int32) (L : Nat) (k25 : St → Int32 → Int32 → Int32 × St) (Z : St) (x2 : Int32) (x3 : Int32) (x5 : Int32) (x6 : Int32) (x7 : Int32) (x8 : Int32) (t0 : Int32) : Int32 × St := (s_L_law_b142 xs L k25 Z x2 x3 x5 x6 x7 x8 (1 : Int32) t0)
def s_L_law_b134 (xs : Nat → Int32) (L : Nat) (k25 : St → Int32 → Int32 → Int32 × St) (Z : St) (x2 : Int32) (x3 : Int32) (x5 : Int32) (x6 : Int32) (x7 : Int32) (x8 : Int32) (t0 : Int32) (t1 : Int32) (t2 : Int32) : Int32 × St := (if t1 = t0 then (s_L_law_b137 xs L k25 Z x2 x3 x5 x6 x7 x8 t2) else (s_L_law_b142 xs L k25 Z x2 x3 x5 x6 x7 x8 (0 : Int32) t2))
def s_L_law_b99 (xs : Nat → Int32) (L : Nat) (k25 : St → Int32 → Int32 → Int32 × St) (Z : St) (x2 : Int32) (x3 : Int32) (x5 : Int32) (x6 : Int32) (x7 : Int32) (x8 : Int32) (t0 : Int32) : Int32 × St := (if x8 < (6 : Int32) then (s_L_law_b137 xs L k25 Z x2 x3 x5 x6 x7 x8 t0) else (if (8 : Int32) < x8 then (s_L_law_b137 xs L k25 Z x2 x3 x5 x6 x7 x8 t0) else (if 0 ≤ x7 then (s_L_law_b134 xs L k25 Z x2 x3 x5 x6 x7 x8 x7 (s_P_count Z (1 : Int32)) t0) else (s_L_law_b134 xs L k25 Z x2 x3 x5 x6 x7 x8 x6 (s_P_count Z (1 : Int32)) t0))))
def s_L_law_b94 (xs : Nat → Int32) (L : Nat) (k25 : St → Int32 → Int32 → Int32 × St) (Z : St) (x2 : Int32) (x3 : Int32) (x5 : Int32) (x6 : Int32) (x7 : Int32) (x8 : Int32) : Int32 × St := (s_L_law_b99 xs L k25 Z x2 x3 x5 x6 x7 x8 (1 : Int32))
def s_L_law_b91 (xs : Nat → Int32) (L : Nat) (k25 : St → Int32 → Int32 → Int32 × St) (Z : St) (x2 : Int32) (x3 : Int32) (x5 : Int32) (x6 : Int32) (x7 : Int32) (x8 : Int32) (t0 : Int32) (t1 : Int32) : Int32 × St := (if t1 = t0 then (s_L_law_b94 xs L k25 Z x2 x3 x5 x6 x7 x8) else (s_L_law_b99 xs L k25 Z x2 x3 x5 x6 x7 x8 (0 : Int32)))
def s_L_law_b25 (xs : Nat → Int32) (L : Nat) : Nat → St → Int32 → Int32 → Int32 × St
  | 0, Z, _, _ => (0, Z)
  | n + 1, Z, x2, x3 => (if x2 ≤ x3 then (s_L_law_b253 xs L ((s_P_image Z).1.toInt.toNat + 1) (s_P_image Z).2 (s_P_image Z).1 (s_P_count (s_P_image Z).2 (1 : Int32)) (0 : Int32) (0 : Int32)) else (if (2 : Int32) < ((s_L_cell xs L x3) &&& (15 : Int32)) then (s_L_law_b94 xs L (fun Z x2 x3 => s_L_law_b25 xs L n Z x2 x3) (s_L_act Z (s_L_cell xs L x3)).2 x2 x3 (s_P_count Z (0 : Int32)) (s_P_count Z (1 : Int32)) (s_L_act Z (s_L_cell xs L x3)).1 ((s_L_cell xs L x3) &&& (15 : Int32))) else (if 0 ≤ (s_L_act Z (s_L_cell xs L x3)).1 then (s_L_law_b91 xs L (fun Z x2 x3 => s_L_law_b25 xs L n Z x2 x3) (s_L_act Z (s_L_cell xs L x3)).2 x2 x3 (s_P_count Z (0 : Int32)) (s_P_count Z (1 : Int32)) (s_L_act Z (s_L_cell xs L x3)).1 ((s_L_cell xs L x3) &&& (15 : Int32)) ((s_P_count Z (0 : Int32)) + (1 : Int32)) (s_P_count (s_L_act Z (s_L_cell xs L x3)).2 (0 : Int32))) else (s_L_law_b91 xs L (fun Z x2 x3 => s_L_law_b25 xs L n Z x2 x3) (s_L_act Z (s_L_cell xs L x3)).2 x2 x3 (s_P_count Z (0 : Int32)) (s_P_count Z (1 : Int32)) (s_L_act Z (s_L_cell xs L x3)).1 ((s_L_cell xs L x3) &&& (15 : Int32)) (s_P_count Z (0 : Int32)) (s_P_count (s_L_act Z (s_L_cell xs L x3)).2 (0 : Int32))))))
def s_L_law_b22 (xs : Nat → Int32) (L : Nat) (Z : St) (t0 : Int32) : Int32 × St := (s_L_law_b25 xs L (t0.toInt.toNat + 1) Z t0 (0 : Int32))
def s_L_law (xs : Nat → Int32) (L : Nat) (S : St) : Int32 × St := (if (60 : Int32) ≤ (Int32.ofNat L) then (s_L_law_b22 xs L S (60 : Int32)) else (s_L_law_b22 xs L S (Int32.ofNat L)))
set_option maxHeartbeats 4000000 in
set_option maxRecDepth 20000 in
theorem law_run {p : Program} {l : Launch} {e : Env} {s : State} {m : MethodId} {args : Array Value} {below : List Frame} {meth : Method} {c : Code} {b L : Nat} {xs : Nat → Int32} {E : Cx} {ad : Nat → Nat} {X : va_W} {S : St} {A : Nat → Prop} {tq : Nat} {aK aV : Nat → Nat} {H : Heap} {locs : List Loc} {ls : Array Slot} {Q : State → Prop} (hL : L ≤ 260) (hI : Inv S) (hx : p.tables.exec = Jvm.exec) (hb : c.code = code) (hml : c.maxLocals = 10) (hts : ∀ w ∈ TB, w.before args s = true) (hown : s.vm.findClass R_L = some m.cls) (hX : va_X b L xs s s.heap) (hbl : b < s.heap.size) (hbA : ¬ A b) (hK : KK E s) (hP : va_P E.1 vwCl (wb E ad S ++ X) H) (hD : ∀ S' : St, va_D A (wb E ad S' ++ X)) (hS : va_S A s.heap H locs) (hTX : TX tq aK aV A s s.heap) (hl : lv_has ls 10 [(0, .ref b), (1, .ref (ad 39))]) (hend : ∀ (pc : Nat) (ls : Array Slot) (r : Int32) (u : St) (H : Heap) (locs : List Loc), (r, u) = (s_L_law xs L S) → va_P E.1 vwCl (wb E ad u ++ X) H → va_S A s.heap H locs → decode code pc = .ok (.ireturn, 1) → W p l e room_1 s m args below meth c H locs 600000 7302250 Q (F0 m pc ls [.int r])) : W p l e room_1 s m args below meth c H locs 600000 7302250 Q (F0 m 8 ls []) := by
  have b380 : ∀ (Z : St) (x3 : Int32) (x4 : Int32) (t0 : Int32) (H : Heap) (locs : List Loc), va_P E.1 vwCl (wb E ad Z ++ X) H → va_S A s.heap H locs → (BN Z) → ∀ (ls : Array Slot), lv_has ls 10 [(0, .ref b), (1, .ref (ad 39)), (3, .int x3), (4, .int x4)] → (s_L_law xs L S) = s_L_law_b380 xs L Z x3 x4 t0 → W p l e room_1 s m args below meth c H locs 600000 7302250 Q (F0 m 380 ls [.int t0]) := by
    intro Z x3 x4 t0 H locs hP hS hbz ls hl hq
    refine lv_istore (lv' := [(6, .int t0), (0, .ref b), (1, .ref (ad 39)), (3, .int x3), (4, .int x4)]) hx hb d_L_law_380 hl (by decide) rfl (fun ls hl => ?_)
    refine lv_iload hx hb d_L_law_382 (lv_at hl 0 rfl) ?_
    refine lv_if_eq (tgt := 406) hx hb d_L_law_384 (by decide) (fun c_384 => ?_) (fun c_384 => ?_)
    · refine lv_iconst (v := (0 : Int32)) hx hb d_L_law_406 rfl ?_
      exact hend _ _ _ _ _ _ (by rw [hq, s_L_law_b380, if_pos c_384]) hP hS d_L_law_407
    · refine lv_aload_n hx hb d_L_law_387 rfl (lv_at hl 2 rfl) ?_
      refine k_si (rest := []) (c_L_isTrain l E ad X Z (clo_ne hbz)) mi_L_isTrain ml_L_157 hx hb hml hts hown hK hP hl ⟨rfl, rfl⟩ ⟨(Nat.le_of_ble_eq_true rfl), (Nat.le_of_ble_eq_true rfl)⟩ ⟨Nat.le_refl _, Nat.le_refl _⟩ rfl (Nat.le_of_ble_eq_true rfl) rfl d_L_law_388 ?_
      refine lv_if_eq (tgt := 406) hx hb d_L_law_391 (by decide) (fun c_391 => ?_) (fun c_391 => ?_)
      · refine lv_iconst (v := (0 : Int32)) hx hb d_L_law_406 rfl ?_
        exact hend _ _ _ _ _ _ (by rw [hq, s_L_law_b380, if_neg c_384, if_pos c_391]) hP hS d_L_law_407
      · refine lv_aload_n hx hb d_L_law_394 rfl (lv_at hl 2 rfl) ?_
        refine lv_aload_n hx hb d_L_law_395 rfl (lv_at hl 1 rfl) ?_
        refine lv_iconst (v := (1 : Int32)) hx hb d_L_law_396 rfl ?_
        refine k_gsi (rest := [.ref (ad 39)]) (c_L_cell l b L xs (1 : Int32) hL) mi_L_cell ml_L_135 hx hb hml hts hown XB.fb (XB.at hX hbl hbA hS) hl ⟨rfl, rfl⟩ ⟨(Nat.le_of_ble_eq_true rfl), (Nat.le_of_ble_eq_true rfl)⟩ ⟨Nat.le_refl _, Nat.le_refl _⟩ rfl (Nat.le_of_ble_eq_true rfl) rfl d_L_law_397 ?_
        refine k_msi (rest := []) (c_L_areSets l E ad X Z A (s_L_cell xs L (1 : Int32))) mi_L_areSets ml_L_161 hx hb hml hts hown hK hP hD hS hl ⟨rfl, rfl⟩ ⟨(Nat.le_of_ble_eq_true rfl), (Nat.le_of_ble_eq_true rfl)⟩ ⟨Nat.le_refl _, Nat.le_refl _⟩ rfl (Nat.le_of_ble_eq_true rfl) rfl d_L_law_400 (fun H locs hP hS => ?_)
        have hP : va_P E.1 vwCl (wb E ad (s_L_areSets Z (s_L_cell xs L (1 : Int32))).2 ++ X) H := hP
        refine lv_if_ne (tgt := 408) hx hb d_L_law_403 (by decide) (fun c_403 => ?_) (fun c_403 => ?_)
        · refine lv_aload_n hx hb d_L_law_408 rfl (lv_at hl 2 rfl) ?_
          refine k_mvi (rest := []) (c_P_clear l E ad X (s_L_areSets Z (s_L_cell xs L (1 : Int32))).2 A) mi_P_clear ml_L_27 hx hb hml hts hown hK hP hD hS rvP hl ⟨rfl, rfl⟩ ⟨(Nat.le_of_ble_eq_true rfl), (Nat.le_of_ble_eq_true rfl)⟩ ⟨Nat.le_refl _, Nat.le_refl _⟩ rfl (Nat.le_of_ble_eq_true rfl) rfl d_L_law_409 (fun H locs hP hS => ?_)
          have hP : va_P E.1 vwCl (wb E ad (s_P_clear (s_L_areSets Z (s_L_cell xs L (1 : Int32))).2).2 ++ X) H := hP
          refine lv_pop hx hb d_L_law_412 rfl ?_
          refine lv_aload_n hx hb d_L_law_413 rfl (lv_at hl 2 rfl) ?_
          refine lv_iconst (v := (0 : Int32)) hx hb d_L_law_414 rfl ?_
          refine k_mvi (rest := []) (c_P_pressure l E ad X (s_P_clear (s_L_areSets Z (s_L_cell xs L (1 : Int32))).2).2 A (0 : Int32)) mi_P_pressure ml_L_21 hx hb hml hts hown hK hP hD hS rvP hl ⟨rfl, rfl⟩ ⟨(Nat.le_of_ble_eq_true rfl), (Nat.le_of_ble_eq_true rfl)⟩ ⟨Nat.le_refl _, Nat.le_refl _⟩ rfl (Nat.le_of_ble_eq_true rfl) rfl d_L_law_415 (fun H locs hP hS => ?_)
          have hP : va_P E.1 vwCl (wb E ad (s_P_pressure (s_P_clear (s_L_areSets Z (s_L_cell xs L (1 : Int32))).2).2 (0 : Int32)).2 ++ X) H := hP
          refine lv_pop hx hb d_L_law_418 rfl ?_
          refine lv_aload_n hx hb d_L_law_419 rfl (lv_at hl 2 rfl) ?_
          refine lv_bipush (v := (77 : Int32)) hx hb d_L_law_420 rfl ?_
          refine k_mvi (rest := []) (c_P_wheel l E ad X (s_P_pressure (s_P_clear (s_L_areSets Z (s_L_cell xs L (1 : Int32))).2).2 (0 : Int32)).2 A (77 : Int32)) mi_P_wheel ml_L_14 hx hb hml hts hown hK hP hD hS rvP hl ⟨rfl, rfl⟩ ⟨(Nat.le_of_ble_eq_true rfl), (Nat.le_of_ble_eq_true rfl)⟩ ⟨Nat.le_refl _, Nat.le_refl _⟩ rfl (Nat.le_of_ble_eq_true rfl) rfl d_L_law_422 (fun H locs hP hS => ?_)
          have hP : va_P E.1 vwCl (wb E ad (s_P_wheel (s_P_pressure (s_P_clear (s_L_areSets Z (s_L_cell xs L (1 : Int32))).2).2 (0 : Int32)).2 (77 : Int32)).2 ++ X) H := hP
          refine lv_pop hx hb d_L_law_425 rfl ?_
          refine lv_aload_n hx hb d_L_law_426 rfl (lv_at hl 2 rfl) ?_
          refine k_mvi (rest := []) (c_P_undo l E ad X (s_P_wheel (s_P_pressure (s_P_clear (s_L_areSets Z (s_L_cell xs L (1 : Int32))).2).2 (0 : Int32)).2 (77 : Int32)).2 A) mi_P_undo ml_L_68 hx hb hml hts hown hK hP hD hS rvP hl ⟨rfl, rfl⟩ ⟨(Nat.le_of_ble_eq_true rfl), (Nat.le_of_ble_eq_true rfl)⟩ ⟨Nat.le_refl _, Nat.le_refl _⟩ rfl (Nat.le_of_ble_eq_true rfl) rfl d_L_law_427 (fun H locs hP hS => ?_)
          have hP : va_P E.1 vwCl (wb E ad (s_P_undo (s_P_wheel (s_P_pressure (s_P_clear (s_L_areSets Z (s_L_cell xs L (1 : Int32))).2).2 (0 : Int32)).2 (77 : Int32)).2).2 ++ X) H := hP
          refine lv_iload_n hx hb d_L_law_430 rfl (lv_at hl 3 rfl) ?_
          refine lv_icmp_ne (tgt := 457) hx hb d_L_law_431 (by decide) (fun c_431 => ?_) (fun c_431 => ?_)
          · refine lv_iconst (v := (0 : Int32)) hx hb d_L_law_457 rfl ?_
            exact hend _ _ _ _ _ _ (by rw [hq, s_L_law_b380, if_neg c_384, if_neg c_391, if_neg c_403, if_neg c_431]) hP hS d_L_law_458
          · refine lv_aload_n hx hb d_L_law_434 rfl (lv_at hl 2 rfl) ?_
            refine lv_iconst (v := (1 : Int32)) hx hb d_L_law_435 rfl ?_
            refine k_vi (rest := []) (c_P_count l E ad X (s_P_undo (s_P_wheel (s_P_pressure (s_P_clear (s_L_areSets Z (s_L_cell xs L (1 : Int32))).2).2 (0 : Int32)).2 (77 : Int32)).2).2 (1 : Int32)) mi_P_count ml_L_8 hx hb hml hts hown hK hP rvP hl ⟨rfl, rfl⟩ ⟨(Nat.le_of_ble_eq_true rfl), (Nat.le_of_ble_eq_true rfl)⟩ ⟨Nat.le_refl _, Nat.le_refl _⟩ rfl (Nat.le_of_ble_eq_true rfl) rfl d_L_law_436 ?_
            refine lv_iload hx hb d_L_law_439 (lv_at hl 4 rfl) ?_
            refine lv_icmp_ne (tgt := 457) hx hb d_L_law_441 (by decide) (fun c_441 => ?_) (fun c_441 => ?_)
            · refine lv_iconst (v := (0 : Int32)) hx hb d_L_law_457 rfl ?_
              exact hend _ _ _ _ _ _ (by rw [hq, s_L_law_b380, if_neg c_384, if_neg c_391, if_neg c_403, if_pos c_431, if_neg c_441]) hP hS d_L_law_458
            · refine lv_aload_n hx hb d_L_law_444 rfl (lv_at hl 2 rfl) ?_
              refine lv_iconst (v := (0 : Int32)) hx hb d_L_law_445 rfl ?_
              refine k_vi (rest := []) (c_P_count l E ad X (s_P_undo (s_P_wheel (s_P_pressure (s_P_clear (s_L_areSets Z (s_L_cell xs L (1 : Int32))).2).2 (0 : Int32)).2 (77 : Int32)).2).2 (0 : Int32)) mi_P_count ml_L_8 hx hb hml hts hown hK hP rvP hl ⟨rfl, rfl⟩ ⟨(Nat.le_of_ble_eq_true rfl), (Nat.le_of_ble_eq_true rfl)⟩ ⟨Nat.le_refl _, Nat.le_refl _⟩ rfl (Nat.le_of_ble_eq_true rfl) rfl d_L_law_446 ?_
              refine lv_iload_n hx hb d_L_law_449 rfl (lv_at hl 3 rfl) ?_
              refine lv_icmp_ne (tgt := 457) hx hb d_L_law_450 (by decide) (fun c_450 => ?_) (fun c_450 => ?_)
              · refine lv_iconst (v := (0 : Int32)) hx hb d_L_law_457 rfl ?_
                exact hend _ _ _ _ _ _ (by rw [hq, s_L_law_b380, if_neg c_384, if_neg c_391, if_neg c_403, if_pos c_431, if_pos c_441, if_neg c_450]) hP hS d_L_law_458
              · refine lv_iconst (v := (1 : Int32)) hx hb d_L_law_453 rfl ?_
                refine lv_goto (tgt := 458) hx hb d_L_law_454 (by decide) ?_
                exact hend _ _ _ _ _ _ (by rw [hq, s_L_law_b380, if_neg c_384, if_neg c_391, if_neg c_403, if_pos c_431, if_pos c_441, if_pos c_450]) hP hS d_L_law_458
        · refine lv_iconst (v := (0 : Int32)) hx hb d_L_law_406 rfl ?_
          exact hend _ _ _ _ _ _ (by rw [hq, s_L_law_b380, if_neg c_384, if_neg c_391, if_pos c_403]) hP hS d_L_law_407
  have b379 : ∀ (Z : St) (x3 : Int32) (x4 : Int32) (H : Heap) (locs : List Loc), va_P E.1 vwCl (wb E ad Z ++ X) H → va_S A s.heap H locs → (BN Z) → ∀ (ls : Array Slot), lv_has ls 10 [(0, .ref b), (1, .ref (ad 39)), (3, .int x3), (4, .int x4)] → (s_L_law xs L S) = s_L_law_b379 xs L Z x3 x4 → W p l e room_1 s m args below meth c H locs 600000 7302250 Q (F0 m 379 ls []) := by
    intro Z x3 x4 H locs hP hS hbz ls hl hq
    refine lv_iconst (v := (0 : Int32)) hx hb d_L_law_379 rfl ?_
    exact b380 Z x3 x4 (0 : Int32) H locs hP hS (by with_reducible assumption) ls (lv_sub hl [0, 1, 2, 3] rfl) (by rw [hq, s_L_law_b379])
  have b253 : ∀ (n : Nat) (Z : St) (x3 : Int32) (x4 : Int32) (x5 : Int32) (x6 : Int32) (H : Heap) (locs : List Loc), va_P E.1 vwCl (wb E ad Z ++ X) H → va_S A s.heap H locs → (UP n x3 x6 ∧ BN Z) → ∀ (ls : Array Slot), lv_has ls 10 [(0, .ref b), (1, .ref (ad 39)), (3, .int x3), (4, .int x4), (5, .int x5), (6, .int x6)] → (s_L_law xs L S) = s_L_law_b253 xs L n Z x3 x4 x5 x6 → W p l e room_1 s m args below meth c H locs 600000 7302250 Q (F0 m 253 ls []) := by
    intro n253
    induction n253 with
    | zero => intro Z x3 x4 x5 x6 H locs hP hS hv; exact absurd hv (fun q => UP_z q.1)
    | succ n253 ih253 =>
      have b285 : ∀ (n : Nat) (Z : St) (x3 : Int32) (x4 : Int32) (x5 : Int32) (x6 : Int32) (x7 : Int32) (H : Heap) (locs : List Loc), va_P E.1 vwCl (wb E ad Z ++ X) H → va_S A s.heap H locs → (UP n x3 x7) → (UP n253 x3 (x6 + 1) ∧ BN Z) → ∀ (ls : Array Slot), lv_has ls 10 [(0, .ref b), (1, .ref (ad 39)), (3, .int x3), (4, .int x4), (5, .int x5), (6, .int x6), (7, .int x7)] → (s_L_law xs L S) = s_L_law_b285 xs L (fun Z x3 x4 x5 x6 => s_L_law_b253 xs L n253 Z x3 x4 x5 x6) n Z x3 x4 x5 x6 x7 → W p l e room_1 s m args below meth c H locs 600000 7302250 Q (F0 m 285 ls []) := by
        intro n285
        induction n285 with
        | zero => intro Z x3 x4 x5 x6 x7 H locs hP hS hv; exact absurd hv (UP_z)
        | succ n285 ih285 =>
          intro Z x3 x4 x5 x6 x7 H locs hP hS hv hob ls hl hq
          refine lv_iload hx hb d_L_law_285 (lv_at hl 6 rfl) ?_
          refine lv_iload_n hx hb d_L_law_287 rfl (lv_at hl 2 rfl) ?_
          refine lv_icmp_ge (tgt := 310) hx hb d_L_law_288 (by decide) (fun c_288 => ?_) (fun c_288 => ?_)
          · refine lv_iinc (v := (x6 + 1)) (lv' := [(6, .int (x6 + 1)), (0, .ref b), (1, .ref (ad 39)), (3, .int x3), (4, .int x4), (5, .int x5), (7, .int x7)]) hx hb d_L_law_310 hl (k := 5) rfl rfl (by decide) rfl (fun ls hl => ?_)
            refine lv_goto (tgt := 253) hx hb d_L_law_313 (by decide) ?_
            exact ih253 Z x3 x4 x5 (x6 + 1) H locs hP hS (hob) ls (lv_sub hl [1, 2, 3, 4, 5, 0] rfl) (by rw [hq, s_L_law_b285, if_pos c_288])
          · refine lv_aload_n hx hb d_L_law_291 rfl (lv_at hl 1 rfl) ?_
            refine lv_iload hx hb d_L_law_292 (lv_at hl 5 rfl) ?_
            refine lv_iload hx hb d_L_law_294 (lv_at hl 6 rfl) ?_
            refine k_si (rest := []) (c_L_isPair l E ad X Z x6 x7) mi_L_isPair ml_L_147 hx hb hml hts hown hK hP hl ⟨rfl, rfl⟩ ⟨(Nat.le_of_ble_eq_true rfl), (Nat.le_of_ble_eq_true rfl)⟩ ⟨Nat.le_refl _, Nat.le_refl _⟩ rfl (Nat.le_of_ble_eq_true rfl) rfl d_L_law_296 ?_
            refine lv_if_ne (tgt := 304) hx hb d_L_law_299 (by decide) (fun c_299 => ?_) (fun c_299 => ?_)
            · refine lv_iinc (v := (x7 + 1)) (lv' := [(7, .int (x7 + 1)), (0, .ref b), (1, .ref (ad 39)), (3, .int x3), (4, .int x4), (5, .int x5), (6, .int x6)]) hx hb d_L_law_304 hl (k := 6) rfl rfl (by decide) rfl (fun ls hl => ?_)
              refine lv_goto (tgt := 285) hx hb d_L_law_307 (by decide) ?_
              exact ih285 Z x3 x4 x5 x6 (x7 + 1) H locs hP hS (UP_up hv c_288) (hob) ls (lv_sub hl [1, 2, 3, 4, 5, 6, 0] rfl) (by rw [hq, s_L_law_b285, if_neg c_288, if_neg c_299])
            · refine lv_iconst (v := (0 : Int32)) hx hb d_L_law_302 rfl ?_
              exact hend _ _ _ _ _ _ (by rw [hq, s_L_law_b285, if_neg c_288, if_pos c_299]) hP hS d_L_law_303
      intro Z x3 x4 x5 x6 H locs hP hS hv ls hl hq
      have hbR : BN (s_P_row Z (0 : Int32) (20 : Int32)).2 := (g_row (S := Z) (a := 0) (b := 20)).1.bn hv.2
      have hbY : BN (s_P_lay (s_P_row Z (0 : Int32) (20 : Int32)).2 (0 : Int32)).2 := (g_lay (S := (s_P_row Z (0 : Int32) (20 : Int32)).2) (a := 0)).1.bn hbR
      refine lv_iload hx hb d_L_law_253 (lv_at hl 5 rfl) ?_
      refine lv_iload_n hx hb d_L_law_255 rfl (lv_at hl 2 rfl) ?_
      refine lv_icmp_ge (tgt := 316) hx hb d_L_law_256 (by decide) (fun c_256 => ?_) (fun c_256 => ?_)
      · refine lv_aload_n hx hb d_L_law_316 rfl (lv_at hl 1 rfl) ?_
        refine lv_iconst (v := (0 : Int32)) hx hb d_L_law_317 rfl ?_
        refine lv_bipush (v := (20 : Int32)) hx hb d_L_law_318 rfl ?_
        refine k_mvi (rest := []) (c_P_row l E ad X Z A (0 : Int32) (20 : Int32)) mi_P_row ml_L_55 hx hb hml hts hown hK hP hD hS rvP hl ⟨rfl, rfl⟩ ⟨(Nat.le_of_ble_eq_true rfl), (Nat.le_of_ble_eq_true rfl)⟩ ⟨Nat.le_refl _, Nat.le_refl _⟩ rfl (Nat.le_of_ble_eq_true rfl) rfl d_L_law_320 (fun H locs hP hS => ?_)
        have hP : va_P E.1 vwCl (wb E ad (s_P_row Z (0 : Int32) (20 : Int32)).2 ++ X) H := hP
        refine lv_pop hx hb d_L_law_323 rfl ?_
        refine lv_iload hx hb d_L_law_324 (lv_at hl 4 rfl) ?_
        refine lv_iconst (v := (2 : Int32)) hx hb d_L_law_326 rfl ?_
        refine lv_iload hx hb d_L_law_327 (lv_at hl 3 rfl) ?_
        refine lv_imul hx hb d_L_law_329 ?_
        refine lv_icmp_ne (tgt := 379) hx hb d_L_law_330 (by decide) (fun c_330 => ?_) (fun c_330 => ?_)
        · exact b379 (s_P_row Z (0 : Int32) (20 : Int32)).2 x3 x4 H locs hP hS (by with_reducible assumption) ls (lv_sub hl [0, 1, 2, 3] rfl) (by rw [hq, s_L_law_b253, if_pos c_256, if_neg c_330])
        · refine lv_aload_n hx hb d_L_law_333 rfl (lv_at hl 1 rfl) ?_
          refine lv_iconst (v := (0 : Int32)) hx hb d_L_law_334 rfl ?_
          refine k_mvi (rest := []) (c_P_lay l E ad X (s_P_row Z (0 : Int32) (20 : Int32)).2 A (0 : Int32)) mi_P_lay ml_L_62 hx hb hml hts hown hK hP hD hS rvP hl ⟨rfl, rfl⟩ ⟨(Nat.le_of_ble_eq_true rfl), (Nat.le_of_ble_eq_true rfl)⟩ ⟨Nat.le_refl _, Nat.le_refl _⟩ rfl (Nat.le_of_ble_eq_true rfl) rfl d_L_law_335 (fun H locs hP hS => ?_)
          have hP : va_P E.1 vwCl (wb E ad (s_P_lay (s_P_row Z (0 : Int32) (20 : Int32)).2 (0 : Int32)).2 ++ X) H := hP
          refine lv_iload_n hx hb d_L_law_338 rfl (lv_at hl 2 rfl) ?_
          refine lv_icmp_ne (tgt := 379) hx hb d_L_law_339 (by decide) (fun c_339 => ?_) (fun c_339 => ?_)
          · exact b379 (s_P_lay (s_P_row Z (0 : Int32) (20 : Int32)).2 (0 : Int32)).2 x3 x4 H locs hP hS (by with_reducible assumption) ls (lv_sub hl [0, 1, 2, 3] rfl) (by rw [hq, s_L_law_b253, if_pos c_256, if_pos c_330, if_neg c_339])
          · refine lv_aload_n hx hb d_L_law_342 rfl (lv_at hl 1 rfl) ?_
            refine lv_iconst (v := (0 : Int32)) hx hb d_L_law_343 rfl ?_
            refine k_vi (rest := []) (c_P_judge l E ad X (s_P_lay (s_P_row Z (0 : Int32) (20 : Int32)).2 (0 : Int32)).2 (0 : Int32)) mi_P_judge ml_L_151 hx hb hml hts hown hK hP rvP hl ⟨rfl, rfl⟩ ⟨(Nat.le_of_ble_eq_true rfl), (Nat.le_of_ble_eq_true rfl)⟩ ⟨Nat.le_refl _, Nat.le_refl _⟩ rfl (Nat.le_of_ble_eq_true rfl) rfl d_L_law_344 ?_
            refine lv_iload_n hx hb d_L_law_347 rfl (lv_at hl 2 rfl) ?_
            refine lv_icmp_ne (tgt := 379) hx hb d_L_law_348 (by decide) (fun c_348 => ?_) (fun c_348 => ?_)
            · exact b379 (s_P_lay (s_P_row Z (0 : Int32) (20 : Int32)).2 (0 : Int32)).2 x3 x4 H locs hP hS (by with_reducible assumption) ls (lv_sub hl [0, 1, 2, 3] rfl) (by rw [hq, s_L_law_b253, if_pos c_256, if_pos c_330, if_pos c_339, if_neg c_348])
            · refine lv_aload_n hx hb d_L_law_351 rfl (lv_at hl 1 rfl) ?_
              refine lv_iconst (v := (0 : Int32)) hx hb d_L_law_352 rfl ?_
              refine k_vi (rest := []) (c_P_wheels l E ad X (s_P_lay (s_P_row Z (0 : Int32) (20 : Int32)).2 (0 : Int32)).2 (0 : Int32)) mi_P_wheels ml_L_154 hx hb hml hts hown hK hP rvP hl ⟨rfl, rfl⟩ ⟨(Nat.le_of_ble_eq_true rfl), (Nat.le_of_ble_eq_true rfl)⟩ ⟨Nat.le_refl _, Nat.le_refl _⟩ rfl (Nat.le_of_ble_eq_true rfl) rfl d_L_law_353 ?_
              refine lv_aload_n hx hb d_L_law_356 rfl (lv_at hl 1 rfl) ?_
              refine lv_iconst (v := (2 : Int32)) hx hb d_L_law_357 rfl ?_
              refine k_vi (rest := [.int (s_P_wheels (s_P_lay (s_P_row Z (0 : Int32) (20 : Int32)).2 (0 : Int32)).2 (0 : Int32))]) (c_P_wheels l E ad X (s_P_lay (s_P_row Z (0 : Int32) (20 : Int32)).2 (0 : Int32)).2 (2 : Int32)) mi_P_wheels ml_L_154 hx hb hml hts hown hK hP rvP hl ⟨rfl, rfl⟩ ⟨(Nat.le_of_ble_eq_true rfl), (Nat.le_of_ble_eq_true rfl)⟩ ⟨Nat.le_refl _, Nat.le_refl _⟩ rfl (Nat.le_of_ble_eq_true rfl) rfl d_L_law_358 ?_
              refine lv_iadd hx hb d_L_law_361 ?_
              refine lv_iload_n hx hb d_L_law_362 rfl (lv_at hl 2 rfl) ?_
              refine lv_icmp_gt (tgt := 379) hx hb d_L_law_363 (by decide) (fun c_363 => ?_) (fun c_363 => ?_)
              · exact b379 (s_P_lay (s_P_row Z (0 : Int32) (20 : Int32)).2 (0 : Int32)).2 x3 x4 H locs hP hS (by with_reducible assumption) ls (lv_sub hl [0, 1, 2, 3] rfl) (by rw [hq, s_L_law_b253, if_pos c_256, if_pos c_330, if_pos c_339, if_pos c_348, if_pos c_363])
              · refine lv_aload_n hx hb d_L_law_366 rfl (lv_at hl 1 rfl) ?_
                refine lv_iconst (v := (3 : Int32)) hx hb d_L_law_367 rfl ?_
                refine k_vi (rest := []) (c_P_wheels l E ad X (s_P_lay (s_P_row Z (0 : Int32) (20 : Int32)).2 (0 : Int32)).2 (3 : Int32)) mi_P_wheels ml_L_154 hx hb hml hts hown hK hP rvP hl ⟨rfl, rfl⟩ ⟨(Nat.le_of_ble_eq_true rfl), (Nat.le_of_ble_eq_true rfl)⟩ ⟨Nat.le_refl _, Nat.le_refl _⟩ rfl (Nat.le_of_ble_eq_true rfl) rfl d_L_law_368 ?_
                refine lv_iload_n hx hb d_L_law_371 rfl (lv_at hl 2 rfl) ?_
                refine lv_icmp_gt (tgt := 379) hx hb d_L_law_372 (by decide) (fun c_372 => ?_) (fun c_372 => ?_)
                · exact b379 (s_P_lay (s_P_row Z (0 : Int32) (20 : Int32)).2 (0 : Int32)).2 x3 x4 H locs hP hS (by with_reducible assumption) ls (lv_sub hl [0, 1, 2, 3] rfl) (by rw [hq, s_L_law_b253, if_pos c_256, if_pos c_330, if_pos c_339, if_pos c_348, if_neg c_363, if_pos c_372])
                · refine lv_iconst (v := (1 : Int32)) hx hb d_L_law_375 rfl ?_
                  refine lv_goto (tgt := 380) hx hb d_L_law_376 (by decide) ?_
                  exact b380 (s_P_lay (s_P_row Z (0 : Int32) (20 : Int32)).2 (0 : Int32)).2 x3 x4 (1 : Int32) H locs hP hS (by with_reducible assumption) ls (lv_sub hl [0, 1, 2, 3] rfl) (by rw [hq, s_L_law_b253, if_pos c_256, if_pos c_330, if_pos c_339, if_pos c_348, if_neg c_363, if_neg c_372])
      · refine lv_iload hx hb d_L_law_259 (lv_at hl 4 rfl) ?_
        refine lv_aload_n hx hb d_L_law_261 rfl (lv_at hl 1 rfl) ?_
        refine lv_iload hx hb d_L_law_262 (lv_at hl 5 rfl) ?_
        refine lv_iconst (v := (5 : Int32)) hx hb d_L_law_264 rfl ?_
        refine k_vi (rest := [.int x5]) (c_P_of l E ad X Z x6 (5 : Int32)) mi_P_of ml_L_82 hx hb hml hts hown hK hP rvP hl ⟨rfl, rfl⟩ ⟨(Nat.le_of_ble_eq_true rfl), (Nat.le_of_ble_eq_true rfl)⟩ ⟨Nat.le_refl _, Nat.le_refl _⟩ rfl (Nat.le_of_ble_eq_true rfl) rfl d_L_law_265 ?_
        refine lv_iadd hx hb d_L_law_268 ?_
        refine lv_istore (lv' := [(5, .int (x5 + (s_P_of Z x6 (5 : Int32)))), (0, .ref b), (1, .ref (ad 39)), (3, .int x3), (4, .int x4), (6, .int x6)]) hx hb d_L_law_269 hl (by decide) rfl (fun ls hl => ?_)
        refine lv_aload_n hx hb d_L_law_271 rfl (lv_at hl 2 rfl) ?_
        refine lv_iload hx hb d_L_law_272 (lv_at hl 5 rfl) ?_
        refine k_si (rest := []) (c_L_isWheel l E ad X Z x6) mi_L_isWheel ml_L_143 hx hb hml hts hown hK hP hl ⟨rfl, rfl⟩ ⟨(Nat.le_of_ble_eq_true rfl), (Nat.le_of_ble_eq_true rfl)⟩ ⟨Nat.le_refl _, Nat.le_refl _⟩ rfl (Nat.le_of_ble_eq_true rfl) rfl d_L_law_274 ?_
        refine lv_if_ne (tgt := 282) hx hb d_L_law_277 (by decide) (fun c_277 => ?_) (fun c_277 => ?_)
        · refine lv_iconst (v := (0 : Int32)) hx hb d_L_law_282 rfl ?_
          refine lv_istore (lv' := [(7, .int (0 : Int32)), (5, .int (x5 + (s_P_of Z x6 (5 : Int32)))), (0, .ref b), (1, .ref (ad 39)), (3, .int x3), (4, .int x4), (6, .int x6)]) hx hb d_L_law_283 hl (by decide) rfl (fun ls hl => ?_)
          exact b285 (x3.toInt.toNat + 1) Z x3 x4 (x5 + (s_P_of Z x6 (5 : Int32))) x6 (0 : Int32) H locs hP hS (UP_in (by decide)) (⟨UP_up hv.1 c_256, hv.2⟩) ls (lv_sub hl [2, 3, 4, 5, 1, 6, 0] rfl) (by rw [hq, s_L_law_b253, if_neg c_256, if_neg c_277])
        · refine lv_iconst (v := (0 : Int32)) hx hb d_L_law_280 rfl ?_
          exact hend _ _ _ _ _ _ (by rw [hq, s_L_law_b253, if_neg c_256, if_pos c_277]) hP hS d_L_law_281
  have b25 : ∀ (n : Nat) (Z : St) (x2 : Int32) (x3 : Int32) (H : Heap) (locs : List Loc), va_P E.1 vwCl (wb E ad Z ++ X) H → va_S A s.heap H locs → (UP n x2 x3 ∧ Inv Z) → ∀ (ls : Array Slot), lv_has ls 10 [(0, .ref b), (1, .ref (ad 39)), (2, .int x2), (3, .int x3)] → (s_L_law xs L S) = s_L_law_b25 xs L n Z x2 x3 → W p l e room_1 s m args below meth c H locs 600000 7302250 Q (F0 m 25 ls []) := by
    intro n25
    induction n25 with
    | zero => intro Z x2 x3 H locs hP hS hv; exact absurd hv (fun q => UP_z q.1)
    | succ n25 ih25 =>
      have b191 : ∀ (Z : St) (x2 : Int32) (x3 : Int32) (t0 : Int32) (t1 : Int32) (H : Heap) (locs : List Loc), va_P E.1 vwCl (wb E ad Z ++ X) H → va_S A s.heap H locs → (UP n25 x2 (x3 + 1) ∧ Inv Z) → ∀ (ls : Array Slot), lv_has ls 10 [(0, .ref b), (1, .ref (ad 39)), (2, .int x2), (3, .int x3)] → (s_L_law xs L S) = s_L_law_b191 xs L (fun Z x2 x3 => s_L_law_b25 xs L n25 Z x2 x3) Z x2 x3 t0 t1 → W p l e room_1 s m args below meth c H locs 600000 7302250 Q (F0 m 191 ls [.int t0, .int t1]) := by
        intro Z x2 x3 t0 t1 H locs hP hS ho ls hl hq
        refine lv_iand hx hb d_L_law_191 ?_
        refine lv_istore (lv' := [(9, .int (t1 &&& t0)), (0, .ref b), (1, .ref (ad 39)), (2, .int x2), (3, .int x3)]) hx hb d_L_law_192 hl (by decide) rfl (fun ls hl => ?_)
        refine lv_iload hx hb d_L_law_194 (lv_at hl 0 rfl) ?_
        refine lv_if_eq (tgt := 227) hx hb d_L_law_196 (by decide) (fun c_196 => ?_) (fun c_196 => ?_)
        · refine lv_iconst (v := (0 : Int32)) hx hb d_L_law_227 rfl ?_
          exact hend _ _ _ _ _ _ (by rw [hq, s_L_law_b191, if_pos c_196]) hP hS d_L_law_228
        · refine lv_aload_n hx hb d_L_law_199 rfl (lv_at hl 2 rfl) ?_
          refine lv_iconst (v := (2 : Int32)) hx hb d_L_law_200 rfl ?_
          refine k_vi (rest := []) (c_P_count l E ad X Z (2 : Int32)) mi_P_count ml_L_8 hx hb hml hts hown hK hP rvP hl ⟨rfl, rfl⟩ ⟨(Nat.le_of_ble_eq_true rfl), (Nat.le_of_ble_eq_true rfl)⟩ ⟨Nat.le_refl _, Nat.le_refl _⟩ rfl (Nat.le_of_ble_eq_true rfl) rfl d_L_law_201 ?_
          refine lv_if_ne (tgt := 227) hx hb d_L_law_204 (by decide) (fun c_204 => ?_) (fun c_204 => ?_)
          · refine lv_iconst (v := (0 : Int32)) hx hb d_L_law_227 rfl ?_
            exact hend _ _ _ _ _ _ (by rw [hq, s_L_law_b191, if_neg c_196, if_neg c_204]) hP hS d_L_law_228
          · refine lv_aload_n hx hb d_L_law_207 rfl (lv_at hl 2 rfl) ?_
            refine lv_iconst (v := (0 : Int32)) hx hb d_L_law_208 rfl ?_
            refine k_vi (rest := []) (c_P_count l E ad X Z (0 : Int32)) mi_P_count ml_L_8 hx hb hml hts hown hK hP rvP hl ⟨rfl, rfl⟩ ⟨(Nat.le_of_ble_eq_true rfl), (Nat.le_of_ble_eq_true rfl)⟩ ⟨Nat.le_refl _, Nat.le_refl _⟩ rfl (Nat.le_of_ble_eq_true rfl) rfl d_L_law_209 ?_
            refine lv_bipush (v := (16 : Int32)) hx hb d_L_law_212 rfl ?_
            refine lv_icmp_gt (tgt := 227) hx hb d_L_law_214 (by decide) (fun c_214 => ?_) (fun c_214 => ?_)
            · refine lv_iconst (v := (0 : Int32)) hx hb d_L_law_227 rfl ?_
              exact hend _ _ _ _ _ _ (by rw [hq, s_L_law_b191, if_neg c_196, if_pos c_204, if_pos c_214]) hP hS d_L_law_228
            · refine lv_aload_n hx hb d_L_law_217 rfl (lv_at hl 2 rfl) ?_
              refine lv_iconst (v := (1 : Int32)) hx hb d_L_law_218 rfl ?_
              refine k_vi (rest := []) (c_P_count l E ad X Z (1 : Int32)) mi_P_count ml_L_8 hx hb hml hts hown hK hP rvP hl ⟨rfl, rfl⟩ ⟨(Nat.le_of_ble_eq_true rfl), (Nat.le_of_ble_eq_true rfl)⟩ ⟨Nat.le_refl _, Nat.le_refl _⟩ rfl (Nat.le_of_ble_eq_true rfl) rfl d_L_law_219 ?_
              refine lv_bipush (v := (9 : Int32)) hx hb d_L_law_222 rfl ?_
              refine lv_icmp_le (tgt := 229) hx hb d_L_law_224 (by decide) (fun c_224 => ?_) (fun c_224 => ?_)
              · refine lv_iinc (v := (x3 + 1)) (lv' := [(3, .int (x3 + 1)), (9, .int (t1 &&& t0)), (0, .ref b), (1, .ref (ad 39)), (2, .int x2)]) hx hb d_L_law_229 hl (k := 4) rfl rfl (by decide) rfl (fun ls hl => ?_)
                refine lv_goto (tgt := 25) hx hb d_L_law_232 (by decide) ?_
                exact ih25 Z x2 (x3 + 1) H locs hP hS (ho) ls (lv_sub hl [2, 3, 4, 0] rfl) (by rw [hq, s_L_law_b191, if_neg c_196, if_pos c_204, if_neg c_214, if_pos c_224])
              · refine lv_iconst (v := (0 : Int32)) hx hb d_L_law_227 rfl ?_
                exact hend _ _ _ _ _ _ (by rw [hq, s_L_law_b191, if_neg c_196, if_pos c_204, if_neg c_214, if_neg c_224]) hP hS d_L_law_228
      have b186 : ∀ (Z : St) (x2 : Int32) (x3 : Int32) (t0 : Int32) (H : Heap) (locs : List Loc), va_P E.1 vwCl (wb E ad Z ++ X) H → va_S A s.heap H locs → (UP n25 x2 (x3 + 1) ∧ Inv Z) → ∀ (ls : Array Slot), lv_has ls 10 [(0, .ref b), (1, .ref (ad 39)), (2, .int x2), (3, .int x3)] → (s_L_law xs L S) = s_L_law_b186 xs L (fun Z x2 x3 => s_L_law_b25 xs L n25 Z x2 x3) Z x2 x3 t0 → W p l e room_1 s m args below meth c H locs 600000 7302250 Q (F0 m 186 ls [.int t0]) := by
        intro Z x2 x3 t0 H locs hP hS ho ls hl hq
        refine lv_iconst (v := (1 : Int32)) hx hb d_L_law_186 rfl ?_
        refine lv_goto (tgt := 191) hx hb d_L_law_187 (by decide) ?_
        exact b191 Z x2 x3 (1 : Int32) t0 H locs hP hS (by assumption) ls (lv_sub hl [0, 1, 2, 3] rfl) (by rw [hq, s_L_law_b186])
      have b190 : ∀ (Z : St) (x2 : Int32) (x3 : Int32) (t0 : Int32) (H : Heap) (locs : List Loc), va_P E.1 vwCl (wb E ad Z ++ X) H → va_S A s.heap H locs → (UP n25 x2 (x3 + 1) ∧ Inv Z) → ∀ (ls : Array Slot), lv_has ls 10 [(0, .ref b), (1, .ref (ad 39)), (2, .int x2), (3, .int x3)] → (s_L_law xs L S) = s_L_law_b190 xs L (fun Z x2 x3 => s_L_law_b25 xs L n25 Z x2 x3) Z x2 x3 t0 → W p l e room_1 s m args below meth c H locs 600000 7302250 Q (F0 m 190 ls [.int t0]) := by
        intro Z x2 x3 t0 H locs hP hS ho ls hl hq
        refine lv_iconst (v := (0 : Int32)) hx hb d_L_law_190 rfl ?_
        exact b191 Z x2 x3 (0 : Int32) t0 H locs hP hS (by assumption) ls (lv_sub hl [0, 1, 2, 3] rfl) (by rw [hq, s_L_law_b190])
      have b161 : ∀ (Z : St) (x2 : Int32) (x3 : Int32) (x5 : Int32) (x6 : Int32) (x7 : Int32) (t0 : Int32) (H : Heap) (locs : List Loc), va_P E.1 vwCl (wb E ad Z ++ X) H → va_S A s.heap H locs → (UP n25 x2 (x3 + 1) ∧ Inv Z) → ∀ (ls : Array Slot), lv_has ls 10 [(0, .ref b), (1, .ref (ad 39)), (2, .int x2), (3, .int x3), (5, .int x5), (6, .int x6), (7, .int x7)] → (s_L_law xs L S) = s_L_law_b161 xs L (fun Z x2 x3 => s_L_law_b25 xs L n25 Z x2 x3) Z x2 x3 x5 x6 x7 t0 → W p l e room_1 s m args below meth c H locs 600000 7302250 Q (F0 m 161 ls [.int t0]) := by
        intro Z x2 x3 x5 x6 x7 t0 H locs hP hS ho ls hl hq
        refine lv_iload hx hb d_L_law_161 (lv_at hl 6 rfl) ?_
        refine lv_if_gt (tgt := 186) hx hb d_L_law_163 (by decide) (fun c_163 => ?_) (fun c_163 => ?_)
        · exact b186 Z x2 x3 t0 H locs hP hS (by assumption) ls (lv_sub hl [0, 1, 2, 3] rfl) (by rw [hq, s_L_law_b161, if_pos c_163])
        · refine lv_aload_n hx hb d_L_law_166 rfl (lv_at hl 1 rfl) ?_
          refine lv_iconst (v := (0 : Int32)) hx hb d_L_law_167 rfl ?_
          refine k_vi (rest := [.int t0]) (c_P_count l E ad X Z (0 : Int32)) mi_P_count ml_L_8 hx hb hml hts hown hK hP rvP hl ⟨rfl, rfl⟩ ⟨(Nat.le_of_ble_eq_true rfl), (Nat.le_of_ble_eq_true rfl)⟩ ⟨Nat.le_refl _, Nat.le_refl _⟩ rfl (Nat.le_of_ble_eq_true rfl) rfl d_L_law_168 ?_
          refine lv_iload hx hb d_L_law_171 (lv_at hl 4 rfl) ?_
          refine lv_icmp_ne (tgt := 190) hx hb d_L_law_173 (by decide) (fun c_173 => ?_) (fun c_173 => ?_)
          · exact b190 Z x2 x3 t0 H locs hP hS (by assumption) ls (lv_sub hl [0, 1, 2, 3] rfl) (by rw [hq, s_L_law_b161, if_neg c_163, if_neg c_173])
          · refine lv_aload_n hx hb d_L_law_176 rfl (lv_at hl 1 rfl) ?_
            refine lv_iconst (v := (1 : Int32)) hx hb d_L_law_177 rfl ?_
            refine k_vi (rest := [.int t0]) (c_P_count l E ad X Z (1 : Int32)) mi_P_count ml_L_8 hx hb hml hts hown hK hP rvP hl ⟨rfl, rfl⟩ ⟨(Nat.le_of_ble_eq_true rfl), (Nat.le_of_ble_eq_true rfl)⟩ ⟨Nat.le_refl _, Nat.le_refl _⟩ rfl (Nat.le_of_ble_eq_true rfl) rfl d_L_law_178 ?_
            refine lv_iload hx hb d_L_law_181 (lv_at hl 5 rfl) ?_
            refine lv_icmp_ne (tgt := 190) hx hb d_L_law_183 (by decide) (fun c_183 => ?_) (fun c_183 => ?_)
            · exact b190 Z x2 x3 t0 H locs hP hS (by assumption) ls (lv_sub hl [0, 1, 2, 3] rfl) (by rw [hq, s_L_law_b161, if_neg c_163, if_pos c_173, if_neg c_183])
            · exact b186 Z x2 x3 t0 H locs hP hS (by assumption) ls (lv_sub hl [0, 1, 2, 3] rfl) (by rw [hq, s_L_law_b161, if_neg c_163, if_pos c_173, if_pos c_183])
      have b142 : ∀ (Z : St) (x2 : Int32) (x3 : Int32) (x5 : Int32) (x6 : Int32) (x7 : Int32) (x8 : Int32) (t0 : Int32) (t1 : Int32) (H : Heap) (locs : List Loc), va_P E.1 vwCl (wb E ad Z ++ X) H → va_S A s.heap H locs → (UP n25 x2 (x3 + 1) ∧ Inv Z) → ∀ (ls : Array Slot), lv_has ls 10 [(0, .ref b), (1, .ref (ad 39)), (2, .int x2), (3, .int x3), (5, .int x5), (6, .int x6), (7, .int x7), (8, .int x8)] → (s_L_law xs L S) = s_L_law_b142 xs L (fun Z x2 x3 => s_L_law_b25 xs L n25 Z x2 x3) Z x2 x3 x5 x6 x7 x8 t0 t1 → W p l e room_1 s m args below meth c H locs 600000 7302250 Q (F0 m 142 ls [.int t0, .int t1]) := by
        intro Z x2 x3 x5 x6 x7 x8 t0 t1 H locs hP hS ho ls hl hq
        refine lv_iand hx hb d_L_law_142 ?_
        refine lv_istore (lv' := [(9, .int (t1 &&& t0)), (0, .ref b), (1, .ref (ad 39)), (2, .int x2), (3, .int x3), (5, .int x5), (6, .int x6), (7, .int x7), (8, .int x8)]) hx hb d_L_law_143 hl (by decide) rfl (fun ls hl => ?_)
        refine lv_iload hx hb d_L_law_145 (lv_at hl 0 rfl) ?_
        refine lv_iload hx hb d_L_law_147 (lv_at hl 8 rfl) ?_
        refine lv_bipush (v := (10 : Int32)) hx hb d_L_law_149 rfl ?_
        refine lv_icmp_eq (tgt := 161) hx hb d_L_law_151 (by decide) (fun c_151 => ?_) (fun c_151 => ?_)
        · exact b161 Z x2 x3 x5 x6 x7 (t1 &&& t0) H locs hP hS (by assumption) ls (lv_sub hl [1, 2, 3, 4, 5, 6, 7] rfl) (by rw [hq, s_L_law_b142, if_pos c_151])
        · refine lv_iload hx hb d_L_law_154 (lv_at hl 8 rfl) ?_
          refine lv_bipush (v := (11 : Int32)) hx hb d_L_law_156 rfl ?_
          refine lv_icmp_ne (tgt := 186) hx hb d_L_law_158 (by decide) (fun c_158 => ?_) (fun c_158 => ?_)
          · exact b186 Z x2 x3 (t1 &&& t0) H locs hP hS (by assumption) ls (lv_sub hl [1, 2, 3, 4] rfl) (by rw [hq, s_L_law_b142, if_neg c_151, if_neg c_158])
          · exact b161 Z x2 x3 x5 x6 x7 (t1 &&& t0) H locs hP hS (by assumption) ls (lv_sub hl [1, 2, 3, 4, 5, 6, 7] rfl) (by rw [hq, s_L_law_b142, if_neg c_151, if_pos c_158])
      have b137 : ∀ (Z : St) (x2 : Int32) (x3 : Int32) (x5 : Int32) (x6 : Int32) (x7 : Int32) (x8 : Int32) (t0 : Int32) (H : Heap) (locs : List Loc), va_P E.1 vwCl (wb E ad Z ++ X) H → va_S A s.heap H locs → (UP n25 x2 (x3 + 1) ∧ Inv Z) → ∀ (ls : Array Slot), lv_has ls 10 [(0, .ref b), (1, .ref (ad 39)), (2, .int x2), (3, .int x3), (5, .int x5), (6, .int x6), (7, .int x7), (8, .int x8)] → (s_L_law xs L S) = s_L_law_b137 xs L (fun Z x2 x3 => s_L_law_b25 xs L n25 Z x2 x3) Z x2 x3 x5 x6 x7 x8 t0 → W p l e room_1 s m args below meth c H locs 600000 7302250 Q (F0 m 137 ls [.int t0]) := by
        intro Z x2 x3 x5 x6 x7 x8 t0 H locs hP hS ho ls hl hq
        refine lv_iconst (v := (1 : Int32)) hx hb d_L_law_137 rfl ?_
        refine lv_goto (tgt := 142) hx hb d_L_law_138 (by decide) ?_
        exact b142 Z x2 x3 x5 x6 x7 x8 (1 : Int32) t0 H locs hP hS (by assumption) ls (lv_sub hl [0, 1, 2, 3, 4, 5, 6, 7] rfl) (by rw [hq, s_L_law_b137])
      have b134 : ∀ (Z : St) (x2 : Int32) (x3 : Int32) (x5 : Int32) (x6 : Int32) (x7 : Int32) (x8 : Int32) (t0 : Int32) (t1 : Int32) (t2 : Int32) (H : Heap) (locs : List Loc), va_P E.1 vwCl (wb E ad Z ++ X) H → va_S A s.heap H locs → (UP n25 x2 (x3 + 1) ∧ Inv Z) → ∀ (ls : Array Slot), lv_has ls 10 [(0, .ref b), (1, .ref (ad 39)), (2, .int x2), (3, .int x3), (5, .int x5), (6, .int x6), (7, .int x7), (8, .int x8)] → (s_L_law xs L S) = s_L_law_b134 xs L (fun Z x2 x3 => s_L_law_b25 xs L n25 Z x2 x3) Z x2 x3 x5 x6 x7 x8 t0 t1 t2 → W p l e room_1 s m args below meth c H locs 600000 7302250 Q (F0 m 134 ls [.int t0, .int t1, .int t2]) := by
        intro Z x2 x3 x5 x6 x7 x8 t0 t1 t2 H locs hP hS ho ls hl hq
        refine lv_icmp_ne (tgt := 141) hx hb d_L_law_134 (by decide) (fun c_134 => ?_) (fun c_134 => ?_)
        · refine lv_iconst (v := (0 : Int32)) hx hb d_L_law_141 rfl ?_
          exact b142 Z x2 x3 x5 x6 x7 x8 (0 : Int32) t2 H locs hP hS (by assumption) ls (lv_sub hl [0, 1, 2, 3, 4, 5, 6, 7] rfl) (by rw [hq, s_L_law_b134, if_neg c_134])
        · exact b137 Z x2 x3 x5 x6 x7 x8 t2 H locs hP hS (by assumption) ls (lv_sub hl [0, 1, 2, 3, 4, 5, 6, 7] rfl) (by rw [hq, s_L_law_b134, if_pos c_134])
      have b99 : ∀ (Z : St) (x2 : Int32) (x3 : Int32) (x5 : Int32) (x6 : Int32) (x7 : Int32) (x8 : Int32) (t0 : Int32) (H : Heap) (locs : List Loc), va_P E.1 vwCl (wb E ad Z ++ X) H → va_S A s.heap H locs → (UP n25 x2 (x3 + 1) ∧ Inv Z) → ∀ (ls : Array Slot), lv_has ls 10 [(0, .ref b), (1, .ref (ad 39)), (2, .int x2), (3, .int x3), (5, .int x5), (6, .int x6), (7, .int x7), (8, .int x8)] → (s_L_law xs L S) = s_L_law_b99 xs L (fun Z x2 x3 => s_L_law_b25 xs L n25 Z x2 x3) Z x2 x3 x5 x6 x7 x8 t0 → W p l e room_1 s m args below meth c H locs 600000 7302250 Q (F0 m 99 ls [.int t0]) := by
        intro Z x2 x3 x5 x6 x7 x8 t0 H locs hP hS ho ls hl hq
        refine lv_istore (lv' := [(9, .int t0), (0, .ref b), (1, .ref (ad 39)), (2, .int x2), (3, .int x3), (5, .int x5), (6, .int x6), (7, .int x7), (8, .int x8)]) hx hb d_L_law_99 hl (by decide) rfl (fun ls hl => ?_)
        refine lv_iload hx hb d_L_law_101 (lv_at hl 0 rfl) ?_
        refine lv_iload hx hb d_L_law_103 (lv_at hl 8 rfl) ?_
        refine lv_bipush (v := (6 : Int32)) hx hb d_L_law_105 rfl ?_
        refine lv_icmp_lt (tgt := 137) hx hb d_L_law_107 (by decide) (fun c_107 => ?_) (fun c_107 => ?_)
        · exact b137 Z x2 x3 x5 x6 x7 x8 t0 H locs hP hS (by assumption) ls (lv_sub hl [1, 2, 3, 4, 5, 6, 7, 8] rfl) (by rw [hq, s_L_law_b99, if_pos c_107])
        · refine lv_iload hx hb d_L_law_110 (lv_at hl 8 rfl) ?_
          refine lv_bipush (v := (8 : Int32)) hx hb d_L_law_112 rfl ?_
          refine lv_icmp_gt (tgt := 137) hx hb d_L_law_114 (by decide) (fun c_114 => ?_) (fun c_114 => ?_)
          · exact b137 Z x2 x3 x5 x6 x7 x8 t0 H locs hP hS (by assumption) ls (lv_sub hl [1, 2, 3, 4, 5, 6, 7, 8] rfl) (by rw [hq, s_L_law_b99, if_neg c_107, if_pos c_114])
          · refine lv_aload_n hx hb d_L_law_117 rfl (lv_at hl 2 rfl) ?_
            refine lv_iconst (v := (1 : Int32)) hx hb d_L_law_118 rfl ?_
            refine k_vi (rest := [.int t0]) (c_P_count l E ad X Z (1 : Int32)) mi_P_count ml_L_8 hx hb hml hts hown hK hP rvP hl ⟨rfl, rfl⟩ ⟨(Nat.le_of_ble_eq_true rfl), (Nat.le_of_ble_eq_true rfl)⟩ ⟨Nat.le_refl _, Nat.le_refl _⟩ rfl (Nat.le_of_ble_eq_true rfl) rfl d_L_law_119 ?_
            refine lv_iload hx hb d_L_law_122 (lv_at hl 7 rfl) ?_
            refine lv_if_ge (tgt := 132) hx hb d_L_law_124 (by decide) (fun c_124 => ?_) (fun c_124 => ?_)
            · refine lv_iload hx hb d_L_law_132 (lv_at hl 7 rfl) ?_
              exact b134 Z x2 x3 x5 x6 x7 x8 x7 (s_P_count Z (1 : Int32)) t0 H locs hP hS (by assumption) ls (lv_sub hl [1, 2, 3, 4, 5, 6, 7, 8] rfl) (by rw [hq, s_L_law_b99, if_neg c_107, if_neg c_114, if_pos c_124])
            · refine lv_iload hx hb d_L_law_127 (lv_at hl 6 rfl) ?_
              refine lv_goto (tgt := 134) hx hb d_L_law_129 (by decide) ?_
              exact b134 Z x2 x3 x5 x6 x7 x8 x6 (s_P_count Z (1 : Int32)) t0 H locs hP hS (by assumption) ls (lv_sub hl [1, 2, 3, 4, 5, 6, 7, 8] rfl) (by rw [hq, s_L_law_b99, if_neg c_107, if_neg c_114, if_neg c_124])
      have b94 : ∀ (Z : St) (x2 : Int32) (x3 : Int32) (x5 : Int32) (x6 : Int32) (x7 : Int32) (x8 : Int32) (H : Heap) (locs : List Loc), va_P E.1 vwCl (wb E ad Z ++ X) H → va_S A s.heap H locs → (UP n25 x2 (x3 + 1) ∧ Inv Z) → ∀ (ls : Array Slot), lv_has ls 10 [(0, .ref b), (1, .ref (ad 39)), (2, .int x2), (3, .int x3), (5, .int x5), (6, .int x6), (7, .int x7), (8, .int x8)] → (s_L_law xs L S) = s_L_law_b94 xs L (fun Z x2 x3 => s_L_law_b25 xs L n25 Z x2 x3) Z x2 x3 x5 x6 x7 x8 → W p l e room_1 s m args below meth c H locs 600000 7302250 Q (F0 m 94 ls []) := by
        intro Z x2 x3 x5 x6 x7 x8 H locs hP hS ho ls hl hq
        refine lv_iconst (v := (1 : Int32)) hx hb d_L_law_94 rfl ?_
        refine lv_goto (tgt := 99) hx hb d_L_law_95 (by decide) ?_
        exact b99 Z x2 x3 x5 x6 x7 x8 (1 : Int32) H locs hP hS (by assumption) ls (lv_sub hl [0, 1, 2, 3, 4, 5, 6, 7] rfl) (by rw [hq, s_L_law_b94])
      have b91 : ∀ (Z : St) (x2 : Int32) (x3 : Int32) (x5 : Int32) (x6 : Int32) (x7 : Int32) (x8 : Int32) (t0 : Int32) (t1 : Int32) (H : Heap) (locs : List Loc), va_P E.1 vwCl (wb E ad Z ++ X) H → va_S A s.heap H locs → (UP n25 x2 (x3 + 1) ∧ Inv Z) → ∀ (ls : Array Slot), lv_has ls 10 [(0, .ref b), (1, .ref (ad 39)), (2, .int x2), (3, .int x3), (5, .int x5), (6, .int x6), (7, .int x7), (8, .int x8)] → (s_L_law xs L S) = s_L_law_b91 xs L (fun Z x2 x3 => s_L_law_b25 xs L n25 Z x2 x3) Z x2 x3 x5 x6 x7 x8 t0 t1 → W p l e room_1 s m args below meth c H locs 600000 7302250 Q (F0 m 91 ls [.int t0, .int t1]) := by
        intro Z x2 x3 x5 x6 x7 x8 t0 t1 H locs hP hS ho ls hl hq
        refine lv_icmp_ne (tgt := 98) hx hb d_L_law_91 (by decide) (fun c_91 => ?_) (fun c_91 => ?_)
        · refine lv_iconst (v := (0 : Int32)) hx hb d_L_law_98 rfl ?_
          exact b99 Z x2 x3 x5 x6 x7 x8 (0 : Int32) H locs hP hS (by assumption) ls (lv_sub hl [0, 1, 2, 3, 4, 5, 6, 7] rfl) (by rw [hq, s_L_law_b91, if_neg c_91])
        · exact b94 Z x2 x3 x5 x6 x7 x8 H locs hP hS (by assumption) ls (lv_sub hl [0, 1, 2, 3, 4, 5, 6, 7] rfl) (by rw [hq, s_L_law_b91, if_pos c_91])
      intro Z x2 x3 H locs hP hS hv ls hl hq
      refine lv_iload_n hx hb d_L_law_25 rfl (lv_at hl 3 rfl) ?_
      refine lv_iload_n hx hb d_L_law_26 rfl (lv_at hl 2 rfl) ?_
      refine lv_icmp_ge (tgt := 235) hx hb d_L_law_27 (by decide) (fun c_27 => ?_) (fun c_27 => ?_)
      · refine lv_aload_n hx hb d_L_law_235 rfl (lv_at hl 1 rfl) ?_
        refine k_mvi (rest := []) (c_P_image l E ad X Z A) mi_P_image ml_L_65 hx hb hml hts hown hK hP hD hS rvP hl ⟨rfl, rfl⟩ ⟨(Nat.le_of_ble_eq_true rfl), (Nat.le_of_ble_eq_true rfl)⟩ ⟨Nat.le_refl _, Nat.le_refl _⟩ rfl (Nat.le_of_ble_eq_true rfl) rfl d_L_law_236 (fun H locs hP hS => ?_)
        have hP : va_P E.1 vwCl (wb E ad (s_P_image Z).2 ++ X) H := hP
        refine lv_istore_n (lv' := [(3, .int (s_P_image Z).1), (0, .ref b), (1, .ref (ad 39)), (2, .int x2)]) hx hb d_L_law_239 rfl hl (by decide) rfl (fun ls hl => ?_)
        refine lv_aload_n hx hb d_L_law_240 rfl (lv_at hl 2 rfl) ?_
        refine lv_iconst (v := (1 : Int32)) hx hb d_L_law_241 rfl ?_
        refine k_vi (rest := []) (c_P_count l E ad X (s_P_image Z).2 (1 : Int32)) mi_P_count ml_L_8 hx hb hml hts hown hK hP rvP hl ⟨rfl, rfl⟩ ⟨(Nat.le_of_ble_eq_true rfl), (Nat.le_of_ble_eq_true rfl)⟩ ⟨Nat.le_refl _, Nat.le_refl _⟩ rfl (Nat.le_of_ble_eq_true rfl) rfl d_L_law_242 ?_
        refine lv_istore (lv' := [(4, .int (s_P_count (s_P_image Z).2 (1 : Int32))), (3, .int (s_P_image Z).1), (0, .ref b), (1, .ref (ad 39)), (2, .int x2)]) hx hb d_L_law_245 hl (by decide) rfl (fun ls hl => ?_)
        refine lv_iconst (v := (0 : Int32)) hx hb d_L_law_247 rfl ?_
        refine lv_istore (lv' := [(5, .int (0 : Int32)), (4, .int (s_P_count (s_P_image Z).2 (1 : Int32))), (3, .int (s_P_image Z).1), (0, .ref b), (1, .ref (ad 39)), (2, .int x2)]) hx hb d_L_law_248 hl (by decide) rfl (fun ls hl => ?_)
        refine lv_iconst (v := (0 : Int32)) hx hb d_L_law_250 rfl ?_
        refine lv_istore (lv' := [(6, .int (0 : Int32)), (5, .int (0 : Int32)), (4, .int (s_P_count (s_P_image Z).2 (1 : Int32))), (3, .int (s_P_image Z).1), (0, .ref b), (1, .ref (ad 39)), (2, .int x2)]) hx hb d_L_law_251 hl (by decide) rfl (fun ls hl => ?_)
        exact b253 ((s_P_image Z).1.toInt.toNat + 1) (s_P_image Z).2 (s_P_image Z).1 (s_P_count (s_P_image Z).2 (1 : Int32)) (0 : Int32) (0 : Int32) H locs hP hS (⟨UP_in (by decide), (image_1 hv.2.1).1⟩) ls (lv_sub hl [4, 5, 3, 2, 1, 0] rfl) (by rw [hq, s_L_law_b25, if_pos c_27])
      · refine lv_aload_n hx hb d_L_law_30 rfl (lv_at hl 0 rfl) ?_
        refine lv_iload_n hx hb d_L_law_31 rfl (lv_at hl 3 rfl) ?_
        refine k_gsi (rest := []) (c_L_cell l b L xs x3 hL) mi_L_cell ml_L_135 hx hb hml hts hown XB.fb (XB.at hX hbl hbA hS) hl ⟨rfl, rfl⟩ ⟨(Nat.le_of_ble_eq_true rfl), (Nat.le_of_ble_eq_true rfl)⟩ ⟨Nat.le_refl _, Nat.le_refl _⟩ rfl (Nat.le_of_ble_eq_true rfl) rfl d_L_law_32 ?_
        refine lv_istore (lv' := [(4, .int (s_L_cell xs L x3)), (0, .ref b), (1, .ref (ad 39)), (2, .int x2), (3, .int x3)]) hx hb d_L_law_35 hl (by decide) rfl (fun ls hl => ?_)
        refine lv_aload_n hx hb d_L_law_37 rfl (lv_at hl 2 rfl) ?_
        refine lv_iconst (v := (0 : Int32)) hx hb d_L_law_38 rfl ?_
        refine k_vi (rest := []) (c_P_count l E ad X Z (0 : Int32)) mi_P_count ml_L_8 hx hb hml hts hown hK hP rvP hl ⟨rfl, rfl⟩ ⟨(Nat.le_of_ble_eq_true rfl), (Nat.le_of_ble_eq_true rfl)⟩ ⟨Nat.le_refl _, Nat.le_refl _⟩ rfl (Nat.le_of_ble_eq_true rfl) rfl d_L_law_39 ?_
        refine lv_istore (lv' := [(5, .int (s_P_count Z (0 : Int32))), (4, .int (s_L_cell xs L x3)), (0, .ref b), (1, .ref (ad 39)), (2, .int x2), (3, .int x3)]) hx hb d_L_law_42 hl (by decide) rfl (fun ls hl => ?_)
        refine lv_aload_n hx hb d_L_law_44 rfl (lv_at hl 3 rfl) ?_
        refine lv_iconst (v := (1 : Int32)) hx hb d_L_law_45 rfl ?_
        refine k_vi (rest := []) (c_P_count l E ad X Z (1 : Int32)) mi_P_count ml_L_8 hx hb hml hts hown hK hP rvP hl ⟨rfl, rfl⟩ ⟨(Nat.le_of_ble_eq_true rfl), (Nat.le_of_ble_eq_true rfl)⟩ ⟨Nat.le_refl _, Nat.le_refl _⟩ rfl (Nat.le_of_ble_eq_true rfl) rfl d_L_law_46 ?_
        refine lv_istore (lv' := [(6, .int (s_P_count Z (1 : Int32))), (5, .int (s_P_count Z (0 : Int32))), (4, .int (s_L_cell xs L x3)), (0, .ref b), (1, .ref (ad 39)), (2, .int x2), (3, .int x3)]) hx hb d_L_law_49 hl (by decide) rfl (fun ls hl => ?_)
        refine lv_aload_n hx hb d_L_law_51 rfl (lv_at hl 4 rfl) ?_
        refine lv_iload hx hb d_L_law_52 (lv_at hl 2 rfl) ?_
        refine k_msiX (rest := []) (c_L_act l E ad X Z A tq aK aV (s_L_cell xs L x3) (by rw [s_P_count, if_pos rfl]; exact cnt_ne hv.2)) mi_L_act ml_L_139 hx hb hml hts hown hK hP hD hS hTX hl ⟨rfl, rfl⟩ ⟨(Nat.le_of_ble_eq_true rfl), (Nat.le_of_ble_eq_true rfl)⟩ ⟨Nat.le_refl _, Nat.le_refl _⟩ rfl (Nat.le_of_ble_eq_true rfl) rfl d_L_law_54 (fun H locs hP hS => ?_)
        have hP : va_P E.1 vwCl (wb E ad (s_L_act Z (s_L_cell xs L x3)).2 ++ X) H := hP
        refine lv_istore (lv' := [(7, .int (s_L_act Z (s_L_cell xs L x3)).1), (6, .int (s_P_count Z (1 : Int32))), (5, .int (s_P_count Z (0 : Int32))), (4, .int (s_L_cell xs L x3)), (0, .ref b), (1, .ref (ad 39)), (2, .int x2), (3, .int x3)]) hx hb d_L_law_57 hl (by decide) rfl (fun ls hl => ?_)
        refine lv_iload hx hb d_L_law_59 (lv_at hl 3 rfl) ?_
        refine lv_bipush (v := (15 : Int32)) hx hb d_L_law_61 rfl ?_
        refine lv_iand hx hb d_L_law_63 ?_
        refine lv_istore (lv' := [(8, .int ((s_L_cell xs L x3) &&& (15 : Int32))), (7, .int (s_L_act Z (s_L_cell xs L x3)).1), (6, .int (s_P_count Z (1 : Int32))), (5, .int (s_P_count Z (0 : Int32))), (4, .int (s_L_cell xs L x3)), (0, .ref b), (1, .ref (ad 39)), (2, .int x2), (3, .int x3)]) hx hb d_L_law_64 hl (by decide) rfl (fun ls hl => ?_)
        refine lv_iload hx hb d_L_law_66 (lv_at hl 0 rfl) ?_
        refine lv_iconst (v := (2 : Int32)) hx hb d_L_law_68 rfl ?_
        refine lv_icmp_gt (tgt := 94) hx hb d_L_law_69 (by decide) (fun c_69 => ?_) (fun c_69 => ?_)
        · exact b94 (s_L_act Z (s_L_cell xs L x3)).2 x2 x3 (s_P_count Z (0 : Int32)) (s_P_count Z (1 : Int32)) (s_L_act Z (s_L_cell xs L x3)).1 ((s_L_cell xs L x3) &&& (15 : Int32)) H locs hP hS (⟨UP_up hv.1 c_27, (act_1 hv.2).1⟩) ls (lv_sub hl [5, 6, 7, 8, 3, 2, 1, 0] rfl) (by rw [hq, s_L_law_b25, if_neg c_27, if_pos c_69])
        · refine lv_aload_n hx hb d_L_law_72 rfl (lv_at hl 6 rfl) ?_
          refine lv_iconst (v := (0 : Int32)) hx hb d_L_law_73 rfl ?_
          refine k_vi (rest := []) (c_P_count l E ad X (s_L_act Z (s_L_cell xs L x3)).2 (0 : Int32)) mi_P_count ml_L_8 hx hb hml hts hown hK hP rvP hl ⟨rfl, rfl⟩ ⟨(Nat.le_of_ble_eq_true rfl), (Nat.le_of_ble_eq_true rfl)⟩ ⟨Nat.le_refl _, Nat.le_refl _⟩ rfl (Nat.le_of_ble_eq_true rfl) rfl d_L_law_74 ?_
          refine lv_iload hx hb d_L_law_77 (lv_at hl 1 rfl) ?_
          refine lv_if_ge (tgt := 87) hx hb d_L_law_79 (by decide) (fun c_79 => ?_) (fun c_79 => ?_)
          · refine lv_iload hx hb d_L_law_87 (lv_at hl 3 rfl) ?_
            refine lv_iconst (v := (1 : Int32)) hx hb d_L_law_89 rfl ?_
            refine lv_iadd hx hb d_L_law_90 ?_
            exact b91 (s_L_act Z (s_L_cell xs L x3)).2 x2 x3 (s_P_count Z (0 : Int32)) (s_P_count Z (1 : Int32)) (s_L_act Z (s_L_cell xs L x3)).1 ((s_L_cell xs L x3) &&& (15 : Int32)) ((s_P_count Z (0 : Int32)) + (1 : Int32)) (s_P_count (s_L_act Z (s_L_cell xs L x3)).2 (0 : Int32)) H locs hP hS (⟨UP_up hv.1 c_27, (act_1 hv.2).1⟩) ls (lv_sub hl [5, 6, 7, 8, 3, 2, 1, 0] rfl) (by rw [hq, s_L_law_b25, if_neg c_27, if_neg c_69, if_pos c_79])
          · refine lv_iload hx hb d_L_law_82 (lv_at hl 3 rfl) ?_
            refine lv_goto (tgt := 91) hx hb d_L_law_84 (by decide) ?_
            exact b91 (s_L_act Z (s_L_cell xs L x3)).2 x2 x3 (s_P_count Z (0 : Int32)) (s_P_count Z (1 : Int32)) (s_L_act Z (s_L_cell xs L x3)).1 ((s_L_cell xs L x3) &&& (15 : Int32)) (s_P_count Z (0 : Int32)) (s_P_count (s_L_act Z (s_L_cell xs L x3)).2 (0 : Int32)) H locs hP hS (⟨UP_up hv.1 c_27, (act_1 hv.2).1⟩) ls (lv_sub hl [5, 6, 7, 8, 3, 2, 1, 0] rfl) (by rw [hq, s_L_law_b25, if_neg c_27, if_neg c_69, if_neg c_79])
  have b22 : ∀ (Z : St) (t0 : Int32) (H : Heap) (locs : List Loc), va_P E.1 vwCl (wb E ad Z ++ X) H → va_S A s.heap H locs → (Inv Z) → ∀ (ls : Array Slot), lv_has ls 10 [(0, .ref b), (1, .ref (ad 39))] → (s_L_law xs L S) = s_L_law_b22 xs L Z t0 → W p l e room_1 s m args below meth c H locs 600000 7302250 Q (F0 m 22 ls [.int t0]) := by
    intro Z t0 H locs hP hS hIz ls hl hq
    refine lv_istore_n (lv' := [(2, .int t0), (0, .ref b), (1, .ref (ad 39))]) hx hb d_L_law_22 rfl hl (by decide) rfl (fun ls hl => ?_)
    refine lv_iconst (v := (0 : Int32)) hx hb d_L_law_23 rfl ?_
    refine lv_istore_n (lv' := [(3, .int (0 : Int32)), (2, .int t0), (0, .ref b), (1, .ref (ad 39))]) hx hb d_L_law_24 rfl hl (by decide) rfl (fun ls hl => ?_)
    exact b25 (t0.toInt.toNat + 1) Z t0 (0 : Int32) H locs hP hS (⟨UP_in (by decide), hIz⟩) ls (lv_sub hl [2, 3, 1, 0] rfl) (by rw [hq, s_L_law_b22])
  refine lv_aload_n hx hb d_L_law_8 rfl (lv_at hl 0 rfl) ?_
  refine va_slen hx hb hX hbl hbA hS d_L_law_9 ?_
  refine lv_bipush (v := (60 : Int32)) hx hb d_L_law_10 rfl ?_
  refine lv_icmp_ge (tgt := 20) hx hb d_L_law_12 (by decide) (fun c_12 => ?_) (fun c_12 => ?_)
  · refine lv_bipush (v := (60 : Int32)) hx hb d_L_law_20 rfl ?_
    exact b22 S (60 : Int32) H locs hP hS (hI) ls (lv_sub hl [0, 1] rfl) (by rw [s_L_law, if_pos c_12])
  · refine lv_aload_n hx hb d_L_law_15 rfl (lv_at hl 0 rfl) ?_
    refine va_slen hx hb hX hbl hbA hS d_L_law_16 ?_
    refine lv_goto (tgt := 22) hx hb d_L_law_17 (by decide) ?_
    exact b22 S (Int32.ofNat L) H locs hP hS (hI) ls (lv_sub hl [0, 1] rfl) (by rw [s_L_law, if_neg c_12])
