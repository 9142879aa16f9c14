/-! by program (wip/p32/cls.py) -/
def s_O_isMissing (S : St) (k : Nat) : Int32 := (if 0 ≤ (S.1 (16 + k)) then (0 : Int32) else (1 : Int32))
theorem z_O_isMissing (S : St) (k : Nat) : (s_O_isMissing S k) = 0 ∨ (s_O_isMissing S k) = 1 := by rw [s_O_isMissing]; exact (ite_z (Or.inl rfl) (Or.inr rfl))
set_option maxRecDepth 20000 in
theorem c_O_isMissing (l : Launch) (E : Cx) (ad : Nat → Nat) (X : va_W) (S : St) (k : Nat) (hk : k < 3) : Met l y_O_isMissing (Cond.code y_O_isMissing b_O_isMissing 1 (some .boolean) :: TB) (rk 0 0) (va_Pc [.ref (ad (32 + 2 * k))] (preR E (wb E ad S ++ X))) (vp_Si (fun r => r = (s_O_isMissing S k))) 0 0 (fun _ => False) := by
  refine w_roI rfl (Nat.le_of_ble_eq_true rfl) (k_nb (z_O_isMissing S k)) ?_
  intro p e s m args below meth c Q ls hx hb hml hts hown hP hK hl hend
  have hl : lv_has ls 1 [(0, .ref (ad (32 + 2 * k)))] := hl
  have hP : va_P E.1 vwCl (wb E ad S ++ X) s.heap := hP
  have hown : s.vm.findClass R_O = some m.cls := hown
  refine lv_aload_n hx hb d_O_isMissing_0 rfl (lv_at hl 0 rfl) ?_
  refine g_O_size hk hx hb hts hown hK hP d_O_isMissing_1 ?_
  refine lv_if_ge (tgt := 11) hx hb d_O_isMissing_4 (by decide) (fun c_4 => ?_) (fun c_4 => ?_)
  · refine lv_iconst (v := (0 : Int32)) hx hb d_O_isMissing_11 rfl ?_
    exact hend _ _ _ (by rw [s_O_isMissing, if_pos c_4]) d_O_isMissing_12
  · refine lv_iconst (v := (1 : Int32)) hx hb d_O_isMissing_7 rfl ?_
    refine lv_goto (tgt := 12) hx hb d_O_isMissing_8 (by decide) ?_
    exact hend _ _ _ (by rw [s_O_isMissing, if_neg c_4]) d_O_isMissing_12

def s_O_size (S : St) (k : Nat) : Int32 := (S.1 (16 + k))
set_option maxRecDepth 20000 in
theorem c_O_size (l : Launch) (E : Cx) (ad : Nat → Nat) (X : va_W) (S : St) (k : Nat) (hk : k < 3) : Met l y_O_size (Cond.code y_O_size b_O_size 1 (some .int) :: TB) (rk 0 0) (va_Pc [.ref (ad (32 + 2 * k))] (preR E (wb E ad S ++ X))) (vp_Si (fun r => r = (s_O_size S k))) 0 0 (fun _ => False) := by
  refine w_roI rfl (Nat.le_of_ble_eq_true rfl) rfl ?_
  intro p e s m args below meth c Q ls hx hb hml hts hown hP hK hl hend
  have hl : lv_has ls 1 [(0, .ref (ad (32 + 2 * k)))] := hl
  have hP : va_P E.1 vwCl (wb E ad S ++ X) s.heap := hP
  have hown : s.vm.findClass R_O = some m.cls := hown
  refine lv_aload_n hx hb d_O_size_0 rfl (lv_at hl 0 rfl) ?_
  refine g_O_size hk hx hb hts hown hK hP d_O_size_1 ?_
  exact hend _ _ _ (by rw [s_O_size]) d_O_size_4

def s_O_hasPlace (S : St) (k : Nat) (a1 : Int32) : Int32 := (if a1 < 0 then (0 : Int32) else (if (S.1 (16 + k)) ≤ a1 then (0 : Int32) else (if (20 : Int32) ≤ a1 then (0 : Int32) else (1 : Int32))))
theorem z_O_hasPlace (S : St) (k : Nat) (a1 : Int32) : (s_O_hasPlace S k a1) = 0 ∨ (s_O_hasPlace S k a1) = 1 := by rw [s_O_hasPlace]; exact (ite_z (Or.inl rfl) (ite_z (Or.inl rfl) (ite_z (Or.inl rfl) (Or.inr rfl))))
set_option maxRecDepth 20000 in
theorem c_O_hasPlace (l : Launch) (E : Cx) (ad : Nat → Nat) (X : va_W) (S : St) (k : Nat) (hk : k < 3) (a1 : Int32) : Met l y_O_hasPlace (Cond.code y_O_hasPlace b_O_hasPlace 2 (some .boolean) :: TB) (rk 0 0) (va_Pc [.ref (ad (32 + 2 * k)), .int a1] (preR E (wb E ad S ++ X))) (vp_Si (fun r => r = (s_O_hasPlace S k a1))) 0 0 (fun _ => False) := by
  refine w_roI rfl (Nat.le_of_ble_eq_true rfl) (k_nb (z_O_hasPlace S k a1)) ?_
  intro p e s m args below meth c Q ls hx hb hml hts hown hP hK hl hend
  have hl : lv_has ls 2 [(0, .ref (ad (32 + 2 * k))), (1, .int a1)] := hl
  have hP : va_P E.1 vwCl (wb E ad S ++ X) s.heap := hP
  have hown : s.vm.findClass R_O = some m.cls := hown
  refine lv_iload_n hx hb d_O_hasPlace_0 rfl (lv_at hl 1 rfl) ?_
  refine lv_if_lt (tgt := 25) hx hb d_O_hasPlace_1 (by decide) (fun c_1 => ?_) (fun c_1 => ?_)
  · refine lv_iconst (v := (0 : Int32)) hx hb d_O_hasPlace_25 rfl ?_
    exact hend _ _ _ (by rw [s_O_hasPlace, if_pos c_1]) d_O_hasPlace_26
  · refine lv_iload_n hx hb d_O_hasPlace_4 rfl (lv_at hl 1 rfl) ?_
    refine lv_aload_n hx hb d_O_hasPlace_5 rfl (lv_at hl 0 rfl) ?_
    refine g_O_size hk hx hb hts hown hK hP d_O_hasPlace_6 ?_
    refine lv_icmp_ge (tgt := 25) hx hb d_O_hasPlace_9 (by decide) (fun c_9 => ?_) (fun c_9 => ?_)
    · refine lv_iconst (v := (0 : Int32)) hx hb d_O_hasPlace_25 rfl ?_
      exact hend _ _ _ (by rw [s_O_hasPlace, if_neg c_1, if_pos c_9]) d_O_hasPlace_26
    · refine lv_iload_n hx hb d_O_hasPlace_12 rfl (lv_at hl 1 rfl) ?_
      refine lv_aload_n hx hb d_O_hasPlace_13 rfl (lv_at hl 0 rfl) ?_
      refine g_O_places hk hx hb hts hown hK hP d_O_hasPlace_14 ?_
      refine n_O_len hk hx hb hK hP d_O_hasPlace_17 ?_
      refine lv_icmp_ge (tgt := 25) hx hb d_O_hasPlace_18 (by decide) (fun c_18 => ?_) (fun c_18 => ?_)
      · refine lv_iconst (v := (0 : Int32)) hx hb d_O_hasPlace_25 rfl ?_
        exact hend _ _ _ (by rw [s_O_hasPlace, if_neg c_1, if_neg c_9, if_pos c_18]) d_O_hasPlace_26
      · refine lv_iconst (v := (1 : Int32)) hx hb d_O_hasPlace_21 rfl ?_
        refine lv_goto (tgt := 26) hx hb d_O_hasPlace_22 (by decide) ?_
        exact hend _ _ _ (by rw [s_O_hasPlace, if_neg c_1, if_neg c_9, if_neg c_18]) d_O_hasPlace_26
theorem O_hp_in {S : St} {k : Nat} {x : Int32} (h : ¬ s_O_hasPlace S k x = 0) : vp_in x 20 := by
  unfold s_O_hasPlace at h
  by_cases c1 : x < 0
  · rw [if_pos c1] at h; exact absurd rfl h
  · by_cases c2 : S.1 (16 + k) ≤ x
    · rw [if_neg c1, if_pos c2] at h; exact absurd rfl h
    · by_cases c3 : (20 : Int32) ≤ x
      · rw [if_neg c1, if_neg c2, if_pos c3] at h; exact absurd rfl h
      · exact vin_c (M := 20) (by decide) c1 c3

def s_O_at (S : St) (k : Nat) (a1 : Int32) : Int64 := (if (s_O_hasPlace S k a1) = 0 then (-9223372036854775808 : Int64) else (S.2.2 k a1.toNatClampNeg))
set_option maxRecDepth 20000 in
theorem c_O_at (l : Launch) (E : Cx) (ad : Nat → Nat) (X : va_W) (S : St) (k : Nat) (hk : k < 3) (a1 : Int32) : Met l y_O_at (Cond.code y_O_at b_O_at 2 (some .long) :: TB) (rk 1 21) (va_Pc [.ref (ad (32 + 2 * k)), .int a1] (preR E (wb E ad S ++ X))) (vp_Sl (fun r => r = (s_O_at S k a1))) 0 0 (fun _ => False) := by
  refine w_roL rfl (Nat.le_of_ble_eq_true rfl) ?_
  intro p e s m args below meth c Q ls hx hb hml hts hown hP hK hl hend
  have hl : lv_has ls 2 [(0, .ref (ad (32 + 2 * k))), (1, .int a1)] := hl
  have hP : va_P E.1 vwCl (wb E ad S ++ X) s.heap := hP
  have hown : s.vm.findClass R_O = some m.cls := hown
  refine lv_aload_n hx hb d_O_at_0 rfl (lv_at hl 0 rfl) ?_
  refine lv_iload_n hx hb d_O_at_1 rfl (lv_at hl 1 rfl) ?_
  refine k_vi (rest := []) (c_O_hasPlace l E ad X S k hk a1) mi_O_hasPlace ml_O_19 hx hb hml hts hown hK hP (rvO hk) hl ⟨rfl, rfl⟩ ⟨(Nat.le_of_ble_eq_true rfl), (Nat.le_of_ble_eq_true rfl)⟩ ⟨Nat.zero_le _, Nat.zero_le _⟩ rfl (Nat.le_of_ble_eq_true rfl) rfl d_O_at_2 ?_
  refine lv_if_eq (tgt := 17) hx hb d_O_at_5 (by decide) (fun c_5 => ?_) (fun c_5 => ?_)
  · refine lv_ldc2 (v := (-9223372036854775808 : Int64)) hx hb hown (hts _ kl_O_23) d_O_at_17 ?_
    exact hend _ _ _ (by rw [s_O_at, if_pos c_5]) d_O_at_20
  · refine lv_aload_n hx hb d_O_at_8 rfl (lv_at hl 0 rfl) ?_
    refine g_O_places hk hx hb hts hown hK hP d_O_at_9 ?_
    refine lv_iload_n hx hb d_O_at_12 rfl (lv_at hl 1 rfl) ?_
    refine l_O hk hx hb hK hP (O_hp_in c_5) d_O_at_13 ?_
    refine lv_goto (tgt := 20) hx hb d_O_at_14 (by decide) ?_
    exact hend _ _ _ (by rw [s_O_at, if_neg c_5]) d_O_at_20

def s_O_set (S : St) (k : Nat) (a1 : Int32) (a2 : Int64) : Int32 × St := (if (s_O_hasPlace S k a1) = 0 then ((s_O_hasPlace S k a1), S) else ((s_O_hasPlace S k a1), (sL S k a1.toNatClampNeg a2)))
theorem z_O_set (S : St) (k : Nat) (a1 : Int32) (a2 : Int64) : (s_O_set S k a1 a2).1 = 0 ∨ (s_O_set S k a1 a2).1 = 1 := by rw [s_O_set]; exact (ite_z1 (z_O_hasPlace S k a1) (z_O_hasPlace S k a1))
set_option maxRecDepth 20000 in
theorem c_O_set (l : Launch) (E : Cx) (ad : Nat → Nat) (X : va_W) (S : St) (A : Nat → Prop) (k : Nat) (hk : k < 3) (a1 : Int32) (a2 : Int64) : Met l y_O_set (Cond.code y_O_set b_O_set 5 (some .boolean) :: TB) (rk 1 21) (va_Pc [.ref (ad (32 + 2 * k)), .int a1, .long a2] (preM E A (fun S => wb E ad S ++ X) S)) (va_Qi (fun r u => (r, u) = (s_O_set S k a1 a2)) (fun u t => va_P E.1 vwCl ((fun S => wb E ad S ++ X) u) t.heap) A) 0 0 A := by
  refine w_muI rfl (Nat.le_of_ble_eq_true rfl) (k_nb (z_O_set S k a1 a2)) ?_
  intro p e s m args below meth c Q ls hx hb hml hts hown hP hK hD hS hl hend
  have hl : lv_has ls 5 [(0, .ref (ad (32 + 2 * k))), (1, .int a1), (2, .long a2)] := hl
  have hP : va_P E.1 vwCl (wb E ad S ++ X) s.heap := hP
  have hown : s.vm.findClass R_O = some m.cls := hown
  have hD : ∀ S' : St, va_D A (wb E ad S' ++ X) := hD
  refine lv_aload_n hx hb d_O_set_0 rfl (lv_at hl 0 rfl) ?_
  refine lv_iload_n hx hb d_O_set_1 rfl (lv_at hl 1 rfl) ?_
  refine k_vi (rest := []) (c_O_hasPlace l E ad X S k hk a1) mi_O_hasPlace ml_O_19 hx hb hml hts hown hK hP (rvO hk) hl ⟨rfl, rfl⟩ ⟨(Nat.le_of_ble_eq_true rfl), (Nat.le_of_ble_eq_true rfl)⟩ ⟨Nat.zero_le _, Nat.zero_le _⟩ rfl (Nat.le_of_ble_eq_true rfl) rfl d_O_set_2 ?_
  refine lv_istore (lv' := [(4, .int (s_O_hasPlace S k a1)), (0, .ref (ad (32 + 2 * k))), (1, .int a1), (2, .long a2)]) hx hb d_O_set_5 hl (by decide) rfl (fun ls hl => ?_)
  refine lv_iload hx hb d_O_set_7 (lv_at hl 0 rfl) ?_
  refine lv_if_eq (tgt := 19) hx hb d_O_set_9 (by decide) (fun c_9 => ?_) (fun c_9 => ?_)
  · refine lv_iload hx hb d_O_set_19 (lv_at hl 0 rfl) ?_
    exact hend _ _ _ _ _ _ (by rw [s_O_set, if_pos c_9]) hP hS d_O_set_21
  · refine lv_aload_n hx hb d_O_set_12 rfl (lv_at hl 1 rfl) ?_
    refine g_O_places hk hx hb hts hown hK hP d_O_set_13 ?_
    refine lv_iload_n hx hb d_O_set_16 rfl (lv_at hl 2 rfl) ?_
    refine lv_lload_n hx hb d_O_set_17 rfl (lv_at hl 3 rfl) ?_
    refine a_O hk hx hb hK hP hD hS (O_hp_in c_9) d_O_set_18 (fun H locs hP hS => ?_)
    have hP : va_P E.1 vwCl (wb E ad (sL S k a1.toNatClampNeg a2) ++ X) H := hP
    refine lv_iload hx hb d_O_set_19 (lv_at hl 0 rfl) ?_
    exact hend _ _ _ _ _ _ (by rw [s_O_set, if_neg c_9]) hP hS d_O_set_21

def s_O_resize_b23 (k : Nat) : Nat → St → Int32 → Int32 × St
  | 0, Z, _ => (0, Z)
  | n + 1, Z, x2 => (if (20 : Int32) ≤ x2 then ((1 : Int32), Z) else (s_O_resize_b23 k n (sL Z k x2.toNatClampNeg (0 : Int64)) (x2 + 1)))
def s_O_resize (S : St) (k : Nat) (a1 : Int32) : Int32 × St := (if a1 < (-1 : Int32) then ((0 : Int32), S) else (if a1 ≤ (20 : Int32) then (s_O_resize_b23 k (21) (sV S (16 + k) a1) (0 : Int32)) else ((0 : Int32), S)))
theorem z_O_resize_b23 (k : Nat) (n : Nat) (Z : St) (x2 : Int32) : (s_O_resize_b23 k n Z x2).1 = 0 ∨ (s_O_resize_b23 k n Z x2).1 = 1 := by
  induction n generalizing Z x2 with
  | zero => exact Or.inl rfl
  | succ n ih => rw [s_O_resize_b23]; exact (ite_z1 (Or.inr rfl) (ih (sL Z k x2.toNatClampNeg (0 : Int64)) (x2 + 1)))
theorem z_O_resize (S : St) (k : Nat) (a1 : Int32) : (s_O_resize S k a1).1 = 0 ∨ (s_O_resize S k a1).1 = 1 := by rw [s_O_resize]; exact (ite_z1 (Or.inl rfl) (ite_z1 (z_O_resize_b23 k (21) (sV S (16 + k) a1) (0 : Int32)) (Or.inl rfl)))
set_option maxRecDepth 20000 in
theorem c_O_resize (l : Launch) (E : Cx) (ad : Nat → Nat) (X : va_W) (S : St) (A : Nat → Prop) (k : Nat) (hk : k < 3) (a1 : Int32) : Met l y_O_resize (Cond.code y_O_resize b_O_resize 3 (some .boolean) :: TB) (rk 0 0) (va_Pc [.ref (ad (32 + 2 * k)), .int a1] (preM E A (fun S => wb E ad S ++ X) S)) (va_Qi (fun r u => (r, u) = (s_O_resize S k a1)) (fun u t => va_P E.1 vwCl ((fun S => wb E ad S ++ X) u) t.heap) A) 0 0 A := by
  refine w_muI rfl (Nat.le_of_ble_eq_true rfl) (k_nb (z_O_resize S k a1)) ?_
  intro p e s m args below meth c Q ls hx hb hml hts hown hP hK hD hS hl hend
  have hl : lv_has ls 3 [(0, .ref (ad (32 + 2 * k))), (1, .int a1)] := hl
  have hP : va_P E.1 vwCl (wb E ad S ++ X) s.heap := hP
  have hown : s.vm.findClass R_O = some m.cls := hown
  have hD : ∀ S' : St, va_D A (wb E ad S' ++ X) := hD
  have b23 : ∀ (n : Nat) (Z : St) (x2 : Int32) (H : Heap) (locs : List Loc), va_P E.1 vwCl (wb E ad Z ++ X) H → va_S A s.heap H locs → (UP n 20 x2) → ∀ (ls : Array Slot), lv_has ls 3 [(0, .ref (ad (32 + 2 * k))), (2, .int x2)] → (s_O_resize S k a1) = s_O_resize_b23 k n Z x2 → W p l e (rk 0 0) s m args below meth c H locs 0 0 Q (F0 m 23 ls []) := by
    intro n23
    induction n23 with
    | zero => intro Z x2 H locs hP hS hv; exact absurd hv (UP_z)
    | succ n23 ih23 =>
      intro Z x2 H locs hP hS hv ls hl hq
      refine lv_iload_n hx hb d_O_resize_23 rfl (lv_at hl 1 rfl) ?_
      refine lv_aload_n hx hb d_O_resize_24 rfl (lv_at hl 0 rfl) ?_
      refine g_O_places hk hx hb hts hown hK hP d_O_resize_25 ?_
      refine n_O_len hk hx hb hK hP d_O_resize_28 ?_
      refine lv_icmp_ge (tgt := 45) hx hb d_O_resize_29 (by decide) (fun c_29 => ?_) (fun c_29 => ?_)
      · refine lv_iconst (v := (1 : Int32)) hx hb d_O_resize_45 rfl ?_
        exact hend _ _ _ _ _ _ (by rw [hq, s_O_resize_b23, if_pos c_29]) hP hS d_O_resize_46
      · refine lv_aload_n hx hb d_O_resize_32 rfl (lv_at hl 0 rfl) ?_
        refine g_O_places hk hx hb hts hown hK hP d_O_resize_33 ?_
        refine lv_iload_n hx hb d_O_resize_36 rfl (lv_at hl 1 rfl) ?_
        refine lv_lconst (v := (0 : Int64)) hx hb d_O_resize_37 rfl ?_
        refine a_O hk hx hb hK hP hD hS (vin_p (M := 20) (by decide) hv.2.2 c_29) d_O_resize_38 (fun H locs hP hS => ?_)
        have hP : va_P E.1 vwCl (wb E ad (sL Z k x2.toNatClampNeg (0 : Int64)) ++ X) H := hP
        refine lv_iinc (v := (x2 + 1)) (lv' := [(2, .int (x2 + 1)), (0, .ref (ad (32 + 2 * k)))]) hx hb d_O_resize_39 hl (k := 1) rfl rfl (by decide) rfl (fun ls hl => ?_)
        refine lv_goto (tgt := 23) hx hb d_O_resize_42 (by decide) ?_
        exact ih23 (sL Z k x2.toNatClampNeg (0 : Int64)) (x2 + 1) H locs hP hS (UP_up hv c_29) ls (lv_sub hl [1, 0] rfl) (by rw [hq, s_O_resize_b23, if_neg c_29])
  refine lv_iload_n hx hb d_O_resize_0 rfl (lv_at hl 1 rfl) ?_
  refine lv_iconst (v := (-1 : Int32)) hx hb d_O_resize_1 rfl ?_
  refine lv_icmp_lt (tgt := 14) hx hb d_O_resize_2 (by decide) (fun c_2 => ?_) (fun c_2 => ?_)
  · refine lv_iconst (v := (0 : Int32)) hx hb d_O_resize_14 rfl ?_
    exact hend _ _ _ _ _ _ (by rw [s_O_resize, if_pos c_2]) hP hS d_O_resize_15
  · refine lv_iload_n hx hb d_O_resize_5 rfl (lv_at hl 1 rfl) ?_
    refine lv_aload_n hx hb d_O_resize_6 rfl (lv_at hl 0 rfl) ?_
    refine g_O_places hk hx hb hts hown hK hP d_O_resize_7 ?_
    refine n_O_len hk hx hb hK hP d_O_resize_10 ?_
    refine lv_icmp_le (tgt := 16) hx hb d_O_resize_11 (by decide) (fun c_11 => ?_) (fun c_11 => ?_)
    · refine lv_aload_n hx hb d_O_resize_16 rfl (lv_at hl 0 rfl) ?_
      refine lv_iload_n hx hb d_O_resize_17 rfl (lv_at hl 1 rfl) ?_
      refine p_O_size hk hx hb hts hown hK hP hD hS d_O_resize_18 (fun H locs hP hS => ?_)
      have hP : va_P E.1 vwCl (wb E ad (sV S (16 + k) a1) ++ X) H := hP
      refine lv_iconst (v := (0 : Int32)) hx hb d_O_resize_21 rfl ?_
      refine lv_istore_n (lv' := [(2, .int (0 : Int32)), (0, .ref (ad (32 + 2 * k))), (1, .int a1)]) hx hb d_O_resize_22 rfl hl (by decide) rfl (fun ls hl => ?_)
      exact b23 (21) (sV S (16 + k) a1) (0 : Int32) H locs hP hS (UP_in' (by decide) (by decide)) ls (lv_sub hl [1, 0] rfl) (by rw [s_O_resize, if_neg c_2, if_pos c_11])
    · refine lv_iconst (v := (0 : Int32)) hx hb d_O_resize_14 rfl ?_
      exact hend _ _ _ _ _ _ (by rw [s_O_resize, if_neg c_2, if_neg c_11]) hP hS d_O_resize_15
