/-! by program (wip/whole/mdl.py) -/
def s_M_act_b140 (Z : St) (t0 : Int32) (t2 : Int32) : St := (sA (s_M_number Z t0).2 6 t2.toNatClampNeg (s_M_number Z t0).1)
def s_M_act_b117 (Z : St) (x1 : Int32) (x2 : Int32) : St := (if x2 = (115 : Int32) then (s_M_act_b140 (s_M_takes Z (44 : Int32)) (1 : Int32) x1) else (s_M_act_b140 (s_M_takes Z (44 : Int32)) (0 : Int32) x1))
def s_M_act_b105 (Z : St) (x1 : Int32) (x2 : Int32) : St := (if x2 = (115 : Int32) then (s_M_act_b117 Z x1 x2) else (if x2 = (116 : Int32) then (s_M_act_b117 Z x1 x2) else Z))
def s_M_act_b101 (Z : St) (x1 : Int32) (x2 : Int32) (t0 : Int32) (t2 : Int32) : St := (s_M_act_b105 (sA (s_M_number Z t0).2 5 t2.toNatClampNeg (s_M_number Z t0).1) x1 x2)
def s_M_act_b41 (Z : St) (x1 : Int32) (x2 : Int32) (t0 : Int32) : St := (if t0 = 0 then (if x2 = (120 : Int32) then (s_M_act_b105 (sV (sA (sV Z 6 t0) 4 x1.toNatClampNeg x2) 5 ((Z.1 5) + (0 : Int32))) x1 x2) else (if x2 = (119 : Int32) then (s_M_act_b101 (s_M_takes (sV (sA (sV Z 6 t0) 4 x1.toNatClampNeg x2) 5 ((Z.1 5) + (0 : Int32))) (32 : Int32)) x1 x2 (1 : Int32) x1) else (s_M_act_b101 (s_M_takes (sV (sA (sV Z 6 t0) 4 x1.toNatClampNeg x2) 5 ((Z.1 5) + (0 : Int32))) (32 : Int32)) x1 x2 (0 : Int32) x1))) else (if x2 = (120 : Int32) then (s_M_act_b105 (sV (sA (sV Z 6 t0) 4 x1.toNatClampNeg x2) 5 ((Z.1 5) + (1 : Int32))) x1 x2) else (if x2 = (119 : Int32) then (s_M_act_b101 (s_M_takes (sV (sA (sV Z 6 t0) 4 x1.toNatClampNeg x2) 5 ((Z.1 5) + (1 : Int32))) (32 : Int32)) x1 x2 (1 : Int32) x1) else (s_M_act_b101 (s_M_takes (sV (sA (sV Z 6 t0) 4 x1.toNatClampNeg x2) 5 ((Z.1 5) + (1 : Int32))) (32 : Int32)) x1 x2 (0 : Int32) x1))))
def s_M_act (S : St) (a1 : Int32) : St := (if (s_M_here S) = (119 : Int32) then (s_M_act_b41 S a1 (s_M_here S) (1 : Int32)) else (if (s_M_here S) = (115 : Int32) then (s_M_act_b41 S a1 (s_M_here S) (1 : Int32)) else (if (s_M_here S) = (112 : Int32) then (s_M_act_b41 S a1 (s_M_here S) (1 : Int32)) else (if (s_M_here S) = (116 : Int32) then (s_M_act_b41 S a1 (s_M_here S) (1 : Int32)) else (if (s_M_here S) = (120 : Int32) then (s_M_act_b41 S a1 (s_M_here S) (1 : Int32)) else (s_M_act_b41 S a1 (s_M_here S) (0 : Int32)))))))
set_option maxRecDepth 20000 in
theorem c_M_act (l : Launch) (E : Cx) (ad : Nat → Nat) (X : va_W) (S : St) (A : Nat → Prop) (a1 : Int32) (hT : TI S) (hk : w41 a1) : Met l y_M_act (Cond.code y_M_act b_M_act 3 none :: TB) (rk 3 69) (va_Pc [.ref (ad 0), .int a1] (preM E A (fun S => wm E ad S ++ X) S)) (va_Qv (fun u => u = (s_M_act S a1)) (fun u t => va_P E.1 vwCl ((fun S => wm E ad S ++ X) u) t.heap) A) 0 0 A := by
  refine w_muV rfl (Nat.le_of_ble_eq_true rfl) ?_
  intro p e s m args below meth c Q ls hx hb hml hts hown hP hK hD hS hl hend
  have hl : lv_has ls 3 [(0, .ref (ad 0)), (1, .int a1)] := hl
  have hP : va_P E.1 vwCl (wm E ad S ++ X) s.heap := hP
  have hown : s.vm.findClass R_M = some m.cls := hown
  have hD : ∀ S' : St, va_D A (wm E ad S' ++ X) := hD
  have b140 : ∀ (Z : St) (t0 : Int32) (t2 : Int32) (H : Heap) (locs : List Loc), va_P E.1 vwCl (wm E ad Z ++ X) H → va_S A s.heap H locs → (TI Z) → (w41 t2) → (t0 = 0 ∨ t0 = 1) → ∀ (ls : Array Slot), lv_has ls 3 [] → (s_M_act S a1) = s_M_act_b140 Z t0 t2 → W p l e (rk 3 69) s m args below meth c H locs 0 0 Q (F0 m 140 ls [.int t0, .ref (ad 0), .int t2, .ref (ad 9)]) := by
    intro Z t0 t2 H locs hP hS hT hk2 hb0 ls hl hq
    refine k_mvi (rest := [.int t2, .ref (ad 9)]) (c_M_number l E ad X Z A t0 (by assumption)) mi_M_number ml_M_235 hx hb hml hts hown hK hP hD hS rvM hl ⟨rfl, rfl⟩ ⟨(Nat.le_of_ble_eq_true rfl), (Nat.le_of_ble_eq_true rfl)⟩ ⟨Nat.zero_le _, Nat.zero_le _⟩ rfl (Nat.le_of_ble_eq_true rfl) rfl d_M_act_140 (fun H locs hP hS => ?_)
    have hP : va_P E.1 vwCl (wm E ad (s_M_number Z t0).2 ++ X) H := hP
    refine am_seconds hx hb hK hP hD hS (k := t2.toNatClampNeg) rfl (w41_ix hk2) d_M_act_143 (fun H locs hP hS => ?_)
    have hP : va_P E.1 vwCl (wm E ad (sA (s_M_number Z t0).2 6 t2.toNatClampNeg (s_M_number Z t0).1) ++ X) H := hP
    exact hend _ _ _ _ _ (by rw [hq, s_M_act_b140]) hP hS d_M_act_144
  have b117 : ∀ (Z : St) (x1 : Int32) (x2 : Int32) (H : Heap) (locs : List Loc), va_P E.1 vwCl (wm E ad Z ++ X) H → va_S A s.heap H locs → (TI Z) → (w41 x1) → ∀ (ls : Array Slot), lv_has ls 3 [(0, .ref (ad 0)), (1, .int x1), (2, .int x2)] → (s_M_act S a1) = s_M_act_b117 Z x1 x2 → W p l e (rk 3 69) s m args below meth c H locs 0 0 Q (F0 m 117 ls []) := by
    intro Z x1 x2 H locs hP hS hT hk ls hl hq
    refine lv_aload_n hx hb d_M_act_117 rfl (lv_at hl 0 rfl) ?_
    refine lv_bipush (v := (44 : Int32)) hx hb d_M_act_118 rfl ?_
    refine k_mvv (rest := []) (c_M_takes l E ad X Z A (44 : Int32) (by assumption)) mi_M_takes ml_M_231 hx hb hml hts hown hK hP hD hS rvM hl ⟨rfl, rfl⟩ ⟨(Nat.le_of_ble_eq_true rfl), (Nat.le_of_ble_eq_true rfl)⟩ ⟨Nat.zero_le _, Nat.zero_le _⟩ rfl (Nat.le_of_ble_eq_true rfl) rfl d_M_act_120 (fun H locs hP hS => ?_)
    have hP : va_P E.1 vwCl (wm E ad (s_M_takes Z (44 : Int32)) ++ X) H := hP
    refine lv_aload_n hx hb d_M_act_123 rfl (lv_at hl 0 rfl) ?_
    refine g_M_seconds hx hb hts hown hK hP d_M_act_124 ?_
    refine lv_iload_n hx hb d_M_act_127 rfl (lv_at hl 1 rfl) ?_
    refine lv_aload_n hx hb d_M_act_128 rfl (lv_at hl 0 rfl) ?_
    refine lv_iload_n hx hb d_M_act_129 rfl (lv_at hl 2 rfl) ?_
    refine lv_bipush (v := (115 : Int32)) hx hb d_M_act_130 rfl ?_
    refine lv_icmp_ne (tgt := 139) hx hb d_M_act_132 (by decide) (fun c_132 => ?_) (fun c_132 => ?_)
    · refine lv_iconst (v := (0 : Int32)) hx hb d_M_act_139 rfl ?_
      exact b140 (s_M_takes Z (44 : Int32)) (0 : Int32) x1 H locs hP hS (TI_takes hT (by decide)) (hk) (Or.inl rfl) ls (lv_sub hl [] rfl) (by rw [hq, s_M_act_b117, if_neg c_132])
    · refine lv_iconst (v := (1 : Int32)) hx hb d_M_act_135 rfl ?_
      refine lv_goto (tgt := 140) hx hb d_M_act_136 (by decide) ?_
      exact b140 (s_M_takes Z (44 : Int32)) (1 : Int32) x1 H locs hP hS (TI_takes hT (by decide)) (hk) (Or.inr rfl) ls (lv_sub hl [] rfl) (by rw [hq, s_M_act_b117, if_pos c_132])
  have b105 : ∀ (Z : St) (x1 : Int32) (x2 : Int32) (H : Heap) (locs : List Loc), va_P E.1 vwCl (wm E ad Z ++ X) H → va_S A s.heap H locs → (TI Z) → (w41 x1) → ∀ (ls : Array Slot), lv_has ls 3 [(0, .ref (ad 0)), (1, .int x1), (2, .int x2)] → (s_M_act S a1) = s_M_act_b105 Z x1 x2 → W p l e (rk 3 69) s m args below meth c H locs 0 0 Q (F0 m 105 ls []) := by
    intro Z x1 x2 H locs hP hS hT hk ls hl hq
    refine lv_iload_n hx hb d_M_act_105 rfl (lv_at hl 2 rfl) ?_
    refine lv_bipush (v := (115 : Int32)) hx hb d_M_act_106 rfl ?_
    refine lv_icmp_eq (tgt := 117) hx hb d_M_act_108 (by decide) (fun c_108 => ?_) (fun c_108 => ?_)
    · exact b117 Z x1 x2 H locs hP hS (by assumption) (by assumption) ls (lv_sub hl [0, 1, 2] rfl) (by rw [hq, s_M_act_b105, if_pos c_108])
    · refine lv_iload_n hx hb d_M_act_111 rfl (lv_at hl 2 rfl) ?_
      refine lv_bipush (v := (116 : Int32)) hx hb d_M_act_112 rfl ?_
      refine lv_icmp_ne (tgt := 144) hx hb d_M_act_114 (by decide) (fun c_114 => ?_) (fun c_114 => ?_)
      · exact hend _ _ _ _ _ (by rw [hq, s_M_act_b105, if_neg c_108, if_neg c_114]) hP hS d_M_act_144
      · exact b117 Z x1 x2 H locs hP hS (by assumption) (by assumption) ls (lv_sub hl [0, 1, 2] rfl) (by rw [hq, s_M_act_b105, if_neg c_108, if_pos c_114])
  have b101 : ∀ (Z : St) (x1 : Int32) (x2 : Int32) (t0 : Int32) (t2 : Int32) (H : Heap) (locs : List Loc), va_P E.1 vwCl (wm E ad Z ++ X) H → va_S A s.heap H locs → (TI Z) → (w41 x1) → (w41 t2) → (t0 = 0 ∨ t0 = 1) → ∀ (ls : Array Slot), lv_has ls 3 [(0, .ref (ad 0)), (1, .int x1), (2, .int x2)] → (s_M_act S a1) = s_M_act_b101 Z x1 x2 t0 t2 → W p l e (rk 3 69) s m args below meth c H locs 0 0 Q (F0 m 101 ls [.int t0, .ref (ad 0), .int t2, .ref (ad 8)]) := by
    intro Z x1 x2 t0 t2 H locs hP hS hT hk hk2 hb0 ls hl hq
    refine k_mvi (rest := [.int t2, .ref (ad 8)]) (c_M_number l E ad X Z A t0 (by assumption)) mi_M_number ml_M_235 hx hb hml hts hown hK hP hD hS rvM hl ⟨rfl, rfl⟩ ⟨(Nat.le_of_ble_eq_true rfl), (Nat.le_of_ble_eq_true rfl)⟩ ⟨Nat.zero_le _, Nat.zero_le _⟩ rfl (Nat.le_of_ble_eq_true rfl) rfl d_M_act_101 (fun H locs hP hS => ?_)
    have hP : va_P E.1 vwCl (wm E ad (s_M_number Z t0).2 ++ X) H := hP
    refine am_firsts hx hb hK hP hD hS (k := t2.toNatClampNeg) rfl (w41_ix hk2) d_M_act_104 (fun H locs hP hS => ?_)
    have hP : va_P E.1 vwCl (wm E ad (sA (s_M_number Z t0).2 5 t2.toNatClampNeg (s_M_number Z t0).1) ++ X) H := hP
    exact b105 (sA (s_M_number Z t0).2 5 t2.toNatClampNeg (s_M_number Z t0).1) x1 x2 H locs hP hS (TI_sA (NB_number hT).1) (by assumption) ls (lv_sub hl [0, 1, 2] rfl) (by rw [hq, s_M_act_b101])
  have b41 : ∀ (Z : St) (x1 : Int32) (x2 : Int32) (t0 : Int32) (H : Heap) (locs : List Loc), va_P E.1 vwCl (wm E ad Z ++ X) H → va_S A s.heap H locs → (TI Z) → (w41 x1) → (t0 = 0 ∨ (Z.1 5).toInt < (Z.1 4).toInt) → (t0 = 0 ∨ t0 = 1) → ∀ (ls : Array Slot), lv_has ls 3 [(0, .ref (ad 0)), (1, .int x1), (2, .int x2)] → (s_M_act S a1) = s_M_act_b41 Z x1 x2 t0 → W p l e (rk 3 69) s m args below meth c H locs 0 0 Q (F0 m 41 ls [.int t0, .ref (ad 0)]) := by
    intro Z x1 x2 t0 H locs hP hS hT hk hc hb0 ls hl hq
    refine p_M_goes hx hb hts hown hK hP hD hS hb0 d_M_act_41 (fun H locs hP hS => ?_)
    have hP : va_P E.1 vwCl (wm E ad (sV Z 6 t0) ++ X) H := hP
    refine lv_aload_n hx hb d_M_act_44 rfl (lv_at hl 0 rfl) ?_
    refine g_M_letters hx hb hts hown hK hP d_M_act_45 ?_
    refine lv_iload_n hx hb d_M_act_48 rfl (lv_at hl 1 rfl) ?_
    refine lv_iload_n hx hb d_M_act_49 rfl (lv_at hl 2 rfl) ?_
    refine am_letters hx hb hK hP hD hS (k := x1.toNatClampNeg) rfl (w41_ix hk) d_M_act_50 (fun H locs hP hS => ?_)
    have hP : va_P E.1 vwCl (wm E ad (sA (sV Z 6 t0) 4 x1.toNatClampNeg x2) ++ X) H := hP
    refine lv_aload_n hx hb d_M_act_51 rfl (lv_at hl 0 rfl) ?_
    refine lv_dup hx hb d_M_act_52 rfl ?_
    refine g_M_at hx hb hts hown hK hP d_M_act_53 ?_
    refine k_topi (y := (Z.1 5)) rfl ?_
    refine lv_aload_n hx hb d_M_act_56 rfl (lv_at hl 0 rfl) ?_
    refine g_M_goes hx hb hts hown hK hP d_M_act_57 ?_
    refine k_topi (y := t0) rfl ?_
    refine lv_if_eq (tgt := 67) hx hb d_M_act_60 (by decide) (fun c_60 => ?_) (fun c_60 => ?_)
    · refine lv_iconst (v := (0 : Int32)) hx hb d_M_act_67 rfl ?_
      refine lv_iadd hx hb d_M_act_68 ?_
      refine p_M_at hx hb hts hown hK hP hD hS d_M_act_69 (fun H locs hP hS => ?_)
      have hP : va_P E.1 vwCl (wm E ad (sV (sA (sV Z 6 t0) 4 x1.toNatClampNeg x2) 5 ((Z.1 5) + (0 : Int32))) ++ X) H := hP
      refine lv_iload_n hx hb d_M_act_72 rfl (lv_at hl 2 rfl) ?_
      refine lv_bipush (v := (120 : Int32)) hx hb d_M_act_73 rfl ?_
      refine lv_icmp_eq (tgt := 105) hx hb d_M_act_75 (by decide) (fun c_75 => ?_) (fun c_75 => ?_)
      · exact b105 (sV (sA (sV Z 6 t0) 4 x1.toNatClampNeg x2) 5 ((Z.1 5) + (0 : Int32))) x1 x2 H locs hP hS ((by first | with_reducible exact TI_a0 hT | with_reducible exact TI_a1 hT (hc.resolve_left c_60))) (by assumption) ls (lv_sub hl [0, 1, 2] rfl) (by rw [hq, s_M_act_b41, if_pos c_60, if_pos c_75])
      · refine lv_aload_n hx hb d_M_act_78 rfl (lv_at hl 0 rfl) ?_
        refine lv_bipush (v := (32 : Int32)) hx hb d_M_act_79 rfl ?_
        refine k_mvv (rest := []) (c_M_takes l E ad X (sV (sA (sV Z 6 t0) 4 x1.toNatClampNeg x2) 5 ((Z.1 5) + (0 : Int32))) A (32 : Int32) (by first | with_reducible exact TI_a0 hT | with_reducible exact TI_a1 hT (hc.resolve_left c_60))) mi_M_takes ml_M_231 hx hb hml hts hown hK hP hD hS rvM hl ⟨rfl, rfl⟩ ⟨(Nat.le_of_ble_eq_true rfl), (Nat.le_of_ble_eq_true rfl)⟩ ⟨Nat.zero_le _, Nat.zero_le _⟩ rfl (Nat.le_of_ble_eq_true rfl) rfl d_M_act_81 (fun H locs hP hS => ?_)
        have hP : va_P E.1 vwCl (wm E ad (s_M_takes (sV (sA (sV Z 6 t0) 4 x1.toNatClampNeg x2) 5 ((Z.1 5) + (0 : Int32))) (32 : Int32)) ++ X) H := hP
        refine lv_aload_n hx hb d_M_act_84 rfl (lv_at hl 0 rfl) ?_
        refine g_M_firsts hx hb hts hown hK hP d_M_act_85 ?_
        refine lv_iload_n hx hb d_M_act_88 rfl (lv_at hl 1 rfl) ?_
        refine lv_aload_n hx hb d_M_act_89 rfl (lv_at hl 0 rfl) ?_
        refine lv_iload_n hx hb d_M_act_90 rfl (lv_at hl 2 rfl) ?_
        refine lv_bipush (v := (119 : Int32)) hx hb d_M_act_91 rfl ?_
        refine lv_icmp_ne (tgt := 100) hx hb d_M_act_93 (by decide) (fun c_93 => ?_) (fun c_93 => ?_)
        · refine lv_iconst (v := (0 : Int32)) hx hb d_M_act_100 rfl ?_
          exact b101 (s_M_takes (sV (sA (sV Z 6 t0) 4 x1.toNatClampNeg x2) 5 ((Z.1 5) + (0 : Int32))) (32 : Int32)) x1 x2 (0 : Int32) x1 H locs hP hS (TI_takes (by first | with_reducible exact TI_a0 hT | with_reducible exact TI_a1 hT (hc.resolve_left c_60)) (by decide)) (by assumption) (hk) (Or.inl rfl) ls (lv_sub hl [0, 1, 2] rfl) (by rw [hq, s_M_act_b41, if_pos c_60, if_neg c_75, if_neg c_93])
        · refine lv_iconst (v := (1 : Int32)) hx hb d_M_act_96 rfl ?_
          refine lv_goto (tgt := 101) hx hb d_M_act_97 (by decide) ?_
          exact b101 (s_M_takes (sV (sA (sV Z 6 t0) 4 x1.toNatClampNeg x2) 5 ((Z.1 5) + (0 : Int32))) (32 : Int32)) x1 x2 (1 : Int32) x1 H locs hP hS (TI_takes (by first | with_reducible exact TI_a0 hT | with_reducible exact TI_a1 hT (hc.resolve_left c_60)) (by decide)) (by assumption) (hk) (Or.inr rfl) ls (lv_sub hl [0, 1, 2] rfl) (by rw [hq, s_M_act_b41, if_pos c_60, if_neg c_75, if_pos c_93])
    · refine lv_iconst (v := (1 : Int32)) hx hb d_M_act_63 rfl ?_
      refine lv_goto (tgt := 68) hx hb d_M_act_64 (by decide) ?_
      refine lv_iadd hx hb d_M_act_68 ?_
      refine p_M_at hx hb hts hown hK hP hD hS d_M_act_69 (fun H locs hP hS => ?_)
      have hP : va_P E.1 vwCl (wm E ad (sV (sA (sV Z 6 t0) 4 x1.toNatClampNeg x2) 5 ((Z.1 5) + (1 : Int32))) ++ X) H := hP
      refine lv_iload_n hx hb d_M_act_72 rfl (lv_at hl 2 rfl) ?_
      refine lv_bipush (v := (120 : Int32)) hx hb d_M_act_73 rfl ?_
      refine lv_icmp_eq (tgt := 105) hx hb d_M_act_75 (by decide) (fun c_75 => ?_) (fun c_75 => ?_)
      · exact b105 (sV (sA (sV Z 6 t0) 4 x1.toNatClampNeg x2) 5 ((Z.1 5) + (1 : Int32))) x1 x2 H locs hP hS ((by first | with_reducible exact TI_a0 hT | with_reducible exact TI_a1 hT (hc.resolve_left c_60))) (by assumption) ls (lv_sub hl [0, 1, 2] rfl) (by rw [hq, s_M_act_b41, if_neg c_60, if_pos c_75])
      · refine lv_aload_n hx hb d_M_act_78 rfl (lv_at hl 0 rfl) ?_
        refine lv_bipush (v := (32 : Int32)) hx hb d_M_act_79 rfl ?_
        refine k_mvv (rest := []) (c_M_takes l E ad X (sV (sA (sV Z 6 t0) 4 x1.toNatClampNeg x2) 5 ((Z.1 5) + (1 : Int32))) A (32 : Int32) (by first | with_reducible exact TI_a0 hT | with_reducible exact TI_a1 hT (hc.resolve_left c_60))) mi_M_takes ml_M_231 hx hb hml hts hown hK hP hD hS rvM hl ⟨rfl, rfl⟩ ⟨(Nat.le_of_ble_eq_true rfl), (Nat.le_of_ble_eq_true rfl)⟩ ⟨Nat.zero_le _, Nat.zero_le _⟩ rfl (Nat.le_of_ble_eq_true rfl) rfl d_M_act_81 (fun H locs hP hS => ?_)
        have hP : va_P E.1 vwCl (wm E ad (s_M_takes (sV (sA (sV Z 6 t0) 4 x1.toNatClampNeg x2) 5 ((Z.1 5) + (1 : Int32))) (32 : Int32)) ++ X) H := hP
        refine lv_aload_n hx hb d_M_act_84 rfl (lv_at hl 0 rfl) ?_
        refine g_M_firsts hx hb hts hown hK hP d_M_act_85 ?_
        refine lv_iload_n hx hb d_M_act_88 rfl (lv_at hl 1 rfl) ?_
        refine lv_aload_n hx hb d_M_act_89 rfl (lv_at hl 0 rfl) ?_
        refine lv_iload_n hx hb d_M_act_90 rfl (lv_at hl 2 rfl) ?_
        refine lv_bipush (v := (119 : Int32)) hx hb d_M_act_91 rfl ?_
        refine lv_icmp_ne (tgt := 100) hx hb d_M_act_93 (by decide) (fun c_93 => ?_) (fun c_93 => ?_)
        · refine lv_iconst (v := (0 : Int32)) hx hb d_M_act_100 rfl ?_
          exact b101 (s_M_takes (sV (sA (sV Z 6 t0) 4 x1.toNatClampNeg x2) 5 ((Z.1 5) + (1 : Int32))) (32 : Int32)) x1 x2 (0 : Int32) x1 H locs hP hS (TI_takes (by first | with_reducible exact TI_a0 hT | with_reducible exact TI_a1 hT (hc.resolve_left c_60)) (by decide)) (by assumption) (hk) (Or.inl rfl) ls (lv_sub hl [0, 1, 2] rfl) (by rw [hq, s_M_act_b41, if_neg c_60, if_neg c_75, if_neg c_93])
        · refine lv_iconst (v := (1 : Int32)) hx hb d_M_act_96 rfl ?_
          refine lv_goto (tgt := 101) hx hb d_M_act_97 (by decide) ?_
          exact b101 (s_M_takes (sV (sA (sV Z 6 t0) 4 x1.toNatClampNeg x2) 5 ((Z.1 5) + (1 : Int32))) (32 : Int32)) x1 x2 (1 : Int32) x1 H locs hP hS (TI_takes (by first | with_reducible exact TI_a0 hT | with_reducible exact TI_a1 hT (hc.resolve_left c_60)) (by decide)) (by assumption) (hk) (Or.inr rfl) ls (lv_sub hl [0, 1, 2] rfl) (by rw [hq, s_M_act_b41, if_neg c_60, if_neg c_75, if_pos c_93])
  refine lv_aload_n hx hb d_M_act_0 rfl (lv_at hl 0 rfl) ?_
  refine k_vi (rest := []) (c_M_here l E ad X S (by assumption)) mi_M_here ml_M_220 hx hb hml hts hown hK hP rvM hl ⟨rfl, rfl⟩ ⟨(Nat.le_of_ble_eq_true rfl), (Nat.le_of_ble_eq_true rfl)⟩ ⟨Nat.zero_le _, Nat.zero_le _⟩ rfl (Nat.le_of_ble_eq_true rfl) rfl d_M_act_1 ?_
  refine lv_istore_n (lv' := [(2, .int (s_M_here S)), (0, .ref (ad 0)), (1, .int a1)]) hx hb d_M_act_4 rfl hl (by decide) rfl (fun ls hl => ?_)
  refine lv_aload_n hx hb d_M_act_5 rfl (lv_at hl 1 rfl) ?_
  refine lv_iload_n hx hb d_M_act_6 rfl (lv_at hl 0 rfl) ?_
  refine lv_bipush (v := (119 : Int32)) hx hb d_M_act_7 rfl ?_
  refine lv_icmp_eq (tgt := 36) hx hb d_M_act_9 (by decide) (fun c_9 => ?_) (fun c_9 => ?_)
  · refine lv_iconst (v := (1 : Int32)) hx hb d_M_act_36 rfl ?_
    refine lv_goto (tgt := 41) hx hb d_M_act_37 (by decide) ?_
    exact b41 S a1 (s_M_here S) (1 : Int32) s.heap [] hP hS (by assumption) (by assumption) ((by first | exact Or.inl rfl | exact Or.inr (here_lt c_9 (by decide)) | exact Or.inr (here_lt c_15 (by decide)) | exact Or.inr (here_lt c_21 (by decide)) | exact Or.inr (here_lt c_27 (by decide)) | exact Or.inr (here_lt c_33 (by decide)))) (Or.inr rfl) ls (lv_sub hl [1, 2, 0] rfl) (by rw [s_M_act, if_pos c_9])
  · refine lv_iload_n hx hb d_M_act_12 rfl (lv_at hl 0 rfl) ?_
    refine lv_bipush (v := (115 : Int32)) hx hb d_M_act_13 rfl ?_
    refine lv_icmp_eq (tgt := 36) hx hb d_M_act_15 (by decide) (fun c_15 => ?_) (fun c_15 => ?_)
    · refine lv_iconst (v := (1 : Int32)) hx hb d_M_act_36 rfl ?_
      refine lv_goto (tgt := 41) hx hb d_M_act_37 (by decide) ?_
      exact b41 S a1 (s_M_here S) (1 : Int32) s.heap [] hP hS (by assumption) (by assumption) ((by first | exact Or.inl rfl | exact Or.inr (here_lt c_9 (by decide)) | exact Or.inr (here_lt c_15 (by decide)) | exact Or.inr (here_lt c_21 (by decide)) | exact Or.inr (here_lt c_27 (by decide)) | exact Or.inr (here_lt c_33 (by decide)))) (Or.inr rfl) ls (lv_sub hl [1, 2, 0] rfl) (by rw [s_M_act, if_neg c_9, if_pos c_15])
    · refine lv_iload_n hx hb d_M_act_18 rfl (lv_at hl 0 rfl) ?_
      refine lv_bipush (v := (112 : Int32)) hx hb d_M_act_19 rfl ?_
      refine lv_icmp_eq (tgt := 36) hx hb d_M_act_21 (by decide) (fun c_21 => ?_) (fun c_21 => ?_)
      · refine lv_iconst (v := (1 : Int32)) hx hb d_M_act_36 rfl ?_
        refine lv_goto (tgt := 41) hx hb d_M_act_37 (by decide) ?_
        exact b41 S a1 (s_M_here S) (1 : Int32) s.heap [] hP hS (by assumption) (by assumption) ((by first | exact Or.inl rfl | exact Or.inr (here_lt c_9 (by decide)) | exact Or.inr (here_lt c_15 (by decide)) | exact Or.inr (here_lt c_21 (by decide)) | exact Or.inr (here_lt c_27 (by decide)) | exact Or.inr (here_lt c_33 (by decide)))) (Or.inr rfl) ls (lv_sub hl [1, 2, 0] rfl) (by rw [s_M_act, if_neg c_9, if_neg c_15, if_pos c_21])
      · refine lv_iload_n hx hb d_M_act_24 rfl (lv_at hl 0 rfl) ?_
        refine lv_bipush (v := (116 : Int32)) hx hb d_M_act_25 rfl ?_
        refine lv_icmp_eq (tgt := 36) hx hb d_M_act_27 (by decide) (fun c_27 => ?_) (fun c_27 => ?_)
        · refine lv_iconst (v := (1 : Int32)) hx hb d_M_act_36 rfl ?_
          refine lv_goto (tgt := 41) hx hb d_M_act_37 (by decide) ?_
          exact b41 S a1 (s_M_here S) (1 : Int32) s.heap [] hP hS (by assumption) (by assumption) ((by first | exact Or.inl rfl | exact Or.inr (here_lt c_9 (by decide)) | exact Or.inr (here_lt c_15 (by decide)) | exact Or.inr (here_lt c_21 (by decide)) | exact Or.inr (here_lt c_27 (by decide)) | exact Or.inr (here_lt c_33 (by decide)))) (Or.inr rfl) ls (lv_sub hl [1, 2, 0] rfl) (by rw [s_M_act, if_neg c_9, if_neg c_15, if_neg c_21, if_pos c_27])
        · refine lv_iload_n hx hb d_M_act_30 rfl (lv_at hl 0 rfl) ?_
          refine lv_bipush (v := (120 : Int32)) hx hb d_M_act_31 rfl ?_
          refine lv_icmp_ne (tgt := 40) hx hb d_M_act_33 (by decide) (fun c_33 => ?_) (fun c_33 => ?_)
          · refine lv_iconst (v := (0 : Int32)) hx hb d_M_act_40 rfl ?_
            exact b41 S a1 (s_M_here S) (0 : Int32) s.heap [] hP hS (by assumption) (by assumption) ((by first | exact Or.inl rfl | exact Or.inr (here_lt c_9 (by decide)) | exact Or.inr (here_lt c_15 (by decide)) | exact Or.inr (here_lt c_21 (by decide)) | exact Or.inr (here_lt c_27 (by decide)) | exact Or.inr (here_lt c_33 (by decide)))) (Or.inl rfl) ls (lv_sub hl [1, 2, 0] rfl) (by rw [s_M_act, if_neg c_9, if_neg c_15, if_neg c_21, if_neg c_27, if_neg c_33])
          · refine lv_iconst (v := (1 : Int32)) hx hb d_M_act_36 rfl ?_
            refine lv_goto (tgt := 41) hx hb d_M_act_37 (by decide) ?_
            exact b41 S a1 (s_M_here S) (1 : Int32) s.heap [] hP hS (by assumption) (by assumption) ((by first | exact Or.inl rfl | exact Or.inr (here_lt c_9 (by decide)) | exact Or.inr (here_lt c_15 (by decide)) | exact Or.inr (here_lt c_21 (by decide)) | exact Or.inr (here_lt c_27 (by decide)) | exact Or.inr (here_lt c_33 (by decide)))) (Or.inr rfl) ls (lv_sub hl [1, 2, 0] rfl) (by rw [s_M_act, if_neg c_9, if_neg c_15, if_neg c_21, if_neg c_27, if_pos c_33])
