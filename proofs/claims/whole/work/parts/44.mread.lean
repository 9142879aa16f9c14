/-! by program (wip/whole/mdl.py) -/
def s_M_isDone (S : St) (a1 : Int32) : Int32 × St := (if (S.2.1 4 a1.toNatClampNeg) = 112 then (if (s_M_pressure S (S.2.1 5 a1.toNatClampNeg)).1 < 0 then ((0 : Int32), (s_M_pressure S (S.2.1 5 a1.toNatClampNeg)).2) else ((1 : Int32), (s_M_pressure S (S.2.1 5 a1.toNatClampNeg)).2)) else (if (S.2.1 4 a1.toNatClampNeg) = 115 then (if (s_M_shift S (S.2.1 5 a1.toNatClampNeg) (S.2.1 6 a1.toNatClampNeg)).1 = (-1000 : Int32) then ((0 : Int32), (s_M_shift S (S.2.1 5 a1.toNatClampNeg) (S.2.1 6 a1.toNatClampNeg)).2) else ((1 : Int32), (s_M_shift S (S.2.1 5 a1.toNatClampNeg) (S.2.1 6 a1.toNatClampNeg)).2)) else (if (S.2.1 4 a1.toNatClampNeg) = 116 then (if (s_M_pair S (S.2.1 5 a1.toNatClampNeg) (S.2.1 6 a1.toNatClampNeg)).1 < 0 then ((0 : Int32), (s_M_pair S (S.2.1 5 a1.toNatClampNeg) (S.2.1 6 a1.toNatClampNeg)).2) else ((1 : Int32), (s_M_pair S (S.2.1 5 a1.toNatClampNeg) (S.2.1 6 a1.toNatClampNeg)).2)) else (if (S.2.1 4 a1.toNatClampNeg) = 119 then (if (s_M_wheel S (S.2.1 5 a1.toNatClampNeg)).1 < 0 then ((0 : Int32), (s_M_wheel S (S.2.1 5 a1.toNatClampNeg)).2) else ((1 : Int32), (s_M_wheel S (S.2.1 5 a1.toNatClampNeg)).2)) else (if (s_M_clear S).1 < 0 then ((0 : Int32), (s_M_clear S).2) else ((1 : Int32), (s_M_clear S).2))))))
theorem z_M_isDone (S : St) (a1 : Int32) : (s_M_isDone S a1).1 = 0 ∨ (s_M_isDone S a1).1 = 1 := by rw [s_M_isDone]; exact (ite_z1 (ite_z1 (Or.inl rfl) (Or.inr rfl)) (ite_z1 (ite_z1 (Or.inl rfl) (Or.inr rfl)) (ite_z1 (ite_z1 (Or.inl rfl) (Or.inr rfl)) (ite_z1 (ite_z1 (Or.inl rfl) (Or.inr rfl)) (ite_z1 (Or.inl rfl) (Or.inr rfl))))))
set_option maxRecDepth 20000 in
theorem c_M_isDone (l : Launch) (E : Cx) (ad : Nat → Nat) (X : va_W) (S : St) (A : Nat → Prop) (a1 : Int32) (hG : GI (S.2.1 0)) (hk : w41 a1) : Met l y_M_isDone (Cond.code y_M_isDone b_M_isDone 2 (some .boolean) :: TB) (rk 4 90) (va_Pc [.ref (ad 0), .int a1] (preM E A (fun S => wm E ad S ++ X) S)) (va_Qi (fun r u => (r, u) = (s_M_isDone S a1)) (fun u t => va_P E.1 vwCl ((fun S => wm E ad S ++ X) u) t.heap) A) 0 0 A := by
  refine w_muI rfl (Nat.le_of_ble_eq_true rfl) (k_nb (z_M_isDone S a1)) ?_
  intro p e s m args below meth c Q ls hx hb hml hts hown hP hK hD hS hl hend
  have hl : lv_has ls 2 [(0, .ref (ad 0)), (1, .int a1)] := hl
  have hP : va_P E.1 vwCl (wm E ad S ++ X) s.heap := hP
  have hown : s.vm.findClass R_M = some m.cls := hown
  have hD : ∀ S' : St, va_D A (wm E ad S' ++ X) := hD
  refine lv_aload_n hx hb d_M_isDone_0 rfl (lv_at hl 0 rfl) ?_
  refine g_M_letters hx hb hts hown hK hP d_M_isDone_1 ?_
  refine lv_iload_n hx hb d_M_isDone_4 rfl (lv_at hl 1 rfl) ?_
  refine lm_letters hx hb hK hP (k := a1.toNatClampNeg) (v := (S.2.1 4 a1.toNatClampNeg)) rfl rfl (w41_ix hk) d_M_isDone_5 ?_
  by_cases c_6_112 : (S.2.1 4 a1.toNatClampNeg) = (112 : Int32)
  · refine lv_tableIn (x := (S.2.1 4 a1.toNatClampNeg)) (off := 93) (tgt := 99) hx hb d_M_isDone_6 (by rw [c_6_112]; decide) (by rw [c_6_112]; decide) (by rw [c_6_112]; rfl) (by decide) ?_
    refine lv_aload_n hx hb d_M_isDone_99 rfl (lv_at hl 0 rfl) ?_
    refine lv_aload_n hx hb d_M_isDone_100 rfl (lv_at hl 0 rfl) ?_
    refine g_M_firsts hx hb hts hown hK hP d_M_isDone_101 ?_
    refine lv_iload_n hx hb d_M_isDone_104 rfl (lv_at hl 1 rfl) ?_
    refine lm_firsts hx hb hK hP (k := a1.toNatClampNeg) (v := (S.2.1 5 a1.toNatClampNeg)) rfl rfl (w41_ix hk) d_M_isDone_105 ?_
    refine k_mvi (rest := []) (c_M_pressure l E ad X S A (S.2.1 5 a1.toNatClampNeg)) mi_M_pressure ml_M_245 hx hb hml hts hown hK hP hD hS rvM hl ⟨rfl, rfl⟩ ⟨(Nat.le_of_ble_eq_true rfl), (Nat.le_of_ble_eq_true rfl)⟩ ⟨Nat.zero_le _, Nat.zero_le _⟩ rfl (Nat.le_of_ble_eq_true rfl) rfl d_M_isDone_106 (fun H locs hP hS => ?_)
    have hP : va_P E.1 vwCl (wm E ad (s_M_pressure S (S.2.1 5 a1.toNatClampNeg)).2 ++ X) H := hP
    refine lv_if_lt (tgt := 116) hx hb d_M_isDone_109 (by decide) (fun c_109 => ?_) (fun c_109 => ?_)
    · refine lv_iconst (v := (0 : Int32)) hx hb d_M_isDone_116 rfl ?_
      exact hend _ _ _ _ _ _ (by rw [s_M_isDone, if_pos c_6_112, if_pos c_109]) hP hS d_M_isDone_117
    · refine lv_iconst (v := (1 : Int32)) hx hb d_M_isDone_112 rfl ?_
      refine lv_goto (tgt := 117) hx hb d_M_isDone_113 (by decide) ?_
      exact hend _ _ _ _ _ _ (by rw [s_M_isDone, if_pos c_6_112, if_neg c_109]) hP hS d_M_isDone_117
  by_cases c_6_115 : (S.2.1 4 a1.toNatClampNeg) = (115 : Int32)
  · refine lv_tableIn (x := (S.2.1 4 a1.toNatClampNeg)) (off := 65) (tgt := 71) hx hb d_M_isDone_6 (by rw [c_6_115]; decide) (by rw [c_6_115]; decide) (by rw [c_6_115]; rfl) (by decide) ?_
    refine lv_aload_n hx hb d_M_isDone_71 rfl (lv_at hl 0 rfl) ?_
    refine lv_aload_n hx hb d_M_isDone_72 rfl (lv_at hl 0 rfl) ?_
    refine g_M_firsts hx hb hts hown hK hP d_M_isDone_73 ?_
    refine lv_iload_n hx hb d_M_isDone_76 rfl (lv_at hl 1 rfl) ?_
    refine lm_firsts hx hb hK hP (k := a1.toNatClampNeg) (v := (S.2.1 5 a1.toNatClampNeg)) rfl rfl (w41_ix hk) d_M_isDone_77 ?_
    refine lv_aload_n hx hb d_M_isDone_78 rfl (lv_at hl 0 rfl) ?_
    refine g_M_seconds hx hb hts hown hK hP d_M_isDone_79 ?_
    refine lv_iload_n hx hb d_M_isDone_82 rfl (lv_at hl 1 rfl) ?_
    refine lm_seconds hx hb hK hP (k := a1.toNatClampNeg) (v := (S.2.1 6 a1.toNatClampNeg)) rfl rfl (w41_ix hk) d_M_isDone_83 ?_
    refine k_mvi (rest := []) (c_M_shift l E ad X S A (S.2.1 5 a1.toNatClampNeg) (S.2.1 6 a1.toNatClampNeg) hG) mi_M_shift ml_M_242 hx hb hml hts hown hK hP hD hS rvM hl ⟨rfl, rfl⟩ ⟨(Nat.le_of_ble_eq_true rfl), (Nat.le_of_ble_eq_true rfl)⟩ ⟨Nat.zero_le _, Nat.zero_le _⟩ rfl (Nat.le_of_ble_eq_true rfl) rfl d_M_isDone_84 (fun H locs hP hS => ?_)
    have hP : va_P E.1 vwCl (wm E ad (s_M_shift S (S.2.1 5 a1.toNatClampNeg) (S.2.1 6 a1.toNatClampNeg)).2 ++ X) H := hP
    refine lv_sipush (v := (-1000 : Int32)) hx hb d_M_isDone_87 rfl ?_
    refine lv_icmp_eq (tgt := 97) hx hb d_M_isDone_90 (by decide) (fun c_90 => ?_) (fun c_90 => ?_)
    · refine lv_iconst (v := (0 : Int32)) hx hb d_M_isDone_97 rfl ?_
      exact hend _ _ _ _ _ _ (by rw [s_M_isDone, if_neg c_6_112, if_pos c_6_115, if_pos c_90]) hP hS d_M_isDone_98
    · refine lv_iconst (v := (1 : Int32)) hx hb d_M_isDone_93 rfl ?_
      refine lv_goto (tgt := 98) hx hb d_M_isDone_94 (by decide) ?_
      exact hend _ _ _ _ _ _ (by rw [s_M_isDone, if_neg c_6_112, if_pos c_6_115, if_neg c_90]) hP hS d_M_isDone_98
  by_cases c_6_116 : (S.2.1 4 a1.toNatClampNeg) = (116 : Int32)
  · refine lv_tableIn (x := (S.2.1 4 a1.toNatClampNeg)) (off := 112) (tgt := 118) hx hb d_M_isDone_6 (by rw [c_6_116]; decide) (by rw [c_6_116]; decide) (by rw [c_6_116]; rfl) (by decide) ?_
    refine lv_aload_n hx hb d_M_isDone_118 rfl (lv_at hl 0 rfl) ?_
    refine lv_aload_n hx hb d_M_isDone_119 rfl (lv_at hl 0 rfl) ?_
    refine g_M_firsts hx hb hts hown hK hP d_M_isDone_120 ?_
    refine lv_iload_n hx hb d_M_isDone_123 rfl (lv_at hl 1 rfl) ?_
    refine lm_firsts hx hb hK hP (k := a1.toNatClampNeg) (v := (S.2.1 5 a1.toNatClampNeg)) rfl rfl (w41_ix hk) d_M_isDone_124 ?_
    refine lv_aload_n hx hb d_M_isDone_125 rfl (lv_at hl 0 rfl) ?_
    refine g_M_seconds hx hb hts hown hK hP d_M_isDone_126 ?_
    refine lv_iload_n hx hb d_M_isDone_129 rfl (lv_at hl 1 rfl) ?_
    refine lm_seconds hx hb hK hP (k := a1.toNatClampNeg) (v := (S.2.1 6 a1.toNatClampNeg)) rfl rfl (w41_ix hk) d_M_isDone_130 ?_
    refine k_mvi (rest := []) (c_M_pair l E ad X S A (S.2.1 5 a1.toNatClampNeg) (S.2.1 6 a1.toNatClampNeg) hG) mi_M_pair ml_M_248 hx hb hml hts hown hK hP hD hS rvM hl ⟨rfl, rfl⟩ ⟨(Nat.le_of_ble_eq_true rfl), (Nat.le_of_ble_eq_true rfl)⟩ ⟨Nat.zero_le _, Nat.zero_le _⟩ rfl (Nat.le_of_ble_eq_true rfl) rfl d_M_isDone_131 (fun H locs hP hS => ?_)
    have hP : va_P E.1 vwCl (wm E ad (s_M_pair S (S.2.1 5 a1.toNatClampNeg) (S.2.1 6 a1.toNatClampNeg)).2 ++ X) H := hP
    refine lv_if_lt (tgt := 141) hx hb d_M_isDone_134 (by decide) (fun c_134 => ?_) (fun c_134 => ?_)
    · refine lv_iconst (v := (0 : Int32)) hx hb d_M_isDone_141 rfl ?_
      exact hend _ _ _ _ _ _ (by rw [s_M_isDone, if_neg c_6_112, if_neg c_6_115, if_pos c_6_116, if_pos c_134]) hP hS d_M_isDone_142
    · refine lv_iconst (v := (1 : Int32)) hx hb d_M_isDone_137 rfl ?_
      refine lv_goto (tgt := 142) hx hb d_M_isDone_138 (by decide) ?_
      exact hend _ _ _ _ _ _ (by rw [s_M_isDone, if_neg c_6_112, if_neg c_6_115, if_pos c_6_116, if_neg c_134]) hP hS d_M_isDone_142
  by_cases c_6_119 : (S.2.1 4 a1.toNatClampNeg) = (119 : Int32)
  · refine lv_tableIn (x := (S.2.1 4 a1.toNatClampNeg)) (off := 46) (tgt := 52) hx hb d_M_isDone_6 (by rw [c_6_119]; decide) (by rw [c_6_119]; decide) (by rw [c_6_119]; rfl) (by decide) ?_
    refine lv_aload_n hx hb d_M_isDone_52 rfl (lv_at hl 0 rfl) ?_
    refine lv_aload_n hx hb d_M_isDone_53 rfl (lv_at hl 0 rfl) ?_
    refine g_M_firsts hx hb hts hown hK hP d_M_isDone_54 ?_
    refine lv_iload_n hx hb d_M_isDone_57 rfl (lv_at hl 1 rfl) ?_
    refine lm_firsts hx hb hK hP (k := a1.toNatClampNeg) (v := (S.2.1 5 a1.toNatClampNeg)) rfl rfl (w41_ix hk) d_M_isDone_58 ?_
    refine k_mvi (rest := []) (c_M_wheel l E ad X S A (S.2.1 5 a1.toNatClampNeg) hG) mi_M_wheel ml_M_239 hx hb hml hts hown hK hP hD hS rvM hl ⟨rfl, rfl⟩ ⟨(Nat.le_of_ble_eq_true rfl), (Nat.le_of_ble_eq_true rfl)⟩ ⟨Nat.zero_le _, Nat.zero_le _⟩ rfl (Nat.le_of_ble_eq_true rfl) rfl d_M_isDone_59 (fun H locs hP hS => ?_)
    have hP : va_P E.1 vwCl (wm E ad (s_M_wheel S (S.2.1 5 a1.toNatClampNeg)).2 ++ X) H := hP
    refine lv_if_lt (tgt := 69) hx hb d_M_isDone_62 (by decide) (fun c_62 => ?_) (fun c_62 => ?_)
    · refine lv_iconst (v := (0 : Int32)) hx hb d_M_isDone_69 rfl ?_
      exact hend _ _ _ _ _ _ (by rw [s_M_isDone, if_neg c_6_112, if_neg c_6_115, if_neg c_6_116, if_pos c_6_119, if_pos c_62]) hP hS d_M_isDone_70
    · refine lv_iconst (v := (1 : Int32)) hx hb d_M_isDone_65 rfl ?_
      refine lv_goto (tgt := 70) hx hb d_M_isDone_66 (by decide) ?_
      exact hend _ _ _ _ _ _ (by rw [s_M_isDone, if_neg c_6_112, if_neg c_6_115, if_neg c_6_116, if_pos c_6_119, if_neg c_62]) hP hS d_M_isDone_70
  have kd : W p l e (rk 4 90) s m args below meth c s.heap [] 0 0 Q (F0 m 143 ls []) := by
    refine lv_aload_n hx hb d_M_isDone_143 rfl (lv_at hl 0 rfl) ?_
    refine k_mvi (rest := []) (c_M_clear l E ad X S A) mi_M_clear ml_M_251 hx hb hml hts hown hK hP hD hS rvM hl ⟨rfl, rfl⟩ ⟨(Nat.le_of_ble_eq_true rfl), (Nat.le_of_ble_eq_true rfl)⟩ ⟨Nat.zero_le _, Nat.zero_le _⟩ rfl (Nat.le_of_ble_eq_true rfl) rfl d_M_isDone_144 (fun H locs hP hS => ?_)
    have hP : va_P E.1 vwCl (wm E ad (s_M_clear S).2 ++ X) H := hP
    refine lv_if_lt (tgt := 154) hx hb d_M_isDone_147 (by decide) (fun c_147 => ?_) (fun c_147 => ?_)
    · refine lv_iconst (v := (0 : Int32)) hx hb d_M_isDone_154 rfl ?_
      exact hend _ _ _ _ _ _ (by rw [s_M_isDone, if_neg c_6_112, if_neg c_6_115, if_neg c_6_116, if_neg c_6_119, if_pos c_147]) hP hS d_M_isDone_155
    · refine lv_iconst (v := (1 : Int32)) hx hb d_M_isDone_150 rfl ?_
      refine lv_goto (tgt := 155) hx hb d_M_isDone_151 (by decide) ?_
      exact hend _ _ _ _ _ _ (by rw [s_M_isDone, if_neg c_6_112, if_neg c_6_115, if_neg c_6_116, if_neg c_6_119, if_neg c_147]) hP hS d_M_isDone_155
  by_cases e_113 : (S.2.1 4 a1.toNatClampNeg) = (113 : Int32)
  · exact lv_tableIn (x := (S.2.1 4 a1.toNatClampNeg)) (off := 137) (tgt := 143) hx hb d_M_isDone_6 (by rw [e_113]; decide) (by rw [e_113]; decide) (by rw [e_113]; rfl) (by decide) kd
  by_cases e_114 : (S.2.1 4 a1.toNatClampNeg) = (114 : Int32)
  · exact lv_tableIn (x := (S.2.1 4 a1.toNatClampNeg)) (off := 137) (tgt := 143) hx hb d_M_isDone_6 (by rw [e_114]; decide) (by rw [e_114]; decide) (by rw [e_114]; rfl) (by decide) kd
  by_cases e_117 : (S.2.1 4 a1.toNatClampNeg) = (117 : Int32)
  · exact lv_tableIn (x := (S.2.1 4 a1.toNatClampNeg)) (off := 137) (tgt := 143) hx hb d_M_isDone_6 (by rw [e_117]; decide) (by rw [e_117]; decide) (by rw [e_117]; rfl) (by decide) kd
  by_cases e_118 : (S.2.1 4 a1.toNatClampNeg) = (118 : Int32)
  · exact lv_tableIn (x := (S.2.1 4 a1.toNatClampNeg)) (off := 137) (tgt := 143) hx hb d_M_isDone_6 (by rw [e_118]; decide) (by rw [e_118]; decide) (by rw [e_118]; rfl) (by decide) kd
  have n_0 := lv_neT c_6_112 (a := 112) rfl
  have n_1 := lv_neT c_6_115 (a := 115) rfl
  have n_2 := lv_neT c_6_116 (a := 116) rfl
  have n_3 := lv_neT c_6_119 (a := 119) rfl
  have n_4 := lv_neT e_113 (a := 113) rfl
  have n_5 := lv_neT e_114 (a := 114) rfl
  have n_6 := lv_neT e_117 (a := 117) rfl
  have n_7 := lv_neT e_118 (a := 118) rfl
  exact lv_tableOut (x := (S.2.1 4 a1.toNatClampNeg)) (tgt := 143) hx hb d_M_isDone_6 (by omega) (by decide) kd
theorem GI_isDone {S : St} {k : Int32} (hG : GI (S.2.1 0)) : GI ((s_M_isDone S k).2.2.1 0) := by
  have two : ∀ {c : Prop} {dc : Decidable c} {x y : Int32} {u : St}, GI (u.2.1 0) → GI ((@ite (Int32 × St) c dc (x, u) (y, u)).2.2.1 0) := fun {c dc x y u} h => ite_P (P := fun q : Int32 × St => GI (q.2.2.1 0)) (fun _ => h) (fun _ => h)
  rw [s_M_isDone]
  refine ite_P (P := fun q : Int32 × St => GI (q.2.2.1 0)) (fun _ => two (GI_pressure hG)) (fun _ => ?_)
  refine ite_P (P := fun q : Int32 × St => GI (q.2.2.1 0)) (fun _ => two (GI_shift hG)) (fun _ => ?_)
  refine ite_P (P := fun q : Int32 × St => GI (q.2.2.1 0)) (fun _ => two (GI_pair hG)) (fun _ => ?_)
  exact ite_P (P := fun q : Int32 × St => GI (q.2.2.1 0)) (fun _ => two (GI_wheel hG)) (fun _ => two (GI_clear hG))

def s_M_read_b124 : Nat → St → Int32 → Int32 → Int32 × St
  | 0, Z, _, _ => (0, Z)
  | n + 1, Z, x1, x4 => (if x1 ≤ x4 then (x1, Z) else (if (s_M_isDone Z x4).1 = 0 then (((-200 : Int32) - x4), (s_M_copies_ahead_g (s_M_isDone Z x4).2)) else (s_M_read_b124 n (s_M_isDone Z x4).2 x1 (x4 + 1))))
def s_M_read_b14 : Nat → St → Int32 → Int32 → Int32 × St
  | 0, Z, _, _ => (0, Z)
  | n + 1, Z, x1, x2 => (if x2 = 0 then (if (Z.1 6) = 0 then (((-100 : Int32) - (Z.1 5)), (sV Z 4 (0 : Int32))) else (if (Z.1 5) = (Z.1 4) then (s_M_read_b124 ((x1).toInt.toNat + 1) (s_M_copies_g_ahead (sV Z 4 (0 : Int32))) x1 (0 : Int32)) else (((-100 : Int32) - (Z.1 5)), (sV Z 4 (0 : Int32))))) else (if ((s_M_act Z x1).1 6) = 0 then (s_M_read_b14 n (sV (s_M_act Z x1) 5 (((s_M_act Z x1).1 5) + (0 : Int32))) (x1 + 1) (0 : Int32)) else (if (s_M_here (s_M_act Z x1)) = (59 : Int32) then (s_M_read_b14 n (sV (s_M_act Z x1) 5 (((s_M_act Z x1).1 5) + (1 : Int32))) (x1 + 1) (1 : Int32)) else (s_M_read_b14 n (sV (s_M_act Z x1) 5 (((s_M_act Z x1).1 5) + (0 : Int32))) (x1 + 1) (0 : Int32)))))
def s_M_read (S : St) : Int32 × St := (s_M_read_b14 (43) (sV (sV S 5 (0 : Int32)) 6 (1 : Int32)) (0 : Int32) (1 : Int32))
set_option maxRecDepth 20000 in
theorem c_M_read (l : Launch) (E : Cx) (ad : Nat → Nat) (X : va_W) (S : St) (A : Nat → Prop) (hG : GI (S.2.1 0)) (hF : 0 ≤ (S.1 4).toInt ∧ (S.1 4).toInt ≤ 80) : Met l y_M_read (Cond.code y_M_read b_M_read 5 (some .int) :: TB) (rk 5 111) (va_Pc [.ref (ad 0)] (preM E A (fun S => wm E ad S ++ X) S)) (va_Qi (fun r u => (r, u) = (s_M_read S)) (fun u t => va_P E.1 vwCl ((fun S => wm E ad S ++ X) u) t.heap) A) 0 0 A := by
  refine w_muI rfl (Nat.le_of_ble_eq_true rfl) rfl ?_
  intro p e s m args below meth c Q ls hx hb hml hts hown hP hK hD hS hl hend
  have hl : lv_has ls 5 [(0, .ref (ad 0))] := hl
  have hP : va_P E.1 vwCl (wm E ad S ++ X) s.heap := hP
  have hown : s.vm.findClass R_M = some m.cls := hown
  have hD : ∀ S' : St, va_D A (wm E ad S' ++ X) := hD
  have b124 : ∀ (n : Nat) (Z : St) (x1 : Int32) (x4 : Int32) (H : Heap) (locs : List Loc), va_P E.1 vwCl (wm E ad Z ++ X) H → va_S A s.heap H locs → (UP n x1 x4) → (GI (Z.2.1 0)) → (x1.toInt ≤ 41) → ∀ (ls : Array Slot), lv_has ls 5 [(0, .ref (ad 0)), (1, .int x1), (4, .int x4)] → (s_M_read S) = s_M_read_b124 n Z x1 x4 → W p l e (rk 5 111) s m args below meth c H locs 0 0 Q (F0 m 124 ls []) := by
    intro n124
    induction n124 with
    | zero => intro Z x1 x4 H locs hP hS hv; exact absurd hv (UP_z)
    | succ n124 ih124 =>
      intro Z x1 x4 H locs hP hS hv hZ hm ls hl hq
      refine lv_iload hx hb d_M_read_124 (lv_at hl 2 rfl) ?_
      refine lv_iload_n hx hb d_M_read_126 rfl (lv_at hl 1 rfl) ?_
      refine lv_icmp_ge (tgt := 163) hx hb d_M_read_127 (by decide) (fun c_127 => ?_) (fun c_127 => ?_)
      · refine lv_iload_n hx hb d_M_read_163 rfl (lv_at hl 1 rfl) ?_
        exact hend _ _ _ _ _ _ (by rw [hq, s_M_read_b124, if_pos c_127]) hP hS d_M_read_164
      · refine lv_aload_n hx hb d_M_read_130 rfl (lv_at hl 0 rfl) ?_
        refine lv_iload hx hb d_M_read_131 (lv_at hl 2 rfl) ?_
        refine k_mvi (rest := []) (c_M_isDone l E ad X Z A x4 hZ (w41_of hv.2.2 c_127 hm)) mi_M_isDone ml_M_261 hx hb hml hts hown hK hP hD hS rvM hl ⟨rfl, rfl⟩ ⟨(Nat.le_of_ble_eq_true rfl), (Nat.le_of_ble_eq_true rfl)⟩ ⟨Nat.zero_le _, Nat.zero_le _⟩ rfl (Nat.le_of_ble_eq_true rfl) rfl d_M_read_133 (fun H locs hP hS => ?_)
        have hP : va_P E.1 vwCl (wm E ad (s_M_isDone Z x4).2 ++ X) H := hP
        refine lv_if_ne (tgt := 157) hx hb d_M_read_136 (by decide) (fun c_136 => ?_) (fun c_136 => ?_)
        · refine lv_iinc (v := (x4 + 1)) (lv' := [(4, .int (x4 + 1)), (0, .ref (ad 0)), (1, .int x1)]) hx hb d_M_read_157 hl (k := 2) rfl rfl (by decide) rfl (fun ls hl => ?_)
          refine lv_goto (tgt := 124) hx hb d_M_read_160 (by decide) ?_
          exact ih124 (s_M_isDone Z x4).2 x1 (x4 + 1) H locs hP hS (UP_up hv c_127) (GI_isDone hZ) (hm) ls (lv_sub hl [1, 2, 0] rfl) (by rw [hq, s_M_read_b124, if_neg c_127, if_neg c_136])
        · refine lv_aload_n hx hb d_M_read_139 rfl (lv_at hl 0 rfl) ?_
          refine g_M_ahead hx hb hts hown hK hP d_M_read_140 ?_
          refine lv_aload_n hx hb d_M_read_143 rfl (lv_at hl 0 rfl) ?_
          refine g_M_g hx hb hts hown hK hP d_M_read_144 ?_
          refine k_msv (rest := []) (c_M_copies_ahead_g l E ad X (s_M_isDone Z x4).2 A) mi_M_copies ml_M_257 hx hb hml hts hown hK hP hD hS hl ⟨rfl, rfl⟩ ⟨(Nat.le_of_ble_eq_true rfl), (Nat.le_of_ble_eq_true rfl)⟩ ⟨Nat.zero_le _, Nat.zero_le _⟩ rfl (Nat.le_of_ble_eq_true rfl) rfl d_M_read_147 (fun H locs hP hS => ?_)
          have hP : va_P E.1 vwCl (wm E ad (s_M_copies_ahead_g (s_M_isDone Z x4).2) ++ X) H := hP
          refine lv_sipush (v := (-200 : Int32)) hx hb d_M_read_150 rfl ?_
          refine lv_iload hx hb d_M_read_153 (lv_at hl 2 rfl) ?_
          refine lv_isub hx hb d_M_read_155 ?_
          exact hend _ _ _ _ _ _ (by rw [hq, s_M_read_b124, if_neg c_127, if_pos c_136]) hP hS d_M_read_156
  have b14 : ∀ (n : Nat) (Z : St) (x1 : Int32) (x2 : Int32) (H : Heap) (locs : List Loc), va_P E.1 vwCl (wm E ad Z ++ X) H → va_S A s.heap H locs → (RD n Z x1 x2) → (TI Z) → (GI (Z.2.1 0)) → ∀ (ls : Array Slot), lv_has ls 5 [(0, .ref (ad 0)), (1, .int x1), (2, .int x2)] → (s_M_read S) = s_M_read_b14 n Z x1 x2 → W p l e (rk 5 111) s m args below meth c H locs 0 0 Q (F0 m 14 ls []) := by
    intro n14
    induction n14 with
    | zero => intro Z x1 x2 H locs hP hS hv; exact absurd hv (RD_z)
    | succ n14 ih14 =>
      intro Z x1 x2 H locs hP hS hv hT hZ ls hl hq
      refine lv_iload_n hx hb d_M_read_14 rfl (lv_at hl 2 rfl) ?_
      refine lv_if_eq (tgt := 69) hx hb d_M_read_15 (by decide) (fun c_15 => ?_) (fun c_15 => ?_)
      · refine lv_aload_n hx hb d_M_read_69 rfl (lv_at hl 0 rfl) ?_
        refine g_M_goes hx hb hts hown hK hP d_M_read_70 ?_
        refine lv_if_eq (tgt := 91) hx hb d_M_read_73 (by decide) (fun c_73 => ?_) (fun c_73 => ?_)
        · refine lv_iconst (v := (0 : Int32)) hx hb d_M_read_91 rfl ?_
          refine lv_istore_n (lv' := [(3, .int (0 : Int32)), (0, .ref (ad 0)), (1, .int x1), (2, .int x2)]) hx hb d_M_read_92 rfl hl (by decide) rfl (fun ls hl => ?_)
          refine lv_aload_n hx hb d_M_read_93 rfl (lv_at hl 1 rfl) ?_
          refine lv_iconst (v := (0 : Int32)) hx hb d_M_read_94 rfl ?_
          refine p_M_fed hx hb hts hown hK hP hD hS d_M_read_95 (fun H locs hP hS => ?_)
          have hP : va_P E.1 vwCl (wm E ad (sV Z 4 (0 : Int32)) ++ X) H := hP
          refine lv_iload_n hx hb d_M_read_98 rfl (lv_at hl 0 rfl) ?_
          refine lv_if_ne (tgt := 110) hx hb d_M_read_99 (by decide) (fun c_99 => absurd c_99 (by decide)) (fun c_99 => ?_)
          refine lv_bipush (v := (-100 : Int32)) hx hb d_M_read_102 rfl ?_
          refine lv_aload_n hx hb d_M_read_104 rfl (lv_at hl 1 rfl) ?_
          refine g_M_at hx hb hts hown hK hP d_M_read_105 ?_
          refine k_topi (y := (Z.1 5)) rfl ?_
          refine lv_isub hx hb d_M_read_108 ?_
          exact hend _ _ _ _ _ _ (by rw [hq, s_M_read_b14, if_pos c_15, if_pos c_73]) hP hS d_M_read_109
        · refine lv_aload_n hx hb d_M_read_76 rfl (lv_at hl 0 rfl) ?_
          refine g_M_at hx hb hts hown hK hP d_M_read_77 ?_
          refine lv_aload_n hx hb d_M_read_80 rfl (lv_at hl 0 rfl) ?_
          refine g_M_fed hx hb hts hown hK hP d_M_read_81 ?_
          refine lv_icmp_ne (tgt := 91) hx hb d_M_read_84 (by decide) (fun c_84 => ?_) (fun c_84 => ?_)
          · refine lv_iconst (v := (0 : Int32)) hx hb d_M_read_91 rfl ?_
            refine lv_istore_n (lv' := [(3, .int (0 : Int32)), (0, .ref (ad 0)), (1, .int x1), (2, .int x2)]) hx hb d_M_read_92 rfl hl (by decide) rfl (fun ls hl => ?_)
            refine lv_aload_n hx hb d_M_read_93 rfl (lv_at hl 1 rfl) ?_
            refine lv_iconst (v := (0 : Int32)) hx hb d_M_read_94 rfl ?_
            refine p_M_fed hx hb hts hown hK hP hD hS d_M_read_95 (fun H locs hP hS => ?_)
            have hP : va_P E.1 vwCl (wm E ad (sV Z 4 (0 : Int32)) ++ X) H := hP
            refine lv_iload_n hx hb d_M_read_98 rfl (lv_at hl 0 rfl) ?_
            refine lv_if_ne (tgt := 110) hx hb d_M_read_99 (by decide) (fun c_99 => absurd c_99 (by decide)) (fun c_99 => ?_)
            refine lv_bipush (v := (-100 : Int32)) hx hb d_M_read_102 rfl ?_
            refine lv_aload_n hx hb d_M_read_104 rfl (lv_at hl 1 rfl) ?_
            refine g_M_at hx hb hts hown hK hP d_M_read_105 ?_
            refine k_topi (y := (Z.1 5)) rfl ?_
            refine lv_isub hx hb d_M_read_108 ?_
            exact hend _ _ _ _ _ _ (by rw [hq, s_M_read_b14, if_pos c_15, if_neg c_73, if_neg c_84]) hP hS d_M_read_109
          · refine lv_iconst (v := (1 : Int32)) hx hb d_M_read_87 rfl ?_
            refine lv_goto (tgt := 92) hx hb d_M_read_88 (by decide) ?_
            refine lv_istore_n (lv' := [(3, .int (1 : Int32)), (0, .ref (ad 0)), (1, .int x1), (2, .int x2)]) hx hb d_M_read_92 rfl hl (by decide) rfl (fun ls hl => ?_)
            refine lv_aload_n hx hb d_M_read_93 rfl (lv_at hl 1 rfl) ?_
            refine lv_iconst (v := (0 : Int32)) hx hb d_M_read_94 rfl ?_
            refine p_M_fed hx hb hts hown hK hP hD hS d_M_read_95 (fun H locs hP hS => ?_)
            have hP : va_P E.1 vwCl (wm E ad (sV Z 4 (0 : Int32)) ++ X) H := hP
            refine lv_iload_n hx hb d_M_read_98 rfl (lv_at hl 0 rfl) ?_
            refine lv_if_ne (tgt := 110) hx hb d_M_read_99 (by decide) (fun c_99 => ?_) (fun c_99 => absurd c_99 (by decide))
            refine lv_aload_n hx hb d_M_read_110 rfl (lv_at hl 1 rfl) ?_
            refine g_M_g hx hb hts hown hK hP d_M_read_111 ?_
            refine lv_aload_n hx hb d_M_read_114 rfl (lv_at hl 1 rfl) ?_
            refine g_M_ahead hx hb hts hown hK hP d_M_read_115 ?_
            refine k_msv (rest := []) (c_M_copies_g_ahead l E ad X (sV Z 4 (0 : Int32)) A) mi_M_copies ml_M_257 hx hb hml hts hown hK hP hD hS hl ⟨rfl, rfl⟩ ⟨(Nat.le_of_ble_eq_true rfl), (Nat.le_of_ble_eq_true rfl)⟩ ⟨Nat.zero_le _, Nat.zero_le _⟩ rfl (Nat.le_of_ble_eq_true rfl) rfl d_M_read_118 (fun H locs hP hS => ?_)
            have hP : va_P E.1 vwCl (wm E ad (s_M_copies_g_ahead (sV Z 4 (0 : Int32))) ++ X) H := hP
            refine lv_iconst (v := (0 : Int32)) hx hb d_M_read_121 rfl ?_
            refine lv_istore (lv' := [(4, .int (0 : Int32)), (3, .int (1 : Int32)), (0, .ref (ad 0)), (1, .int x1), (2, .int x2)]) hx hb d_M_read_122 hl (by decide) rfl (fun ls hl => ?_)
            exact b124 ((x1).toInt.toNat + 1) (s_M_copies_g_ahead (sV Z 4 (0 : Int32))) x1 (0 : Int32) H locs hP hS (UP_in (by decide)) (by rw [cga_g]; exact hZ) (hv.2.1.2) ls (lv_sub hl [2, 3, 0] rfl) (by rw [hq, s_M_read_b14, if_pos c_15, if_neg c_73, if_pos c_84])
      · refine lv_aload_n hx hb d_M_read_18 rfl (lv_at hl 0 rfl) ?_
        refine lv_iload_n hx hb d_M_read_19 rfl (lv_at hl 1 rfl) ?_
        refine k_mvv (rest := []) (c_M_act l E ad X Z A x1 hT (RD_41 hv hT c_15)) mi_M_act ml_M_254 hx hb hml hts hown hK hP hD hS rvM hl ⟨rfl, rfl⟩ ⟨(Nat.le_of_ble_eq_true rfl), (Nat.le_of_ble_eq_true rfl)⟩ ⟨Nat.zero_le _, Nat.zero_le _⟩ rfl (Nat.le_of_ble_eq_true rfl) rfl d_M_read_20 (fun H locs hP hS => ?_)
        have hP : va_P E.1 vwCl (wm E ad (s_M_act Z x1) ++ X) H := hP
        refine lv_iinc (v := (x1 + 1)) (lv' := [(1, .int (x1 + 1)), (0, .ref (ad 0)), (2, .int x2)]) hx hb d_M_read_23 hl (k := 1) rfl rfl (by decide) rfl (fun ls hl => ?_)
        refine lv_aload_n hx hb d_M_read_26 rfl (lv_at hl 1 rfl) ?_
        refine g_M_goes hx hb hts hown hK hP d_M_read_27 ?_
        refine lv_if_eq (tgt := 46) hx hb d_M_read_30 (by decide) (fun c_30 => ?_) (fun c_30 => ?_)
        · refine lv_iconst (v := (0 : Int32)) hx hb d_M_read_46 rfl ?_
          refine lv_istore_n (lv' := [(2, .int (0 : Int32)), (1, .int (x1 + 1)), (0, .ref (ad 0))]) hx hb d_M_read_47 rfl hl (by decide) rfl (fun ls hl => ?_)
          refine lv_aload_n hx hb d_M_read_48 rfl (lv_at hl 2 rfl) ?_
          refine lv_dup hx hb d_M_read_49 rfl ?_
          refine g_M_at hx hb hts hown hK hP d_M_read_50 ?_
          refine lv_iload_n hx hb d_M_read_53 rfl (lv_at hl 0 rfl) ?_
          refine lv_if_eq (tgt := 61) hx hb d_M_read_54 (by decide) (fun c_54 => ?_) (fun c_54 => absurd c_54 (by decide))
          refine lv_iconst (v := (0 : Int32)) hx hb d_M_read_61 rfl ?_
          refine lv_iadd hx hb d_M_read_62 ?_
          refine p_M_at hx hb hts hown hK hP hD hS d_M_read_63 (fun H locs hP hS => ?_)
          have hP : va_P E.1 vwCl (wm E ad (sV (s_M_act Z x1) 5 (((s_M_act Z x1).1 5) + (0 : Int32))) ++ X) H := hP
          refine lv_goto (tgt := 14) hx hb d_M_read_66 (by decide) ?_
          exact ih14 (sV (s_M_act Z x1) 5 (((s_M_act Z x1).1 5) + (0 : Int32))) (x1 + 1) (0 : Int32) H locs hP hS (by first | with_reducible exact RD_0 hv hT c_15 | with_reducible exact RD_1 hv hT c_15 (AC_act hT) c_30 (here_lt c_39 (by decide))) (by first | with_reducible exact TI_n0 (AC_T hT) | with_reducible exact TI_n1 (AC_T hT) (here_lt c_39 (by decide))) (act_G hT hZ) ls (lv_sub hl [2, 1, 0] rfl) (by rw [hq, s_M_read_b14, if_neg c_15, if_pos c_30])
        · refine lv_aload_n hx hb d_M_read_33 rfl (lv_at hl 1 rfl) ?_
          refine k_vi (rest := []) (c_M_here l E ad X (s_M_act Z x1) (AC_act hT).1) mi_M_here ml_M_220 hx hb hml hts hown hK hP rvM hl ⟨rfl, rfl⟩ ⟨(Nat.le_of_ble_eq_true rfl), (Nat.le_of_ble_eq_true rfl)⟩ ⟨Nat.zero_le _, Nat.zero_le _⟩ rfl (Nat.le_of_ble_eq_true rfl) rfl d_M_read_34 ?_
          refine lv_bipush (v := (59 : Int32)) hx hb d_M_read_37 rfl ?_
          refine lv_icmp_ne (tgt := 46) hx hb d_M_read_39 (by decide) (fun c_39 => ?_) (fun c_39 => ?_)
          · refine lv_iconst (v := (0 : Int32)) hx hb d_M_read_46 rfl ?_
            refine lv_istore_n (lv' := [(2, .int (0 : Int32)), (1, .int (x1 + 1)), (0, .ref (ad 0))]) hx hb d_M_read_47 rfl hl (by decide) rfl (fun ls hl => ?_)
            refine lv_aload_n hx hb d_M_read_48 rfl (lv_at hl 2 rfl) ?_
            refine lv_dup hx hb d_M_read_49 rfl ?_
            refine g_M_at hx hb hts hown hK hP d_M_read_50 ?_
            refine lv_iload_n hx hb d_M_read_53 rfl (lv_at hl 0 rfl) ?_
            refine lv_if_eq (tgt := 61) hx hb d_M_read_54 (by decide) (fun c_54 => ?_) (fun c_54 => absurd c_54 (by decide))
            refine lv_iconst (v := (0 : Int32)) hx hb d_M_read_61 rfl ?_
            refine lv_iadd hx hb d_M_read_62 ?_
            refine p_M_at hx hb hts hown hK hP hD hS d_M_read_63 (fun H locs hP hS => ?_)
            have hP : va_P E.1 vwCl (wm E ad (sV (s_M_act Z x1) 5 (((s_M_act Z x1).1 5) + (0 : Int32))) ++ X) H := hP
            refine lv_goto (tgt := 14) hx hb d_M_read_66 (by decide) ?_
            exact ih14 (sV (s_M_act Z x1) 5 (((s_M_act Z x1).1 5) + (0 : Int32))) (x1 + 1) (0 : Int32) H locs hP hS (by first | with_reducible exact RD_0 hv hT c_15 | with_reducible exact RD_1 hv hT c_15 (AC_act hT) c_30 (here_lt c_39 (by decide))) (by first | with_reducible exact TI_n0 (AC_T hT) | with_reducible exact TI_n1 (AC_T hT) (here_lt c_39 (by decide))) (act_G hT hZ) ls (lv_sub hl [2, 1, 0] rfl) (by rw [hq, s_M_read_b14, if_neg c_15, if_neg c_30, if_neg c_39])
          · refine lv_iconst (v := (1 : Int32)) hx hb d_M_read_42 rfl ?_
            refine lv_goto (tgt := 47) hx hb d_M_read_43 (by decide) ?_
            refine lv_istore_n (lv' := [(2, .int (1 : Int32)), (1, .int (x1 + 1)), (0, .ref (ad 0))]) hx hb d_M_read_47 rfl hl (by decide) rfl (fun ls hl => ?_)
            refine lv_aload_n hx hb d_M_read_48 rfl (lv_at hl 2 rfl) ?_
            refine lv_dup hx hb d_M_read_49 rfl ?_
            refine g_M_at hx hb hts hown hK hP d_M_read_50 ?_
            refine lv_iload_n hx hb d_M_read_53 rfl (lv_at hl 0 rfl) ?_
            refine lv_if_eq (tgt := 61) hx hb d_M_read_54 (by decide) (fun c_54 => absurd c_54 (by decide)) (fun c_54 => ?_)
            refine lv_iconst (v := (1 : Int32)) hx hb d_M_read_57 rfl ?_
            refine lv_goto (tgt := 62) hx hb d_M_read_58 (by decide) ?_
            refine lv_iadd hx hb d_M_read_62 ?_
            refine p_M_at hx hb hts hown hK hP hD hS d_M_read_63 (fun H locs hP hS => ?_)
            have hP : va_P E.1 vwCl (wm E ad (sV (s_M_act Z x1) 5 (((s_M_act Z x1).1 5) + (1 : Int32))) ++ X) H := hP
            refine lv_goto (tgt := 14) hx hb d_M_read_66 (by decide) ?_
            exact ih14 (sV (s_M_act Z x1) 5 (((s_M_act Z x1).1 5) + (1 : Int32))) (x1 + 1) (1 : Int32) H locs hP hS (by first | with_reducible exact RD_0 hv hT c_15 | with_reducible exact RD_1 hv hT c_15 (AC_act hT) c_30 (here_lt c_39 (by decide))) (by first | with_reducible exact TI_n0 (AC_T hT) | with_reducible exact TI_n1 (AC_T hT) (here_lt c_39 (by decide))) (act_G hT hZ) ls (lv_sub hl [2, 1, 0] rfl) (by rw [hq, s_M_read_b14, if_neg c_15, if_neg c_30, if_pos c_39])
  refine lv_aload_n hx hb d_M_read_0 rfl (lv_at hl 0 rfl) ?_
  refine lv_iconst (v := (0 : Int32)) hx hb d_M_read_1 rfl ?_
  refine p_M_at hx hb hts hown hK hP hD hS d_M_read_2 (fun H locs hP hS => ?_)
  have hP : va_P E.1 vwCl (wm E ad (sV S 5 (0 : Int32)) ++ X) H := hP
  refine lv_iconst (v := (0 : Int32)) hx hb d_M_read_5 rfl ?_
  refine lv_istore_n (lv' := [(1, .int (0 : Int32)), (0, .ref (ad 0))]) hx hb d_M_read_6 rfl hl (by decide) rfl (fun ls hl => ?_)
  refine lv_iconst (v := (1 : Int32)) hx hb d_M_read_7 rfl ?_
  refine lv_istore_n (lv' := [(2, .int (1 : Int32)), (1, .int (0 : Int32)), (0, .ref (ad 0))]) hx hb d_M_read_8 rfl hl (by decide) rfl (fun ls hl => ?_)
  refine lv_aload_n hx hb d_M_read_9 rfl (lv_at hl 2 rfl) ?_
  refine lv_iconst (v := (1 : Int32)) hx hb d_M_read_10 rfl ?_
  refine p_M_goes hx hb hts hown hK hP hD hS (Or.inr rfl) d_M_read_11 (fun H locs hP hS => ?_)
  have hP : va_P E.1 vwCl (wm E ad (sV (sV S 5 (0 : Int32)) 6 (1 : Int32)) ++ X) H := hP
  exact b14 (43) (sV (sV S 5 (0 : Int32)) 6 (1 : Int32)) (0 : Int32) (1 : Int32) H locs hP hS (RD_in) (TI_g (TI_z hF)) (hG) ls (lv_sub hl [2, 1, 0] rfl) (by rw [s_M_read])
