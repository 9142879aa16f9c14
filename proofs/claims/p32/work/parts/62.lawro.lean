/-! by program (wip/p32/lawro.py) -/
theorem lcmp_ge1 {x : Int64} (h : ¬ lg_cmp x 1 < 0) : ¬ x = 0 := fun e => h (by rw [e]; decide)
def s_L_isPair_b102 (S : St) (x1 : Int32) (x2 : Int32) : Int32 := (if (lg_cmp (s_P_contact S x1 x2 (0 : Int32)) (-9223372036854775808 : Int64)) = 0 then (1 : Int32) else (0 : Int32))
def s_L_isPair_b60 (S : St) (x1 : Int32) (x2 : Int32) (x3 : Int64) (x5 : Int64) : Int32 := (if (lg_cmp x5 x3) = 0 then (if (lg_cmp (s_P_ratio S x1 x2 (0 : Int32)) x3) = 0 then (if (s_P_of S x1 (0 : Int32)) < 0 then (s_L_isPair_b102 S x1 x2) else (if (s_P_of S x2 (0 : Int32)) < 0 then (s_L_isPair_b102 S x1 x2) else (if x1 = x2 then (s_L_isPair_b102 S x1 x2) else (0 : Int32)))) else (0 : Int32)) else (0 : Int32))
def s_L_isPair_b208 (S : St) (x1 : Int32) (x2 : Int32) (x3 : Int64) (x5 : Int64) (x7 : Int64) (x9 : Int64) (x11 : Int32) (t0 : Int32) : Int32 := (if t0 = x11 then (0 : Int32) else (if (lg_cmp (if 0 < (s_P_ratio S x2 x1 (0 : Int32)) then (s_P_ratio S x2 x1 (0 : Int32)) else -(s_P_ratio S x2 x1 (0 : Int32))) x9) = 0 then (if (lg_cmp (s_P_ratio S x2 x1 (1 : Int32)) (if 0 < x7 then x7 else -x7)) = 0 then (if x11 = 0 then (if (lg_cmp (s_P_contact S x1 x2 (0 : Int32)) (0 : Int64)) < 0 then (0 : Int32) else (if 0 < (lg_cmp (s_P_contact S x1 x2 (0 : Int32)) (s_P_contact S x1 x2 (1 : Int32))) then (0 : Int32) else (if (lg_cmp (s_P_contact S x1 x2 (1 : Int32)) (s_P_contact S x2 x1 (1 : Int32))) = 0 then (if 0 < (lg_cmp x3 (9999 : Int64)) then (1 : Int32) else (if (s_P_shiftFor S x1 x2 (x3.toInt32) (x5.toInt32)) = (s_P_of S x1 (1 : Int32)) then (1 : Int32) else (0 : Int32))) else (0 : Int32)))) else (if (lg_cmp (s_P_contact S x1 x2 (0 : Int32)) (-9223372036854775808 : Int64)) = 0 then (1 : Int32) else (0 : Int32))) else (0 : Int32)) else (0 : Int32)))
def s_L_isPair_b163 (S : St) (x1 : Int32) (x2 : Int32) (x3 : Int64) (x5 : Int64) (x7 : Int64) (x9 : Int64) (t0 : Int32) : Int32 := (if (lg_cmp x3 (0 : Int64)) ≤ 0 then (0 : Int32) else (if (lg_cmp x5 (1 : Int64)) < 0 then (0 : Int32) else (if (lg_cmp ((100 : Int64) - (100 : Int64) / x5 * x5) (0 : Int64)) = 0 then (if (lg_cmp x9 (1 : Int64)) < 0 then (0 : Int32) else (if 0 ≤ (lg_cmp x7 (0 : Int64)) then (s_L_isPair_b208 S x1 x2 x3 x5 x7 x9 t0 (0 : Int32)) else (s_L_isPair_b208 S x1 x2 x3 x5 x7 x9 t0 (1 : Int32)))) else (0 : Int32))))
def s_L_isPair_b158 (S : St) (x1 : Int32) (x2 : Int32) (x3 : Int64) (x5 : Int64) (x7 : Int64) (x9 : Int64) : Int32 := (s_L_isPair_b163 S x1 x2 x3 x5 x7 x9 (1 : Int32))
def s_L_isPair (S : St) (a1 : Int32) (a2 : Int32) : Int32 := (if (lg_cmp (s_P_distance S a1 a2 (0 : Int32)) (s_P_distance S a2 a1 (0 : Int32))) = 0 then (if (lg_cmp (s_P_distance S a1 a2 (1 : Int32)) (s_P_distance S a2 a1 (1 : Int32))) = 0 then (if (lg_cmp (s_P_distance S a1 a2 (0 : Int32)) (-9223372036854775808 : Int64)) = 0 then (s_L_isPair_b60 S a1 a2 (s_P_distance S a1 a2 (0 : Int32)) (s_P_distance S a1 a2 (1 : Int32))) else (if (lg_cmp (s_P_distance S a1 a2 (0 : Int32)) (-9223372036854775807 : Int64)) = 0 then (s_L_isPair_b60 S a1 a2 (s_P_distance S a1 a2 (0 : Int32)) (s_P_distance S a1 a2 (1 : Int32))) else (if (s_P_of S a1 (0 : Int32)) < 0 then (s_L_isPair_b158 S a1 a2 (s_P_distance S a1 a2 (0 : Int32)) (s_P_distance S a1 a2 (1 : Int32)) (s_P_ratio S a1 a2 (0 : Int32)) (s_P_ratio S a1 a2 (1 : Int32))) else (if 0 ≤ (s_P_of S a2 (0 : Int32)) then (s_L_isPair_b163 S a1 a2 (s_P_distance S a1 a2 (0 : Int32)) (s_P_distance S a1 a2 (1 : Int32)) (s_P_ratio S a1 a2 (0 : Int32)) (s_P_ratio S a1 a2 (1 : Int32)) (0 : Int32)) else (s_L_isPair_b158 S a1 a2 (s_P_distance S a1 a2 (0 : Int32)) (s_P_distance S a1 a2 (1 : Int32)) (s_P_ratio S a1 a2 (0 : Int32)) (s_P_ratio S a1 a2 (1 : Int32))))))) else (0 : Int32)) else (0 : Int32))
theorem z_L_isPair_b102 (S : St) (x1 : Int32) (x2 : Int32) : (s_L_isPair_b102 S x1 x2) = 0 ∨ (s_L_isPair_b102 S x1 x2) = 1 := by rw [s_L_isPair_b102]; exact (ite_z (Or.inr rfl) (Or.inl rfl))
theorem z_L_isPair_b60 (S : St) (x1 : Int32) (x2 : Int32) (x3 : Int64) (x5 : Int64) : (s_L_isPair_b60 S x1 x2 x3 x5) = 0 ∨ (s_L_isPair_b60 S x1 x2 x3 x5) = 1 := by rw [s_L_isPair_b60]; exact (ite_z (ite_z (ite_z (z_L_isPair_b102 S x1 x2) (ite_z (z_L_isPair_b102 S x1 x2) (ite_z (z_L_isPair_b102 S x1 x2) (Or.inl rfl)))) (Or.inl rfl)) (Or.inl rfl))
theorem z_L_isPair_b208 (S : St) (x1 : Int32) (x2 : Int32) (x3 : Int64) (x5 : Int64) (x7 : Int64) (x9 : Int64) (x11 : Int32) (t0 : Int32) : (s_L_isPair_b208 S x1 x2 x3 x5 x7 x9 x11 t0) = 0 ∨ (s_L_isPair_b208 S x1 x2 x3 x5 x7 x9 x11 t0) = 1 := by rw [s_L_isPair_b208]; exact (ite_z (Or.inl rfl) (ite_z (ite_z (ite_z (ite_z (Or.inl rfl) (ite_z (Or.inl rfl) (ite_z (ite_z (Or.inr rfl) (ite_z (Or.inr rfl) (Or.inl rfl))) (Or.inl rfl)))) (ite_z (Or.inr rfl) (Or.inl rfl))) (Or.inl rfl)) (Or.inl rfl)))
theorem z_L_isPair_b163 (S : St) (x1 : Int32) (x2 : Int32) (x3 : Int64) (x5 : Int64) (x7 : Int64) (x9 : Int64) (t0 : Int32) : (s_L_isPair_b163 S x1 x2 x3 x5 x7 x9 t0) = 0 ∨ (s_L_isPair_b163 S x1 x2 x3 x5 x7 x9 t0) = 1 := by rw [s_L_isPair_b163]; exact (ite_z (Or.inl rfl) (ite_z (Or.inl rfl) (ite_z (ite_z (Or.inl rfl) (ite_z (z_L_isPair_b208 S x1 x2 x3 x5 x7 x9 t0 (0 : Int32)) (z_L_isPair_b208 S x1 x2 x3 x5 x7 x9 t0 (1 : Int32)))) (Or.inl rfl))))
theorem z_L_isPair_b158 (S : St) (x1 : Int32) (x2 : Int32) (x3 : Int64) (x5 : Int64) (x7 : Int64) (x9 : Int64) : (s_L_isPair_b158 S x1 x2 x3 x5 x7 x9) = 0 ∨ (s_L_isPair_b158 S x1 x2 x3 x5 x7 x9) = 1 := by rw [s_L_isPair_b158]; exact (z_L_isPair_b163 S x1 x2 x3 x5 x7 x9 (1 : Int32))
theorem z_L_isPair (S : St) (a1 : Int32) (a2 : Int32) : (s_L_isPair S a1 a2) = 0 ∨ (s_L_isPair S a1 a2) = 1 := by rw [s_L_isPair]; exact (ite_z (ite_z (ite_z (z_L_isPair_b60 S a1 a2 (s_P_distance S a1 a2 (0 : Int32)) (s_P_distance S a1 a2 (1 : Int32))) (ite_z (z_L_isPair_b60 S a1 a2 (s_P_distance S a1 a2 (0 : Int32)) (s_P_distance S a1 a2 (1 : Int32))) (ite_z (z_L_isPair_b158 S a1 a2 (s_P_distance S a1 a2 (0 : Int32)) (s_P_distance S a1 a2 (1 : Int32)) (s_P_ratio S a1 a2 (0 : Int32)) (s_P_ratio S a1 a2 (1 : Int32))) (ite_z (z_L_isPair_b163 S a1 a2 (s_P_distance S a1 a2 (0 : Int32)) (s_P_distance S a1 a2 (1 : Int32)) (s_P_ratio S a1 a2 (0 : Int32)) (s_P_ratio S a1 a2 (1 : Int32)) (0 : Int32)) (z_L_isPair_b158 S a1 a2 (s_P_distance S a1 a2 (0 : Int32)) (s_P_distance S a1 a2 (1 : Int32)) (s_P_ratio S a1 a2 (0 : Int32)) (s_P_ratio S a1 a2 (1 : Int32))))))) (Or.inl rfl)) (Or.inl rfl))
set_option maxRecDepth 20000 in
theorem c_L_isPair (l : Launch) (E : Cx) (ad : Nat → Nat) (X : va_W) (S : St) (a1 : Int32) (a2 : Int32) : Met l y_L_isPair (Cond.code y_L_isPair b_L_isPair 12 (some .boolean) :: TB) (rk 6 144) (va_Pc [.ref (ad 39), .int a1, .int a2] (preR E (wb E ad S ++ X))) (vp_Si (fun r => r = (s_L_isPair S a1 a2))) 0 0 (fun _ => False) := by
  refine w_roI rfl (Nat.le_of_ble_eq_true rfl) (k_nb (z_L_isPair S a1 a2)) ?_
  intro p e s m args below meth c Q ls hx hb hml hts hown hP hK hl hend
  have hl : lv_has ls 12 [(0, .ref (ad 39)), (1, .int a1), (2, .int a2)] := hl
  have hP : va_P E.1 vwCl (wb E ad S ++ X) s.heap := hP
  have hown : s.vm.findClass R_L = some m.cls := hown
  have b102 : ∀ (x1 : Int32) (x2 : Int32), ∀ (ls : Array Slot), lv_has ls 12 [(0, .ref (ad 39)), (1, .int x1), (2, .int x2)] → (s_L_isPair S a1 a2) = s_L_isPair_b102 S x1 x2 → W p l e (rk 6 144) s m args below meth c s.heap [] 0 0 Q (F0 m 102 ls []) := by
    intro x1 x2 ls hl hq
    refine lv_aload_n hx hb d_L_isPair_102 rfl (lv_at hl 0 rfl) ?_
    refine lv_iload_n hx hb d_L_isPair_103 rfl (lv_at hl 1 rfl) ?_
    refine lv_iload_n hx hb d_L_isPair_104 rfl (lv_at hl 2 rfl) ?_
    refine lv_iconst (v := (0 : Int32)) hx hb d_L_isPair_105 rfl ?_
    refine k_vl (rest := []) (c_P_contact l E ad X S x1 x2 (0 : Int32)) mi_P_contact ml_L_85 hx hb hml hts hown hK hP rvP hl ⟨rfl, rfl⟩ ⟨(Nat.le_of_ble_eq_true rfl), (Nat.le_of_ble_eq_true rfl)⟩ ⟨Nat.zero_le _, Nat.zero_le _⟩ rfl (Nat.le_of_ble_eq_true rfl) rfl d_L_isPair_106 ?_
    refine lv_ldc2 (v := (-9223372036854775808 : Int64)) hx hb hown (hts _ kl_L_75) d_L_isPair_109 ?_
    refine W.lcmp hx hb d_L_isPair_112 ?_
    refine lv_if_ne (tgt := 120) hx hb d_L_isPair_113 (by decide) (fun c_113 => ?_) (fun c_113 => ?_)
    · refine lv_iconst (v := (0 : Int32)) hx hb d_L_isPair_120 rfl ?_
      exact hend _ _ _ (by rw [hq, s_L_isPair_b102, if_neg c_113]) d_L_isPair_121
    · refine lv_iconst (v := (1 : Int32)) hx hb d_L_isPair_116 rfl ?_
      refine lv_goto (tgt := 121) hx hb d_L_isPair_117 (by decide) ?_
      exact hend _ _ _ (by rw [hq, s_L_isPair_b102, if_pos c_113]) d_L_isPair_121
  have b60 : ∀ (x1 : Int32) (x2 : Int32) (x3 : Int64) (x5 : Int64), ∀ (ls : Array Slot), lv_has ls 12 [(0, .ref (ad 39)), (1, .int x1), (2, .int x2), (3, .long x3), (5, .long x5)] → (s_L_isPair S a1 a2) = s_L_isPair_b60 S x1 x2 x3 x5 → W p l e (rk 6 144) s m args below meth c s.heap [] 0 0 Q (F0 m 60 ls []) := by
    intro x1 x2 x3 x5 ls hl hq
    refine lv_lload hx hb d_L_isPair_60 (lv_at hl 4 rfl) ?_
    refine lv_lload_n hx hb d_L_isPair_62 rfl (lv_at hl 3 rfl) ?_
    refine W.lcmp hx hb d_L_isPair_63 ?_
    refine lv_if_ne (tgt := 120) hx hb d_L_isPair_64 (by decide) (fun c_64 => ?_) (fun c_64 => ?_)
    · refine lv_iconst (v := (0 : Int32)) hx hb d_L_isPair_120 rfl ?_
      exact hend _ _ _ (by rw [hq, s_L_isPair_b60, if_neg c_64]) d_L_isPair_121
    · refine lv_aload_n hx hb d_L_isPair_67 rfl (lv_at hl 0 rfl) ?_
      refine lv_iload_n hx hb d_L_isPair_68 rfl (lv_at hl 1 rfl) ?_
      refine lv_iload_n hx hb d_L_isPair_69 rfl (lv_at hl 2 rfl) ?_
      refine lv_iconst (v := (0 : Int32)) hx hb d_L_isPair_70 rfl ?_
      refine k_vl (rest := []) (c_P_ratio l E ad X S x1 x2 (0 : Int32)) mi_P_ratio ml_L_79 hx hb hml hts hown hK hP rvP hl ⟨rfl, rfl⟩ ⟨(Nat.le_of_ble_eq_true rfl), (Nat.le_of_ble_eq_true rfl)⟩ ⟨Nat.zero_le _, Nat.zero_le _⟩ rfl (Nat.le_of_ble_eq_true rfl) rfl d_L_isPair_71 ?_
      refine lv_lload_n hx hb d_L_isPair_74 rfl (lv_at hl 3 rfl) ?_
      refine W.lcmp hx hb d_L_isPair_75 ?_
      refine lv_if_ne (tgt := 120) hx hb d_L_isPair_76 (by decide) (fun c_76 => ?_) (fun c_76 => ?_)
      · refine lv_iconst (v := (0 : Int32)) hx hb d_L_isPair_120 rfl ?_
        exact hend _ _ _ (by rw [hq, s_L_isPair_b60, if_pos c_64, if_neg c_76]) d_L_isPair_121
      · refine lv_aload_n hx hb d_L_isPair_79 rfl (lv_at hl 0 rfl) ?_
        refine lv_iload_n hx hb d_L_isPair_80 rfl (lv_at hl 1 rfl) ?_
        refine lv_iconst (v := (0 : Int32)) hx hb d_L_isPair_81 rfl ?_
        refine k_vi (rest := []) (c_P_of l E ad X S x1 (0 : Int32)) mi_P_of ml_L_82 hx hb hml hts hown hK hP rvP hl ⟨rfl, rfl⟩ ⟨(Nat.le_of_ble_eq_true rfl), (Nat.le_of_ble_eq_true rfl)⟩ ⟨Nat.zero_le _, Nat.zero_le _⟩ rfl (Nat.le_of_ble_eq_true rfl) rfl d_L_isPair_82 ?_
        refine lv_if_lt (tgt := 102) hx hb d_L_isPair_85 (by decide) (fun c_85 => ?_) (fun c_85 => ?_)
        · exact b102 x1 x2 ls (lv_sub hl [0, 1, 2] rfl) (by rw [hq, s_L_isPair_b60, if_pos c_64, if_pos c_76, if_pos c_85])
        · refine lv_aload_n hx hb d_L_isPair_88 rfl (lv_at hl 0 rfl) ?_
          refine lv_iload_n hx hb d_L_isPair_89 rfl (lv_at hl 2 rfl) ?_
          refine lv_iconst (v := (0 : Int32)) hx hb d_L_isPair_90 rfl ?_
          refine k_vi (rest := []) (c_P_of l E ad X S x2 (0 : Int32)) mi_P_of ml_L_82 hx hb hml hts hown hK hP rvP hl ⟨rfl, rfl⟩ ⟨(Nat.le_of_ble_eq_true rfl), (Nat.le_of_ble_eq_true rfl)⟩ ⟨Nat.zero_le _, Nat.zero_le _⟩ rfl (Nat.le_of_ble_eq_true rfl) rfl d_L_isPair_91 ?_
          refine lv_if_lt (tgt := 102) hx hb d_L_isPair_94 (by decide) (fun c_94 => ?_) (fun c_94 => ?_)
          · exact b102 x1 x2 ls (lv_sub hl [0, 1, 2] rfl) (by rw [hq, s_L_isPair_b60, if_pos c_64, if_pos c_76, if_neg c_85, if_pos c_94])
          · refine lv_iload_n hx hb d_L_isPair_97 rfl (lv_at hl 1 rfl) ?_
            refine lv_iload_n hx hb d_L_isPair_98 rfl (lv_at hl 2 rfl) ?_
            refine lv_icmp_ne (tgt := 120) hx hb d_L_isPair_99 (by decide) (fun c_99 => ?_) (fun c_99 => ?_)
            · refine lv_iconst (v := (0 : Int32)) hx hb d_L_isPair_120 rfl ?_
              exact hend _ _ _ (by rw [hq, s_L_isPair_b60, if_pos c_64, if_pos c_76, if_neg c_85, if_neg c_94, if_neg c_99]) d_L_isPair_121
            · exact b102 x1 x2 ls (lv_sub hl [0, 1, 2] rfl) (by rw [hq, s_L_isPair_b60, if_pos c_64, if_pos c_76, if_neg c_85, if_neg c_94, if_pos c_99])
  have b208 : ∀ (x1 : Int32) (x2 : Int32) (x3 : Int64) (x5 : Int64) (x7 : Int64) (x9 : Int64) (x11 : Int32) (t0 : Int32), ∀ (ls : Array Slot), lv_has ls 12 [(0, .ref (ad 39)), (1, .int x1), (2, .int x2), (3, .long x3), (5, .long x5), (7, .long x7), (9, .long x9), (11, .int x11)] → (s_L_isPair S a1 a2) = s_L_isPair_b208 S x1 x2 x3 x5 x7 x9 x11 t0 → W p l e (rk 6 144) s m args below meth c s.heap [] 0 0 Q (F0 m 208 ls [.int t0]) := by
    intro x1 x2 x3 x5 x7 x9 x11 t0 ls hl hq
    refine lv_iload hx hb d_L_isPair_208 (lv_at hl 7 rfl) ?_
    refine lv_icmp_eq (tgt := 245) hx hb d_L_isPair_210 (by decide) (fun c_210 => ?_) (fun c_210 => ?_)
    · refine lv_iconst (v := (0 : Int32)) hx hb d_L_isPair_245 rfl ?_
      exact hend _ _ _ (by rw [hq, s_L_isPair_b208, if_pos c_210]) d_L_isPair_246
    · refine lv_aload_n hx hb d_L_isPair_213 rfl (lv_at hl 0 rfl) ?_
      refine lv_iload_n hx hb d_L_isPair_214 rfl (lv_at hl 2 rfl) ?_
      refine lv_iload_n hx hb d_L_isPair_215 rfl (lv_at hl 1 rfl) ?_
      refine lv_iconst (v := (0 : Int32)) hx hb d_L_isPair_216 rfl ?_
      refine k_vl (rest := []) (c_P_ratio l E ad X S x2 x1 (0 : Int32)) mi_P_ratio ml_L_79 hx hb hml hts hown hK hP rvP hl ⟨rfl, rfl⟩ ⟨(Nat.le_of_ble_eq_true rfl), (Nat.le_of_ble_eq_true rfl)⟩ ⟨Nat.zero_le _, Nat.zero_le _⟩ rfl (Nat.le_of_ble_eq_true rfl) rfl d_L_isPair_217 ?_
      refine va_mabs_long hx hb (hml.trans hl.1.symm) hown (hts _ ml_L_90) (hts _ st_mabsl) (hts _ iz_Math) (hts _ co_mabsl) (Nat.le_of_ble_eq_true rfl) (Nat.le_of_ble_eq_true rfl) (Nat.zero_le _) (Nat.zero_le _) d_L_isPair_220 ?_
      refine lv_lload hx hb d_L_isPair_223 (lv_at hl 6 rfl) ?_
      refine W.lcmp hx hb d_L_isPair_225 ?_
      refine lv_if_ne (tgt := 245) hx hb d_L_isPair_226 (by decide) (fun c_226 => ?_) (fun c_226 => ?_)
      · refine lv_iconst (v := (0 : Int32)) hx hb d_L_isPair_245 rfl ?_
        exact hend _ _ _ (by rw [hq, s_L_isPair_b208, if_neg c_210, if_neg c_226]) d_L_isPair_246
      · refine lv_aload_n hx hb d_L_isPair_229 rfl (lv_at hl 0 rfl) ?_
        refine lv_iload_n hx hb d_L_isPair_230 rfl (lv_at hl 2 rfl) ?_
        refine lv_iload_n hx hb d_L_isPair_231 rfl (lv_at hl 1 rfl) ?_
        refine lv_iconst (v := (1 : Int32)) hx hb d_L_isPair_232 rfl ?_
        refine k_vl (rest := []) (c_P_ratio l E ad X S x2 x1 (1 : Int32)) mi_P_ratio ml_L_79 hx hb hml hts hown hK hP rvP hl ⟨rfl, rfl⟩ ⟨(Nat.le_of_ble_eq_true rfl), (Nat.le_of_ble_eq_true rfl)⟩ ⟨Nat.zero_le _, Nat.zero_le _⟩ rfl (Nat.le_of_ble_eq_true rfl) rfl d_L_isPair_233 ?_
        refine lv_lload hx hb d_L_isPair_236 (lv_at hl 5 rfl) ?_
        refine va_mabs_long hx hb (hml.trans hl.1.symm) hown (hts _ ml_L_90) (hts _ st_mabsl) (hts _ iz_Math) (hts _ co_mabsl) (Nat.le_of_ble_eq_true rfl) (Nat.le_of_ble_eq_true rfl) (Nat.zero_le _) (Nat.zero_le _) d_L_isPair_238 ?_
        refine W.lcmp hx hb d_L_isPair_241 ?_
        refine lv_if_eq (tgt := 247) hx hb d_L_isPair_242 (by decide) (fun c_242 => ?_) (fun c_242 => ?_)
        · refine lv_iload hx hb d_L_isPair_247 (lv_at hl 7 rfl) ?_
          refine lv_if_eq (tgt := 272) hx hb d_L_isPair_249 (by decide) (fun c_249 => ?_) (fun c_249 => ?_)
          · refine lv_aload_n hx hb d_L_isPair_272 rfl (lv_at hl 0 rfl) ?_
            refine lv_iload_n hx hb d_L_isPair_273 rfl (lv_at hl 1 rfl) ?_
            refine lv_iload_n hx hb d_L_isPair_274 rfl (lv_at hl 2 rfl) ?_
            refine lv_iconst (v := (0 : Int32)) hx hb d_L_isPair_275 rfl ?_
            refine k_vl (rest := []) (c_P_contact l E ad X S x1 x2 (0 : Int32)) mi_P_contact ml_L_85 hx hb hml hts hown hK hP rvP hl ⟨rfl, rfl⟩ ⟨(Nat.le_of_ble_eq_true rfl), (Nat.le_of_ble_eq_true rfl)⟩ ⟨Nat.zero_le _, Nat.zero_le _⟩ rfl (Nat.le_of_ble_eq_true rfl) rfl d_L_isPair_276 ?_
            refine lv_lconst (v := (0 : Int64)) hx hb d_L_isPair_279 rfl ?_
            refine W.lcmp hx hb d_L_isPair_280 ?_
            refine lv_if_lt (tgt := 352) hx hb d_L_isPair_281 (by decide) (fun c_281 => ?_) (fun c_281 => ?_)
            · refine lv_iconst (v := (0 : Int32)) hx hb d_L_isPair_352 rfl ?_
              exact hend _ _ _ (by rw [hq, s_L_isPair_b208, if_neg c_210, if_pos c_226, if_pos c_242, if_pos c_249, if_pos c_281]) d_L_isPair_353
            · refine lv_aload_n hx hb d_L_isPair_284 rfl (lv_at hl 0 rfl) ?_
              refine lv_iload_n hx hb d_L_isPair_285 rfl (lv_at hl 1 rfl) ?_
              refine lv_iload_n hx hb d_L_isPair_286 rfl (lv_at hl 2 rfl) ?_
              refine lv_iconst (v := (0 : Int32)) hx hb d_L_isPair_287 rfl ?_
              refine k_vl (rest := []) (c_P_contact l E ad X S x1 x2 (0 : Int32)) mi_P_contact ml_L_85 hx hb hml hts hown hK hP rvP hl ⟨rfl, rfl⟩ ⟨(Nat.le_of_ble_eq_true rfl), (Nat.le_of_ble_eq_true rfl)⟩ ⟨Nat.zero_le _, Nat.zero_le _⟩ rfl (Nat.le_of_ble_eq_true rfl) rfl d_L_isPair_288 ?_
              refine lv_aload_n hx hb d_L_isPair_291 rfl (lv_at hl 0 rfl) ?_
              refine lv_iload_n hx hb d_L_isPair_292 rfl (lv_at hl 1 rfl) ?_
              refine lv_iload_n hx hb d_L_isPair_293 rfl (lv_at hl 2 rfl) ?_
              refine lv_iconst (v := (1 : Int32)) hx hb d_L_isPair_294 rfl ?_
              refine k_vl (rest := [.long (s_P_contact S x1 x2 (0 : Int32))]) (c_P_contact l E ad X S x1 x2 (1 : Int32)) mi_P_contact ml_L_85 hx hb hml hts hown hK hP rvP hl ⟨rfl, rfl⟩ ⟨(Nat.le_of_ble_eq_true rfl), (Nat.le_of_ble_eq_true rfl)⟩ ⟨Nat.zero_le _, Nat.zero_le _⟩ rfl (Nat.le_of_ble_eq_true rfl) rfl d_L_isPair_295 ?_
              refine W.lcmp hx hb d_L_isPair_298 ?_
              refine lv_if_gt (tgt := 352) hx hb d_L_isPair_299 (by decide) (fun c_299 => ?_) (fun c_299 => ?_)
              · refine lv_iconst (v := (0 : Int32)) hx hb d_L_isPair_352 rfl ?_
                exact hend _ _ _ (by rw [hq, s_L_isPair_b208, if_neg c_210, if_pos c_226, if_pos c_242, if_pos c_249, if_neg c_281, if_pos c_299]) d_L_isPair_353
              · refine lv_aload_n hx hb d_L_isPair_302 rfl (lv_at hl 0 rfl) ?_
                refine lv_iload_n hx hb d_L_isPair_303 rfl (lv_at hl 1 rfl) ?_
                refine lv_iload_n hx hb d_L_isPair_304 rfl (lv_at hl 2 rfl) ?_
                refine lv_iconst (v := (1 : Int32)) hx hb d_L_isPair_305 rfl ?_
                refine k_vl (rest := []) (c_P_contact l E ad X S x1 x2 (1 : Int32)) mi_P_contact ml_L_85 hx hb hml hts hown hK hP rvP hl ⟨rfl, rfl⟩ ⟨(Nat.le_of_ble_eq_true rfl), (Nat.le_of_ble_eq_true rfl)⟩ ⟨Nat.zero_le _, Nat.zero_le _⟩ rfl (Nat.le_of_ble_eq_true rfl) rfl d_L_isPair_306 ?_
                refine lv_aload_n hx hb d_L_isPair_309 rfl (lv_at hl 0 rfl) ?_
                refine lv_iload_n hx hb d_L_isPair_310 rfl (lv_at hl 2 rfl) ?_
                refine lv_iload_n hx hb d_L_isPair_311 rfl (lv_at hl 1 rfl) ?_
                refine lv_iconst (v := (1 : Int32)) hx hb d_L_isPair_312 rfl ?_
                refine k_vl (rest := [.long (s_P_contact S x1 x2 (1 : Int32))]) (c_P_contact l E ad X S x2 x1 (1 : Int32)) mi_P_contact ml_L_85 hx hb hml hts hown hK hP rvP hl ⟨rfl, rfl⟩ ⟨(Nat.le_of_ble_eq_true rfl), (Nat.le_of_ble_eq_true rfl)⟩ ⟨Nat.zero_le _, Nat.zero_le _⟩ rfl (Nat.le_of_ble_eq_true rfl) rfl d_L_isPair_313 ?_
                refine W.lcmp hx hb d_L_isPair_316 ?_
                refine lv_if_ne (tgt := 352) hx hb d_L_isPair_317 (by decide) (fun c_317 => ?_) (fun c_317 => ?_)
                · refine lv_iconst (v := (0 : Int32)) hx hb d_L_isPair_352 rfl ?_
                  exact hend _ _ _ (by rw [hq, s_L_isPair_b208, if_neg c_210, if_pos c_226, if_pos c_242, if_pos c_249, if_neg c_281, if_neg c_299, if_neg c_317]) d_L_isPair_353
                · refine lv_lload_n hx hb d_L_isPair_320 rfl (lv_at hl 3 rfl) ?_
                  refine lv_ldc2 (v := (9999 : Int64)) hx hb hown (hts _ kl_L_96) d_L_isPair_321 ?_
                  refine W.lcmp hx hb d_L_isPair_324 ?_
                  refine lv_if_gt (tgt := 348) hx hb d_L_isPair_325 (by decide) (fun c_325 => ?_) (fun c_325 => ?_)
                  · refine lv_iconst (v := (1 : Int32)) hx hb d_L_isPair_348 rfl ?_
                    refine lv_goto (tgt := 353) hx hb d_L_isPair_349 (by decide) ?_
                    exact hend _ _ _ (by rw [hq, s_L_isPair_b208, if_neg c_210, if_pos c_226, if_pos c_242, if_pos c_249, if_neg c_281, if_neg c_299, if_pos c_317, if_pos c_325]) d_L_isPair_353
                  · refine lv_aload_n hx hb d_L_isPair_328 rfl (lv_at hl 0 rfl) ?_
                    refine lv_iload_n hx hb d_L_isPair_329 rfl (lv_at hl 1 rfl) ?_
                    refine lv_iload_n hx hb d_L_isPair_330 rfl (lv_at hl 2 rfl) ?_
                    refine lv_lload_n hx hb d_L_isPair_331 rfl (lv_at hl 3 rfl) ?_
                    refine lv_l2i hx hb d_L_isPair_332 rfl ?_
                    refine lv_lload hx hb d_L_isPair_333 (lv_at hl 4 rfl) ?_
                    refine lv_l2i hx hb d_L_isPair_335 rfl ?_
                    refine k_vi (rest := []) (c_P_shiftFor l E ad X S x1 x2 (x3.toInt32) (x5.toInt32)) mi_P_shiftFor ml_L_98 hx hb hml hts hown hK hP rvP hl ⟨rfl, rfl⟩ ⟨(Nat.le_of_ble_eq_true rfl), (Nat.le_of_ble_eq_true rfl)⟩ ⟨Nat.zero_le _, Nat.zero_le _⟩ rfl (Nat.le_of_ble_eq_true rfl) rfl d_L_isPair_336 ?_
                    refine lv_aload_n hx hb d_L_isPair_339 rfl (lv_at hl 0 rfl) ?_
                    refine lv_iload_n hx hb d_L_isPair_340 rfl (lv_at hl 1 rfl) ?_
                    refine lv_iconst (v := (1 : Int32)) hx hb d_L_isPair_341 rfl ?_
                    refine k_vi (rest := [.int (s_P_shiftFor S x1 x2 (x3.toInt32) (x5.toInt32))]) (c_P_of l E ad X S x1 (1 : Int32)) mi_P_of ml_L_82 hx hb hml hts hown hK hP rvP hl ⟨rfl, rfl⟩ ⟨(Nat.le_of_ble_eq_true rfl), (Nat.le_of_ble_eq_true rfl)⟩ ⟨Nat.zero_le _, Nat.zero_le _⟩ rfl (Nat.le_of_ble_eq_true rfl) rfl d_L_isPair_342 ?_
                    refine lv_icmp_ne (tgt := 352) hx hb d_L_isPair_345 (by decide) (fun c_345 => ?_) (fun c_345 => ?_)
                    · refine lv_iconst (v := (0 : Int32)) hx hb d_L_isPair_352 rfl ?_
                      exact hend _ _ _ (by rw [hq, s_L_isPair_b208, if_neg c_210, if_pos c_226, if_pos c_242, if_pos c_249, if_neg c_281, if_neg c_299, if_pos c_317, if_neg c_325, if_neg c_345]) d_L_isPair_353
                    · refine lv_iconst (v := (1 : Int32)) hx hb d_L_isPair_348 rfl ?_
                      refine lv_goto (tgt := 353) hx hb d_L_isPair_349 (by decide) ?_
                      exact hend _ _ _ (by rw [hq, s_L_isPair_b208, if_neg c_210, if_pos c_226, if_pos c_242, if_pos c_249, if_neg c_281, if_neg c_299, if_pos c_317, if_neg c_325, if_pos c_345]) d_L_isPair_353
          · refine lv_aload_n hx hb d_L_isPair_252 rfl (lv_at hl 0 rfl) ?_
            refine lv_iload_n hx hb d_L_isPair_253 rfl (lv_at hl 1 rfl) ?_
            refine lv_iload_n hx hb d_L_isPair_254 rfl (lv_at hl 2 rfl) ?_
            refine lv_iconst (v := (0 : Int32)) hx hb d_L_isPair_255 rfl ?_
            refine k_vl (rest := []) (c_P_contact l E ad X S x1 x2 (0 : Int32)) mi_P_contact ml_L_85 hx hb hml hts hown hK hP rvP hl ⟨rfl, rfl⟩ ⟨(Nat.le_of_ble_eq_true rfl), (Nat.le_of_ble_eq_true rfl)⟩ ⟨Nat.zero_le _, Nat.zero_le _⟩ rfl (Nat.le_of_ble_eq_true rfl) rfl d_L_isPair_256 ?_
            refine lv_ldc2 (v := (-9223372036854775808 : Int64)) hx hb hown (hts _ kl_L_75) d_L_isPair_259 ?_
            refine W.lcmp hx hb d_L_isPair_262 ?_
            refine lv_if_ne (tgt := 270) hx hb d_L_isPair_263 (by decide) (fun c_263 => ?_) (fun c_263 => ?_)
            · refine lv_iconst (v := (0 : Int32)) hx hb d_L_isPair_270 rfl ?_
              exact hend _ _ _ (by rw [hq, s_L_isPair_b208, if_neg c_210, if_pos c_226, if_pos c_242, if_neg c_249, if_neg c_263]) d_L_isPair_271
            · refine lv_iconst (v := (1 : Int32)) hx hb d_L_isPair_266 rfl ?_
              refine lv_goto (tgt := 271) hx hb d_L_isPair_267 (by decide) ?_
              exact hend _ _ _ (by rw [hq, s_L_isPair_b208, if_neg c_210, if_pos c_226, if_pos c_242, if_neg c_249, if_pos c_263]) d_L_isPair_271
        · refine lv_iconst (v := (0 : Int32)) hx hb d_L_isPair_245 rfl ?_
          exact hend _ _ _ (by rw [hq, s_L_isPair_b208, if_neg c_210, if_pos c_226, if_neg c_242]) d_L_isPair_246
  have b163 : ∀ (x1 : Int32) (x2 : Int32) (x3 : Int64) (x5 : Int64) (x7 : Int64) (x9 : Int64) (t0 : Int32), ∀ (ls : Array Slot), lv_has ls 12 [(0, .ref (ad 39)), (1, .int x1), (2, .int x2), (3, .long x3), (5, .long x5), (7, .long x7), (9, .long x9)] → (s_L_isPair S a1 a2) = s_L_isPair_b163 S x1 x2 x3 x5 x7 x9 t0 → W p l e (rk 6 144) s m args below meth c s.heap [] 0 0 Q (F0 m 163 ls [.int t0]) := by
    intro x1 x2 x3 x5 x7 x9 t0 ls hl hq
    refine lv_istore (lv' := [(11, .int t0), (0, .ref (ad 39)), (1, .int x1), (2, .int x2), (3, .long x3), (5, .long x5), (7, .long x7), (9, .long x9)]) hx hb d_L_isPair_163 hl (by decide) rfl (fun ls hl => ?_)
    refine lv_lload_n hx hb d_L_isPair_165 rfl (lv_at hl 4 rfl) ?_
    refine lv_lconst (v := (0 : Int64)) hx hb d_L_isPair_166 rfl ?_
    refine W.lcmp hx hb d_L_isPair_167 ?_
    refine lv_if_le (tgt := 245) hx hb d_L_isPair_168 (by decide) (fun c_168 => ?_) (fun c_168 => ?_)
    · refine lv_iconst (v := (0 : Int32)) hx hb d_L_isPair_245 rfl ?_
      exact hend _ _ _ (by rw [hq, s_L_isPair_b163, if_pos c_168]) d_L_isPair_246
    · refine lv_lload hx hb d_L_isPair_171 (lv_at hl 5 rfl) ?_
      refine lv_lconst (v := (1 : Int64)) hx hb d_L_isPair_173 rfl ?_
      refine W.lcmp hx hb d_L_isPair_174 ?_
      refine lv_if_lt (tgt := 245) hx hb d_L_isPair_175 (by decide) (fun c_175 => ?_) (fun c_175 => ?_)
      · refine lv_iconst (v := (0 : Int32)) hx hb d_L_isPair_245 rfl ?_
        exact hend _ _ _ (by rw [hq, s_L_isPair_b163, if_neg c_168, if_pos c_175]) d_L_isPair_246
      · refine lv_ldc2 (v := (100 : Int64)) hx hb hown (hts _ kl_L_88) d_L_isPair_178 ?_
        refine lv_lload hx hb d_L_isPair_181 (lv_at hl 5 rfl) ?_
        refine lv_lrem hx hb d_L_isPair_183 (lcmp_ge1 c_175) ?_
        refine lv_lconst (v := (0 : Int64)) hx hb d_L_isPair_184 rfl ?_
        refine W.lcmp hx hb d_L_isPair_185 ?_
        refine lv_if_ne (tgt := 245) hx hb d_L_isPair_186 (by decide) (fun c_186 => ?_) (fun c_186 => ?_)
        · refine lv_iconst (v := (0 : Int32)) hx hb d_L_isPair_245 rfl ?_
          exact hend _ _ _ (by rw [hq, s_L_isPair_b163, if_neg c_168, if_neg c_175, if_neg c_186]) d_L_isPair_246
        · refine lv_lload hx hb d_L_isPair_189 (lv_at hl 7 rfl) ?_
          refine lv_lconst (v := (1 : Int64)) hx hb d_L_isPair_191 rfl ?_
          refine W.lcmp hx hb d_L_isPair_192 ?_
          refine lv_if_lt (tgt := 245) hx hb d_L_isPair_193 (by decide) (fun c_193 => ?_) (fun c_193 => ?_)
          · refine lv_iconst (v := (0 : Int32)) hx hb d_L_isPair_245 rfl ?_
            exact hend _ _ _ (by rw [hq, s_L_isPair_b163, if_neg c_168, if_neg c_175, if_pos c_186, if_pos c_193]) d_L_isPair_246
          · refine lv_lload hx hb d_L_isPair_196 (lv_at hl 6 rfl) ?_
            refine lv_lconst (v := (0 : Int64)) hx hb d_L_isPair_198 rfl ?_
            refine W.lcmp hx hb d_L_isPair_199 ?_
            refine lv_if_ge (tgt := 207) hx hb d_L_isPair_200 (by decide) (fun c_200 => ?_) (fun c_200 => ?_)
            · refine lv_iconst (v := (0 : Int32)) hx hb d_L_isPair_207 rfl ?_
              exact b208 x1 x2 x3 x5 x7 x9 t0 (0 : Int32) ls (lv_sub hl [1, 2, 3, 4, 5, 6, 7, 0] rfl) (by rw [hq, s_L_isPair_b163, if_neg c_168, if_neg c_175, if_pos c_186, if_neg c_193, if_pos c_200])
            · refine lv_iconst (v := (1 : Int32)) hx hb d_L_isPair_203 rfl ?_
              refine lv_goto (tgt := 208) hx hb d_L_isPair_204 (by decide) ?_
              exact b208 x1 x2 x3 x5 x7 x9 t0 (1 : Int32) ls (lv_sub hl [1, 2, 3, 4, 5, 6, 7, 0] rfl) (by rw [hq, s_L_isPair_b163, if_neg c_168, if_neg c_175, if_pos c_186, if_neg c_193, if_neg c_200])
  have b158 : ∀ (x1 : Int32) (x2 : Int32) (x3 : Int64) (x5 : Int64) (x7 : Int64) (x9 : Int64), ∀ (ls : Array Slot), lv_has ls 12 [(0, .ref (ad 39)), (1, .int x1), (2, .int x2), (3, .long x3), (5, .long x5), (7, .long x7), (9, .long x9)] → (s_L_isPair S a1 a2) = s_L_isPair_b158 S x1 x2 x3 x5 x7 x9 → W p l e (rk 6 144) s m args below meth c s.heap [] 0 0 Q (F0 m 158 ls []) := by
    intro x1 x2 x3 x5 x7 x9 ls hl hq
    refine lv_iconst (v := (1 : Int32)) hx hb d_L_isPair_158 rfl ?_
    refine lv_goto (tgt := 163) hx hb d_L_isPair_159 (by decide) ?_
    exact b163 x1 x2 x3 x5 x7 x9 (1 : Int32) ls (lv_sub hl [0, 1, 2, 3, 4, 5, 6] rfl) (by rw [hq, s_L_isPair_b158])
  refine lv_aload_n hx hb d_L_isPair_0 rfl (lv_at hl 0 rfl) ?_
  refine lv_iload_n hx hb d_L_isPair_1 rfl (lv_at hl 1 rfl) ?_
  refine lv_iload_n hx hb d_L_isPair_2 rfl (lv_at hl 2 rfl) ?_
  refine lv_iconst (v := (0 : Int32)) hx hb d_L_isPair_3 rfl ?_
  refine k_vl (rest := []) (c_P_distance l E ad X S a1 a2 (0 : Int32)) mi_P_distance ml_L_71 hx hb hml hts hown hK hP rvP hl ⟨rfl, rfl⟩ ⟨(Nat.le_of_ble_eq_true rfl), (Nat.le_of_ble_eq_true rfl)⟩ ⟨Nat.zero_le _, Nat.zero_le _⟩ rfl (Nat.le_of_ble_eq_true rfl) rfl d_L_isPair_4 ?_
  refine lv_lstore_n (lv' := [(3, .long (s_P_distance S a1 a2 (0 : Int32))), (0, .ref (ad 39)), (1, .int a1), (2, .int a2)]) hx hb d_L_isPair_7 rfl hl (by decide) rfl (fun ls hl => ?_)
  refine lv_aload_n hx hb d_L_isPair_8 rfl (lv_at hl 1 rfl) ?_
  refine lv_iload_n hx hb d_L_isPair_9 rfl (lv_at hl 2 rfl) ?_
  refine lv_iload_n hx hb d_L_isPair_10 rfl (lv_at hl 3 rfl) ?_
  refine lv_iconst (v := (1 : Int32)) hx hb d_L_isPair_11 rfl ?_
  refine k_vl (rest := []) (c_P_distance l E ad X S a1 a2 (1 : Int32)) mi_P_distance ml_L_71 hx hb hml hts hown hK hP rvP hl ⟨rfl, rfl⟩ ⟨(Nat.le_of_ble_eq_true rfl), (Nat.le_of_ble_eq_true rfl)⟩ ⟨Nat.zero_le _, Nat.zero_le _⟩ rfl (Nat.le_of_ble_eq_true rfl) rfl d_L_isPair_12 ?_
  refine lv_lstore (lv' := [(5, .long (s_P_distance S a1 a2 (1 : Int32))), (3, .long (s_P_distance S a1 a2 (0 : Int32))), (0, .ref (ad 39)), (1, .int a1), (2, .int a2)]) hx hb d_L_isPair_15 hl (by decide) rfl (fun ls hl => ?_)
  refine lv_lload_n hx hb d_L_isPair_17 rfl (lv_at hl 1 rfl) ?_
  refine lv_aload_n hx hb d_L_isPair_18 rfl (lv_at hl 2 rfl) ?_
  refine lv_iload_n hx hb d_L_isPair_19 rfl (lv_at hl 4 rfl) ?_
  refine lv_iload_n hx hb d_L_isPair_20 rfl (lv_at hl 3 rfl) ?_
  refine lv_iconst (v := (0 : Int32)) hx hb d_L_isPair_21 rfl ?_
  refine k_vl (rest := [.long (s_P_distance S a1 a2 (0 : Int32))]) (c_P_distance l E ad X S a2 a1 (0 : Int32)) mi_P_distance ml_L_71 hx hb hml hts hown hK hP rvP hl ⟨rfl, rfl⟩ ⟨(Nat.le_of_ble_eq_true rfl), (Nat.le_of_ble_eq_true rfl)⟩ ⟨Nat.zero_le _, Nat.zero_le _⟩ rfl (Nat.le_of_ble_eq_true rfl) rfl d_L_isPair_22 ?_
  refine W.lcmp hx hb d_L_isPair_25 ?_
  refine lv_if_ne (tgt := 42) hx hb d_L_isPair_26 (by decide) (fun c_26 => ?_) (fun c_26 => ?_)
  · refine lv_iconst (v := (0 : Int32)) hx hb d_L_isPair_42 rfl ?_
    exact hend _ _ _ (by rw [s_L_isPair, if_neg c_26]) d_L_isPair_43
  · refine lv_lload hx hb d_L_isPair_29 (lv_at hl 0 rfl) ?_
    refine lv_aload_n hx hb d_L_isPair_31 rfl (lv_at hl 2 rfl) ?_
    refine lv_iload_n hx hb d_L_isPair_32 rfl (lv_at hl 4 rfl) ?_
    refine lv_iload_n hx hb d_L_isPair_33 rfl (lv_at hl 3 rfl) ?_
    refine lv_iconst (v := (1 : Int32)) hx hb d_L_isPair_34 rfl ?_
    refine k_vl (rest := [.long (s_P_distance S a1 a2 (1 : Int32))]) (c_P_distance l E ad X S a2 a1 (1 : Int32)) mi_P_distance ml_L_71 hx hb hml hts hown hK hP rvP hl ⟨rfl, rfl⟩ ⟨(Nat.le_of_ble_eq_true rfl), (Nat.le_of_ble_eq_true rfl)⟩ ⟨Nat.zero_le _, Nat.zero_le _⟩ rfl (Nat.le_of_ble_eq_true rfl) rfl d_L_isPair_35 ?_
    refine W.lcmp hx hb d_L_isPair_38 ?_
    refine lv_if_eq (tgt := 44) hx hb d_L_isPair_39 (by decide) (fun c_39 => ?_) (fun c_39 => ?_)
    · refine lv_lload_n hx hb d_L_isPair_44 rfl (lv_at hl 1 rfl) ?_
      refine lv_ldc2 (v := (-9223372036854775808 : Int64)) hx hb hown (hts _ kl_L_75) d_L_isPair_45 ?_
      refine W.lcmp hx hb d_L_isPair_48 ?_
      refine lv_if_eq (tgt := 60) hx hb d_L_isPair_49 (by decide) (fun c_49 => ?_) (fun c_49 => ?_)
      · exact b60 a1 a2 (s_P_distance S a1 a2 (0 : Int32)) (s_P_distance S a1 a2 (1 : Int32)) ls (lv_sub hl [2, 3, 4, 1, 0] rfl) (by rw [s_L_isPair, if_pos c_26, if_pos c_39, if_pos c_49])
      · refine lv_lload_n hx hb d_L_isPair_52 rfl (lv_at hl 1 rfl) ?_
        refine lv_ldc2 (v := (-9223372036854775807 : Int64)) hx hb hown (hts _ kl_L_77) d_L_isPair_53 ?_
        refine W.lcmp hx hb d_L_isPair_56 ?_
        refine lv_if_ne (tgt := 122) hx hb d_L_isPair_57 (by decide) (fun c_57 => ?_) (fun c_57 => ?_)
        · refine lv_aload_n hx hb d_L_isPair_122 rfl (lv_at hl 2 rfl) ?_
          refine lv_iload_n hx hb d_L_isPair_123 rfl (lv_at hl 3 rfl) ?_
          refine lv_iload_n hx hb d_L_isPair_124 rfl (lv_at hl 4 rfl) ?_
          refine lv_iconst (v := (0 : Int32)) hx hb d_L_isPair_125 rfl ?_
          refine k_vl (rest := []) (c_P_ratio l E ad X S a1 a2 (0 : Int32)) mi_P_ratio ml_L_79 hx hb hml hts hown hK hP rvP hl ⟨rfl, rfl⟩ ⟨(Nat.le_of_ble_eq_true rfl), (Nat.le_of_ble_eq_true rfl)⟩ ⟨Nat.zero_le _, Nat.zero_le _⟩ rfl (Nat.le_of_ble_eq_true rfl) rfl d_L_isPair_126 ?_
          refine lv_lstore (lv' := [(7, .long (s_P_ratio S a1 a2 (0 : Int32))), (5, .long (s_P_distance S a1 a2 (1 : Int32))), (3, .long (s_P_distance S a1 a2 (0 : Int32))), (0, .ref (ad 39)), (1, .int a1), (2, .int a2)]) hx hb d_L_isPair_129 hl (by decide) rfl (fun ls hl => ?_)
          refine lv_aload_n hx hb d_L_isPair_131 rfl (lv_at hl 3 rfl) ?_
          refine lv_iload_n hx hb d_L_isPair_132 rfl (lv_at hl 4 rfl) ?_
          refine lv_iload_n hx hb d_L_isPair_133 rfl (lv_at hl 5 rfl) ?_
          refine lv_iconst (v := (1 : Int32)) hx hb d_L_isPair_134 rfl ?_
          refine k_vl (rest := []) (c_P_ratio l E ad X S a1 a2 (1 : Int32)) mi_P_ratio ml_L_79 hx hb hml hts hown hK hP rvP hl ⟨rfl, rfl⟩ ⟨(Nat.le_of_ble_eq_true rfl), (Nat.le_of_ble_eq_true rfl)⟩ ⟨Nat.zero_le _, Nat.zero_le _⟩ rfl (Nat.le_of_ble_eq_true rfl) rfl d_L_isPair_135 ?_
          refine lv_lstore (lv' := [(9, .long (s_P_ratio S a1 a2 (1 : Int32))), (7, .long (s_P_ratio S a1 a2 (0 : Int32))), (5, .long (s_P_distance S a1 a2 (1 : Int32))), (3, .long (s_P_distance S a1 a2 (0 : Int32))), (0, .ref (ad 39)), (1, .int a1), (2, .int a2)]) hx hb d_L_isPair_138 hl (by decide) rfl (fun ls hl => ?_)
          refine lv_aload_n hx hb d_L_isPair_140 rfl (lv_at hl 4 rfl) ?_
          refine lv_iload_n hx hb d_L_isPair_141 rfl (lv_at hl 5 rfl) ?_
          refine lv_iconst (v := (0 : Int32)) hx hb d_L_isPair_142 rfl ?_
          refine k_vi (rest := []) (c_P_of l E ad X S a1 (0 : Int32)) mi_P_of ml_L_82 hx hb hml hts hown hK hP rvP hl ⟨rfl, rfl⟩ ⟨(Nat.le_of_ble_eq_true rfl), (Nat.le_of_ble_eq_true rfl)⟩ ⟨Nat.zero_le _, Nat.zero_le _⟩ rfl (Nat.le_of_ble_eq_true rfl) rfl d_L_isPair_143 ?_
          refine lv_if_lt (tgt := 158) hx hb d_L_isPair_146 (by decide) (fun c_146 => ?_) (fun c_146 => ?_)
          · exact b158 a1 a2 (s_P_distance S a1 a2 (0 : Int32)) (s_P_distance S a1 a2 (1 : Int32)) (s_P_ratio S a1 a2 (0 : Int32)) (s_P_ratio S a1 a2 (1 : Int32)) ls (lv_sub hl [4, 5, 6, 3, 2, 1, 0] rfl) (by rw [s_L_isPair, if_pos c_26, if_pos c_39, if_neg c_49, if_neg c_57, if_pos c_146])
          · refine lv_aload_n hx hb d_L_isPair_149 rfl (lv_at hl 4 rfl) ?_
            refine lv_iload_n hx hb d_L_isPair_150 rfl (lv_at hl 6 rfl) ?_
            refine lv_iconst (v := (0 : Int32)) hx hb d_L_isPair_151 rfl ?_
            refine k_vi (rest := []) (c_P_of l E ad X S a2 (0 : Int32)) mi_P_of ml_L_82 hx hb hml hts hown hK hP rvP hl ⟨rfl, rfl⟩ ⟨(Nat.le_of_ble_eq_true rfl), (Nat.le_of_ble_eq_true rfl)⟩ ⟨Nat.zero_le _, Nat.zero_le _⟩ rfl (Nat.le_of_ble_eq_true rfl) rfl d_L_isPair_152 ?_
            refine lv_if_ge (tgt := 162) hx hb d_L_isPair_155 (by decide) (fun c_155 => ?_) (fun c_155 => ?_)
            · refine lv_iconst (v := (0 : Int32)) hx hb d_L_isPair_162 rfl ?_
              exact b163 a1 a2 (s_P_distance S a1 a2 (0 : Int32)) (s_P_distance S a1 a2 (1 : Int32)) (s_P_ratio S a1 a2 (0 : Int32)) (s_P_ratio S a1 a2 (1 : Int32)) (0 : Int32) ls (lv_sub hl [4, 5, 6, 3, 2, 1, 0] rfl) (by rw [s_L_isPair, if_pos c_26, if_pos c_39, if_neg c_49, if_neg c_57, if_neg c_146, if_pos c_155])
            · exact b158 a1 a2 (s_P_distance S a1 a2 (0 : Int32)) (s_P_distance S a1 a2 (1 : Int32)) (s_P_ratio S a1 a2 (0 : Int32)) (s_P_ratio S a1 a2 (1 : Int32)) ls (lv_sub hl [4, 5, 6, 3, 2, 1, 0] rfl) (by rw [s_L_isPair, if_pos c_26, if_pos c_39, if_neg c_49, if_neg c_57, if_neg c_146, if_neg c_155])
        · exact b60 a1 a2 (s_P_distance S a1 a2 (0 : Int32)) (s_P_distance S a1 a2 (1 : Int32)) ls (lv_sub hl [2, 3, 4, 1, 0] rfl) (by rw [s_L_isPair, if_pos c_26, if_pos c_39, if_neg c_49, if_pos c_57])
    · refine lv_iconst (v := (0 : Int32)) hx hb d_L_isPair_42 rfl ?_
      exact hend _ _ _ (by rw [s_L_isPair, if_pos c_26, if_neg c_39]) d_L_isPair_43

def s_L_isWheel_b150 (S : St) (t0 : Int32) (t1 : Int32) : Int32 := (if t1 = t0 then (1 : Int32) else (0 : Int32))
def s_L_isWheel_b135 (S : St) (x2 : Int32) (x4 : Int32) (t0 : Int32) : Int32 := (if (s_P_fewest S x4) ≤ x2 then (s_L_isWheel_b150 S (0 : Int32) t0) else (s_L_isWheel_b150 S (1 : Int32) t0))
def s_L_isWheel_b106 (S : St) (x1 : Int32) (x2 : Int32) (x4 : Int32) (t0 : Int32) (t1 : Int32) : Int32 := (if t1 = t0 then (if (s_P_fewest S x4) = (-2 : Int32) then (1 : Int32) else (if (s_P_of S x1 (2 : Int32)) = (1 : Int32) then (s_L_isWheel_b135 S x2 x4 (1 : Int32)) else (s_L_isWheel_b135 S x2 x4 (0 : Int32)))) else (0 : Int32))
def s_L_isWheel_b95 (S : St) (x1 : Int32) (x2 : Int32) (x3 : Int32) (x4 : Int32) (t0 : Int32) : Int32 := (if x3 ≤ x4 then (s_L_isWheel_b106 S x1 x2 x4 (0 : Int32) t0) else (s_L_isWheel_b106 S x1 x2 x4 (1 : Int32) t0))
def s_L_isWheel (S : St) (a1 : Int32) : Int32 := (if 0 ≤ (s_P_of S a1 (0 : Int32)) then (if (s_P_of S a1 (0 : Int32)) < (5 : Int32) then (0 : Int32) else (if (s_P_of S a1 (4 : Int32)) < (-50 : Int32) then (0 : Int32) else (if (100 : Int32) < (s_P_of S a1 (4 : Int32)) then (0 : Int32) else (if (s_P_of S a1 (2 : Int32)) = (1 : Int32) then (s_L_isWheel_b95 S a1 (s_P_of S a1 (0 : Int32)) (s_P_of S a1 (4 : Int32)) (s_P_of S a1 (1 : Int32)) (1 : Int32)) else (s_L_isWheel_b95 S a1 (s_P_of S a1 (0 : Int32)) (s_P_of S a1 (4 : Int32)) (s_P_of S a1 (1 : Int32)) (0 : Int32)))))) else (if (-20 : Int32) < (s_P_of S a1 (0 : Int32)) then (0 : Int32) else (if (s_P_of S a1 (4 : Int32)) = (-1001 : Int32) then (if (s_P_of S a1 (2 : Int32)) = 0 then (if (s_P_of S a1 (3 : Int32)) = 0 then (1 : Int32) else (0 : Int32)) else (0 : Int32)) else (0 : Int32))))
theorem z_L_isWheel_b150 (S : St) (t0 : Int32) (t1 : Int32) : (s_L_isWheel_b150 S t0 t1) = 0 ∨ (s_L_isWheel_b150 S t0 t1) = 1 := by rw [s_L_isWheel_b150]; exact (ite_z (Or.inr rfl) (Or.inl rfl))
theorem z_L_isWheel_b135 (S : St) (x2 : Int32) (x4 : Int32) (t0 : Int32) : (s_L_isWheel_b135 S x2 x4 t0) = 0 ∨ (s_L_isWheel_b135 S x2 x4 t0) = 1 := by rw [s_L_isWheel_b135]; exact (ite_z (z_L_isWheel_b150 S (0 : Int32) t0) (z_L_isWheel_b150 S (1 : Int32) t0))
theorem z_L_isWheel_b106 (S : St) (x1 : Int32) (x2 : Int32) (x4 : Int32) (t0 : Int32) (t1 : Int32) : (s_L_isWheel_b106 S x1 x2 x4 t0 t1) = 0 ∨ (s_L_isWheel_b106 S x1 x2 x4 t0 t1) = 1 := by rw [s_L_isWheel_b106]; exact (ite_z (ite_z (Or.inr rfl) (ite_z (z_L_isWheel_b135 S x2 x4 (1 : Int32)) (z_L_isWheel_b135 S x2 x4 (0 : Int32)))) (Or.inl rfl))
theorem z_L_isWheel_b95 (S : St) (x1 : Int32) (x2 : Int32) (x3 : Int32) (x4 : Int32) (t0 : Int32) : (s_L_isWheel_b95 S x1 x2 x3 x4 t0) = 0 ∨ (s_L_isWheel_b95 S x1 x2 x3 x4 t0) = 1 := by rw [s_L_isWheel_b95]; exact (ite_z (z_L_isWheel_b106 S x1 x2 x4 (0 : Int32) t0) (z_L_isWheel_b106 S x1 x2 x4 (1 : Int32) t0))
theorem z_L_isWheel (S : St) (a1 : Int32) : (s_L_isWheel S a1) = 0 ∨ (s_L_isWheel S a1) = 1 := by rw [s_L_isWheel]; exact (ite_z (ite_z (Or.inl rfl) (ite_z (Or.inl rfl) (ite_z (Or.inl rfl) (ite_z (z_L_isWheel_b95 S a1 (s_P_of S a1 (0 : Int32)) (s_P_of S a1 (4 : Int32)) (s_P_of S a1 (1 : Int32)) (1 : Int32)) (z_L_isWheel_b95 S a1 (s_P_of S a1 (0 : Int32)) (s_P_of S a1 (4 : Int32)) (s_P_of S a1 (1 : Int32)) (0 : Int32)))))) (ite_z (Or.inl rfl) (ite_z (ite_z (ite_z (Or.inr rfl) (Or.inl rfl)) (Or.inl rfl)) (Or.inl rfl))))
set_option maxRecDepth 20000 in
theorem c_L_isWheel (l : Launch) (E : Cx) (ad : Nat → Nat) (X : va_W) (S : St) (a1 : Int32) : Met l y_L_isWheel (Cond.code y_L_isWheel b_L_isWheel 5 (some .boolean) :: TB) (rk 5 108) (va_Pc [.ref (ad 39), .int a1] (preR E (wb E ad S ++ X))) (vp_Si (fun r => r = (s_L_isWheel S a1))) 0 0 (fun _ => False) := by
  refine w_roI rfl (Nat.le_of_ble_eq_true rfl) (k_nb (z_L_isWheel S a1)) ?_
  intro p e s m args below meth c Q ls hx hb hml hts hown hP hK hl hend
  have hl : lv_has ls 5 [(0, .ref (ad 39)), (1, .int a1)] := hl
  have hP : va_P E.1 vwCl (wb E ad S ++ X) s.heap := hP
  have hown : s.vm.findClass R_L = some m.cls := hown
  have b150 : ∀ (t0 : Int32) (t1 : Int32), ∀ (ls : Array Slot), lv_has ls 5 [] → (s_L_isWheel S a1) = s_L_isWheel_b150 S t0 t1 → W p l e (rk 5 108) s m args below meth c s.heap [] 0 0 Q (F0 m 150 ls [.int t0, .int t1]) := by
    intro t0 t1 ls hl hq
    refine lv_icmp_ne (tgt := 157) hx hb d_L_isWheel_150 (by decide) (fun c_150 => ?_) (fun c_150 => ?_)
    · refine lv_iconst (v := (0 : Int32)) hx hb d_L_isWheel_157 rfl ?_
      exact hend _ _ _ (by rw [hq, s_L_isWheel_b150, if_neg c_150]) d_L_isWheel_158
    · refine lv_iconst (v := (1 : Int32)) hx hb d_L_isWheel_153 rfl ?_
      refine lv_goto (tgt := 158) hx hb d_L_isWheel_154 (by decide) ?_
      exact hend _ _ _ (by rw [hq, s_L_isWheel_b150, if_pos c_150]) d_L_isWheel_158
  have b135 : ∀ (x2 : Int32) (x4 : Int32) (t0 : Int32), ∀ (ls : Array Slot), lv_has ls 5 [(0, .ref (ad 39)), (2, .int x2), (4, .int x4)] → (s_L_isWheel S a1) = s_L_isWheel_b135 S x2 x4 t0 → W p l e (rk 5 108) s m args below meth c s.heap [] 0 0 Q (F0 m 135 ls [.int t0]) := by
    intro x2 x4 t0 ls hl hq
    refine lv_iload_n hx hb d_L_isWheel_135 rfl (lv_at hl 1 rfl) ?_
    refine lv_aload_n hx hb d_L_isWheel_136 rfl (lv_at hl 0 rfl) ?_
    refine lv_iload hx hb d_L_isWheel_137 (lv_at hl 2 rfl) ?_
    refine k_vi (rest := [.int x2, .int t0]) (c_P_fewest l E ad X S x4) mi_P_fewest ml_L_102 hx hb hml hts hown hK hP rvP hl ⟨rfl, rfl⟩ ⟨(Nat.le_of_ble_eq_true rfl), (Nat.le_of_ble_eq_true rfl)⟩ ⟨Nat.zero_le _, Nat.zero_le _⟩ rfl (Nat.le_of_ble_eq_true rfl) rfl d_L_isWheel_139 ?_
    refine lv_icmp_ge (tgt := 149) hx hb d_L_isWheel_142 (by decide) (fun c_142 => ?_) (fun c_142 => ?_)
    · refine lv_iconst (v := (0 : Int32)) hx hb d_L_isWheel_149 rfl ?_
      exact b150 (0 : Int32) t0 ls (lv_sub hl [] rfl) (by rw [hq, s_L_isWheel_b135, if_pos c_142])
    · refine lv_iconst (v := (1 : Int32)) hx hb d_L_isWheel_145 rfl ?_
      refine lv_goto (tgt := 150) hx hb d_L_isWheel_146 (by decide) ?_
      exact b150 (1 : Int32) t0 ls (lv_sub hl [] rfl) (by rw [hq, s_L_isWheel_b135, if_neg c_142])
  have b106 : ∀ (x1 : Int32) (x2 : Int32) (x4 : Int32) (t0 : Int32) (t1 : Int32), ∀ (ls : Array Slot), lv_has ls 5 [(0, .ref (ad 39)), (1, .int x1), (2, .int x2), (4, .int x4)] → (s_L_isWheel S a1) = s_L_isWheel_b106 S x1 x2 x4 t0 t1 → W p l e (rk 5 108) s m args below meth c s.heap [] 0 0 Q (F0 m 106 ls [.int t0, .int t1]) := by
    intro x1 x2 x4 t0 t1 ls hl hq
    refine lv_icmp_ne (tgt := 157) hx hb d_L_isWheel_106 (by decide) (fun c_106 => ?_) (fun c_106 => ?_)
    · refine lv_iconst (v := (0 : Int32)) hx hb d_L_isWheel_157 rfl ?_
      exact hend _ _ _ (by rw [hq, s_L_isWheel_b106, if_neg c_106]) d_L_isWheel_158
    · refine lv_aload_n hx hb d_L_isWheel_109 rfl (lv_at hl 0 rfl) ?_
      refine lv_iload hx hb d_L_isWheel_110 (lv_at hl 3 rfl) ?_
      refine k_vi (rest := []) (c_P_fewest l E ad X S x4) mi_P_fewest ml_L_102 hx hb hml hts hown hK hP rvP hl ⟨rfl, rfl⟩ ⟨(Nat.le_of_ble_eq_true rfl), (Nat.le_of_ble_eq_true rfl)⟩ ⟨Nat.zero_le _, Nat.zero_le _⟩ rfl (Nat.le_of_ble_eq_true rfl) rfl d_L_isWheel_112 ?_
      refine lv_bipush (v := (-2 : Int32)) hx hb d_L_isWheel_115 rfl ?_
      refine lv_icmp_eq (tgt := 153) hx hb d_L_isWheel_117 (by decide) (fun c_117 => ?_) (fun c_117 => ?_)
      · refine lv_iconst (v := (1 : Int32)) hx hb d_L_isWheel_153 rfl ?_
        refine lv_goto (tgt := 158) hx hb d_L_isWheel_154 (by decide) ?_
        exact hend _ _ _ (by rw [hq, s_L_isWheel_b106, if_pos c_106, if_pos c_117]) d_L_isWheel_158
      · refine lv_aload_n hx hb d_L_isWheel_120 rfl (lv_at hl 0 rfl) ?_
        refine lv_iload_n hx hb d_L_isWheel_121 rfl (lv_at hl 1 rfl) ?_
        refine lv_iconst (v := (2 : Int32)) hx hb d_L_isWheel_122 rfl ?_
        refine k_vi (rest := []) (c_P_of l E ad X S x1 (2 : Int32)) mi_P_of ml_L_82 hx hb hml hts hown hK hP rvP hl ⟨rfl, rfl⟩ ⟨(Nat.le_of_ble_eq_true rfl), (Nat.le_of_ble_eq_true rfl)⟩ ⟨Nat.zero_le _, Nat.zero_le _⟩ rfl (Nat.le_of_ble_eq_true rfl) rfl d_L_isWheel_123 ?_
        refine lv_iconst (v := (1 : Int32)) hx hb d_L_isWheel_126 rfl ?_
        refine lv_icmp_ne (tgt := 134) hx hb d_L_isWheel_127 (by decide) (fun c_127 => ?_) (fun c_127 => ?_)
        · refine lv_iconst (v := (0 : Int32)) hx hb d_L_isWheel_134 rfl ?_
          exact b135 x2 x4 (0 : Int32) ls (lv_sub hl [0, 2, 3] rfl) (by rw [hq, s_L_isWheel_b106, if_pos c_106, if_neg c_117, if_neg c_127])
        · refine lv_iconst (v := (1 : Int32)) hx hb d_L_isWheel_130 rfl ?_
          refine lv_goto (tgt := 135) hx hb d_L_isWheel_131 (by decide) ?_
          exact b135 x2 x4 (1 : Int32) ls (lv_sub hl [0, 2, 3] rfl) (by rw [hq, s_L_isWheel_b106, if_pos c_106, if_neg c_117, if_pos c_127])
  have b95 : ∀ (x1 : Int32) (x2 : Int32) (x3 : Int32) (x4 : Int32) (t0 : Int32), ∀ (ls : Array Slot), lv_has ls 5 [(0, .ref (ad 39)), (1, .int x1), (2, .int x2), (3, .int x3), (4, .int x4)] → (s_L_isWheel S a1) = s_L_isWheel_b95 S x1 x2 x3 x4 t0 → W p l e (rk 5 108) s m args below meth c s.heap [] 0 0 Q (F0 m 95 ls [.int t0]) := by
    intro x1 x2 x3 x4 t0 ls hl hq
    refine lv_iload hx hb d_L_isWheel_95 (lv_at hl 4 rfl) ?_
    refine lv_iload_n hx hb d_L_isWheel_97 rfl (lv_at hl 3 rfl) ?_
    refine lv_icmp_ge (tgt := 105) hx hb d_L_isWheel_98 (by decide) (fun c_98 => ?_) (fun c_98 => ?_)
    · refine lv_iconst (v := (0 : Int32)) hx hb d_L_isWheel_105 rfl ?_
      exact b106 x1 x2 x4 (0 : Int32) t0 ls (lv_sub hl [0, 1, 2, 4] rfl) (by rw [hq, s_L_isWheel_b95, if_pos c_98])
    · refine lv_iconst (v := (1 : Int32)) hx hb d_L_isWheel_101 rfl ?_
      refine lv_goto (tgt := 106) hx hb d_L_isWheel_102 (by decide) ?_
      exact b106 x1 x2 x4 (1 : Int32) t0 ls (lv_sub hl [0, 1, 2, 4] rfl) (by rw [hq, s_L_isWheel_b95, if_neg c_98])
  refine lv_aload_n hx hb d_L_isWheel_0 rfl (lv_at hl 0 rfl) ?_
  refine lv_iload_n hx hb d_L_isWheel_1 rfl (lv_at hl 1 rfl) ?_
  refine lv_iconst (v := (0 : Int32)) hx hb d_L_isWheel_2 rfl ?_
  refine k_vi (rest := []) (c_P_of l E ad X S a1 (0 : Int32)) mi_P_of ml_L_82 hx hb hml hts hown hK hP rvP hl ⟨rfl, rfl⟩ ⟨(Nat.le_of_ble_eq_true rfl), (Nat.le_of_ble_eq_true rfl)⟩ ⟨Nat.zero_le _, Nat.zero_le _⟩ rfl (Nat.le_of_ble_eq_true rfl) rfl d_L_isWheel_3 ?_
  refine lv_istore_n (lv' := [(2, .int (s_P_of S a1 (0 : Int32))), (0, .ref (ad 39)), (1, .int a1)]) hx hb d_L_isWheel_6 rfl hl (by decide) rfl (fun ls hl => ?_)
  refine lv_aload_n hx hb d_L_isWheel_7 rfl (lv_at hl 1 rfl) ?_
  refine lv_iload_n hx hb d_L_isWheel_8 rfl (lv_at hl 2 rfl) ?_
  refine lv_iconst (v := (4 : Int32)) hx hb d_L_isWheel_9 rfl ?_
  refine k_vi (rest := []) (c_P_of l E ad X S a1 (4 : Int32)) mi_P_of ml_L_82 hx hb hml hts hown hK hP rvP hl ⟨rfl, rfl⟩ ⟨(Nat.le_of_ble_eq_true rfl), (Nat.le_of_ble_eq_true rfl)⟩ ⟨Nat.zero_le _, Nat.zero_le _⟩ rfl (Nat.le_of_ble_eq_true rfl) rfl d_L_isWheel_10 ?_
  refine lv_istore_n (lv' := [(3, .int (s_P_of S a1 (4 : Int32))), (2, .int (s_P_of S a1 (0 : Int32))), (0, .ref (ad 39)), (1, .int a1)]) hx hb d_L_isWheel_13 rfl hl (by decide) rfl (fun ls hl => ?_)
  refine lv_iload_n hx hb d_L_isWheel_14 rfl (lv_at hl 1 rfl) ?_
  refine lv_if_ge (tgt := 55) hx hb d_L_isWheel_15 (by decide) (fun c_15 => ?_) (fun c_15 => ?_)
  · refine lv_aload_n hx hb d_L_isWheel_55 rfl (lv_at hl 2 rfl) ?_
    refine lv_iload_n hx hb d_L_isWheel_56 rfl (lv_at hl 3 rfl) ?_
    refine lv_iconst (v := (1 : Int32)) hx hb d_L_isWheel_57 rfl ?_
    refine k_vi (rest := []) (c_P_of l E ad X S a1 (1 : Int32)) mi_P_of ml_L_82 hx hb hml hts hown hK hP rvP hl ⟨rfl, rfl⟩ ⟨(Nat.le_of_ble_eq_true rfl), (Nat.le_of_ble_eq_true rfl)⟩ ⟨Nat.zero_le _, Nat.zero_le _⟩ rfl (Nat.le_of_ble_eq_true rfl) rfl d_L_isWheel_58 ?_
    refine lv_istore (lv' := [(4, .int (s_P_of S a1 (1 : Int32))), (3, .int (s_P_of S a1 (4 : Int32))), (2, .int (s_P_of S a1 (0 : Int32))), (0, .ref (ad 39)), (1, .int a1)]) hx hb d_L_isWheel_61 hl (by decide) rfl (fun ls hl => ?_)
    refine lv_iload_n hx hb d_L_isWheel_63 rfl (lv_at hl 2 rfl) ?_
    refine lv_iconst (v := (5 : Int32)) hx hb d_L_isWheel_64 rfl ?_
    refine lv_icmp_lt (tgt := 157) hx hb d_L_isWheel_65 (by decide) (fun c_65 => ?_) (fun c_65 => ?_)
    · refine lv_iconst (v := (0 : Int32)) hx hb d_L_isWheel_157 rfl ?_
      exact hend _ _ _ (by rw [s_L_isWheel, if_pos c_15, if_pos c_65]) d_L_isWheel_158
    · refine lv_iload_n hx hb d_L_isWheel_68 rfl (lv_at hl 1 rfl) ?_
      refine lv_bipush (v := (-50 : Int32)) hx hb d_L_isWheel_69 rfl ?_
      refine lv_icmp_lt (tgt := 157) hx hb d_L_isWheel_71 (by decide) (fun c_71 => ?_) (fun c_71 => ?_)
      · refine lv_iconst (v := (0 : Int32)) hx hb d_L_isWheel_157 rfl ?_
        exact hend _ _ _ (by rw [s_L_isWheel, if_pos c_15, if_neg c_65, if_pos c_71]) d_L_isWheel_158
      · refine lv_iload_n hx hb d_L_isWheel_74 rfl (lv_at hl 1 rfl) ?_
        refine lv_bipush (v := (100 : Int32)) hx hb d_L_isWheel_75 rfl ?_
        refine lv_icmp_gt (tgt := 157) hx hb d_L_isWheel_77 (by decide) (fun c_77 => ?_) (fun c_77 => ?_)
        · refine lv_iconst (v := (0 : Int32)) hx hb d_L_isWheel_157 rfl ?_
          exact hend _ _ _ (by rw [s_L_isWheel, if_pos c_15, if_neg c_65, if_neg c_71, if_pos c_77]) d_L_isWheel_158
        · refine lv_aload_n hx hb d_L_isWheel_80 rfl (lv_at hl 3 rfl) ?_
          refine lv_iload_n hx hb d_L_isWheel_81 rfl (lv_at hl 4 rfl) ?_
          refine lv_iconst (v := (2 : Int32)) hx hb d_L_isWheel_82 rfl ?_
          refine k_vi (rest := []) (c_P_of l E ad X S a1 (2 : Int32)) mi_P_of ml_L_82 hx hb hml hts hown hK hP rvP hl ⟨rfl, rfl⟩ ⟨(Nat.le_of_ble_eq_true rfl), (Nat.le_of_ble_eq_true rfl)⟩ ⟨Nat.zero_le _, Nat.zero_le _⟩ rfl (Nat.le_of_ble_eq_true rfl) rfl d_L_isWheel_83 ?_
          refine lv_iconst (v := (1 : Int32)) hx hb d_L_isWheel_86 rfl ?_
          refine lv_icmp_ne (tgt := 94) hx hb d_L_isWheel_87 (by decide) (fun c_87 => ?_) (fun c_87 => ?_)
          · refine lv_iconst (v := (0 : Int32)) hx hb d_L_isWheel_94 rfl ?_
            exact b95 a1 (s_P_of S a1 (0 : Int32)) (s_P_of S a1 (4 : Int32)) (s_P_of S a1 (1 : Int32)) (0 : Int32) ls (lv_sub hl [3, 4, 2, 1, 0] rfl) (by rw [s_L_isWheel, if_pos c_15, if_neg c_65, if_neg c_71, if_neg c_77, if_neg c_87])
          · refine lv_iconst (v := (1 : Int32)) hx hb d_L_isWheel_90 rfl ?_
            refine lv_goto (tgt := 95) hx hb d_L_isWheel_91 (by decide) ?_
            exact b95 a1 (s_P_of S a1 (0 : Int32)) (s_P_of S a1 (4 : Int32)) (s_P_of S a1 (1 : Int32)) (1 : Int32) ls (lv_sub hl [3, 4, 2, 1, 0] rfl) (by rw [s_L_isWheel, if_pos c_15, if_neg c_65, if_neg c_71, if_neg c_77, if_pos c_87])
  · refine lv_iload_n hx hb d_L_isWheel_18 rfl (lv_at hl 1 rfl) ?_
    refine lv_bipush (v := (-20 : Int32)) hx hb d_L_isWheel_19 rfl ?_
    refine lv_icmp_gt (tgt := 53) hx hb d_L_isWheel_21 (by decide) (fun c_21 => ?_) (fun c_21 => ?_)
    · refine lv_iconst (v := (0 : Int32)) hx hb d_L_isWheel_53 rfl ?_
      exact hend _ _ _ (by rw [s_L_isWheel, if_neg c_15, if_pos c_21]) d_L_isWheel_54
    · refine lv_iload_n hx hb d_L_isWheel_24 rfl (lv_at hl 0 rfl) ?_
      refine lv_sipush (v := (-1001 : Int32)) hx hb d_L_isWheel_25 rfl ?_
      refine lv_icmp_ne (tgt := 53) hx hb d_L_isWheel_28 (by decide) (fun c_28 => ?_) (fun c_28 => ?_)
      · refine lv_iconst (v := (0 : Int32)) hx hb d_L_isWheel_53 rfl ?_
        exact hend _ _ _ (by rw [s_L_isWheel, if_neg c_15, if_neg c_21, if_neg c_28]) d_L_isWheel_54
      · refine lv_aload_n hx hb d_L_isWheel_31 rfl (lv_at hl 2 rfl) ?_
        refine lv_iload_n hx hb d_L_isWheel_32 rfl (lv_at hl 3 rfl) ?_
        refine lv_iconst (v := (2 : Int32)) hx hb d_L_isWheel_33 rfl ?_
        refine k_vi (rest := []) (c_P_of l E ad X S a1 (2 : Int32)) mi_P_of ml_L_82 hx hb hml hts hown hK hP rvP hl ⟨rfl, rfl⟩ ⟨(Nat.le_of_ble_eq_true rfl), (Nat.le_of_ble_eq_true rfl)⟩ ⟨Nat.zero_le _, Nat.zero_le _⟩ rfl (Nat.le_of_ble_eq_true rfl) rfl d_L_isWheel_34 ?_
        refine lv_if_ne (tgt := 53) hx hb d_L_isWheel_37 (by decide) (fun c_37 => ?_) (fun c_37 => ?_)
        · refine lv_iconst (v := (0 : Int32)) hx hb d_L_isWheel_53 rfl ?_
          exact hend _ _ _ (by rw [s_L_isWheel, if_neg c_15, if_neg c_21, if_pos c_28, if_neg c_37]) d_L_isWheel_54
        · refine lv_aload_n hx hb d_L_isWheel_40 rfl (lv_at hl 2 rfl) ?_
          refine lv_iload_n hx hb d_L_isWheel_41 rfl (lv_at hl 3 rfl) ?_
          refine lv_iconst (v := (3 : Int32)) hx hb d_L_isWheel_42 rfl ?_
          refine k_vi (rest := []) (c_P_of l E ad X S a1 (3 : Int32)) mi_P_of ml_L_82 hx hb hml hts hown hK hP rvP hl ⟨rfl, rfl⟩ ⟨(Nat.le_of_ble_eq_true rfl), (Nat.le_of_ble_eq_true rfl)⟩ ⟨Nat.zero_le _, Nat.zero_le _⟩ rfl (Nat.le_of_ble_eq_true rfl) rfl d_L_isWheel_43 ?_
          refine lv_if_ne (tgt := 53) hx hb d_L_isWheel_46 (by decide) (fun c_46 => ?_) (fun c_46 => ?_)
          · refine lv_iconst (v := (0 : Int32)) hx hb d_L_isWheel_53 rfl ?_
            exact hend _ _ _ (by rw [s_L_isWheel, if_neg c_15, if_neg c_21, if_pos c_28, if_pos c_37, if_neg c_46]) d_L_isWheel_54
          · refine lv_iconst (v := (1 : Int32)) hx hb d_L_isWheel_49 rfl ?_
            refine lv_goto (tgt := 54) hx hb d_L_isWheel_50 (by decide) ?_
            exact hend _ _ _ (by rw [s_L_isWheel, if_neg c_15, if_neg c_21, if_pos c_28, if_pos c_37, if_pos c_46]) d_L_isWheel_54

def s_L_isTrain (S : St) : Int32 := (if (s_P_count S (1 : Int32)) = 0 then (if (s_P_faulty S) = (-2 : Int32) then (if (lg_cmp (s_P_train S (0 : Int32)) (-9223372036854775808 : Int64)) = 0 then (if (lg_cmp (s_P_closest S (0 : Int32)) (-9223372036854775808 : Int64)) = 0 then (1 : Int32) else (0 : Int32)) else (0 : Int32)) else (0 : Int32)) else (if (s_P_faulty S) < 0 then (if (lg_cmp (s_P_train S (0 : Int32)) (0 : Int64)) = 0 then (0 : Int32) else (if (lg_cmp (s_P_train S (1 : Int32)) (0 : Int64)) ≤ 0 then (0 : Int32) else (if (lg_cmp (s_P_closest S (0 : Int32)) (0 : Int64)) < 0 then (0 : Int32) else (if 0 ≤ (lg_cmp (s_P_closest S (0 : Int32)) ((s_P_count S (1 : Int32)).toInt64)) then (0 : Int32) else (if (lg_cmp (s_P_closest S (1 : Int32)) (0 : Int64)) ≤ 0 then (0 : Int32) else (if (lg_cmp ((100 : Int64) - (100 : Int64) / (s_P_closest S (2 : Int32)) * (s_P_closest S (2 : Int32))) (0 : Int64)) = 0 then (1 : Int32) else (0 : Int32))))))) else (if (s_P_count S (1 : Int32)) ≤ (s_P_faulty S) then (0 : Int32) else (if (lg_cmp (s_P_train S (1 : Int32)) (-9223372036854775807 : Int64)) = 0 then (if (lg_cmp (s_P_closest S (2 : Int32)) (-9223372036854775807 : Int64)) = 0 then (1 : Int32) else (0 : Int32)) else (0 : Int32)))))
theorem z_L_isTrain (S : St) : (s_L_isTrain S) = 0 ∨ (s_L_isTrain S) = 1 := by rw [s_L_isTrain]; exact (ite_z (ite_z (ite_z (ite_z (Or.inr rfl) (Or.inl rfl)) (Or.inl rfl)) (Or.inl rfl)) (ite_z (ite_z (Or.inl rfl) (ite_z (Or.inl rfl) (ite_z (Or.inl rfl) (ite_z (Or.inl rfl) (ite_z (Or.inl rfl) (ite_z (Or.inr rfl) (Or.inl rfl))))))) (ite_z (Or.inl rfl) (ite_z (ite_z (Or.inr rfl) (Or.inl rfl)) (Or.inl rfl)))))
set_option maxRecDepth 20000 in
theorem c_L_isTrain (l : Launch) (E : Cx) (ad : Nat → Nat) (X : va_W) (S : St) (hz : ¬ s_P_closest S (2 : Int32) = 0) : Met l y_L_isTrain (Cond.code y_L_isTrain b_L_isTrain 9 (some .boolean) :: TB) (rk 6 134) (va_Pc [.ref (ad 39)] (preR E (wb E ad S ++ X))) (vp_Si (fun r => r = (s_L_isTrain S))) 0 0 (fun _ => False) := by
  refine w_roI rfl (Nat.le_of_ble_eq_true rfl) (k_nb (z_L_isTrain S)) ?_
  intro p e s m args below meth c Q ls hx hb hml hts hown hP hK hl hend
  have hl : lv_has ls 9 [(0, .ref (ad 39))] := hl
  have hP : va_P E.1 vwCl (wb E ad S ++ X) s.heap := hP
  have hown : s.vm.findClass R_L = some m.cls := hown
  refine lv_aload_n hx hb d_L_isTrain_0 rfl (lv_at hl 0 rfl) ?_
  refine lv_iconst (v := (1 : Int32)) hx hb d_L_isTrain_1 rfl ?_
  refine k_vi (rest := []) (c_P_count l E ad X S (1 : Int32)) mi_P_count ml_L_8 hx hb hml hts hown hK hP rvP hl ⟨rfl, rfl⟩ ⟨(Nat.le_of_ble_eq_true rfl), (Nat.le_of_ble_eq_true rfl)⟩ ⟨Nat.zero_le _, Nat.zero_le _⟩ rfl (Nat.le_of_ble_eq_true rfl) rfl d_L_isTrain_2 ?_
  refine lv_istore_n (lv' := [(1, .int (s_P_count S (1 : Int32))), (0, .ref (ad 39))]) hx hb d_L_isTrain_5 rfl hl (by decide) rfl (fun ls hl => ?_)
  refine lv_aload_n hx hb d_L_isTrain_6 rfl (lv_at hl 1 rfl) ?_
  refine k_vi (rest := []) (c_P_faulty l E ad X S) mi_P_faulty ml_L_31 hx hb hml hts hown hK hP rvP hl ⟨rfl, rfl⟩ ⟨(Nat.le_of_ble_eq_true rfl), (Nat.le_of_ble_eq_true rfl)⟩ ⟨Nat.zero_le _, Nat.zero_le _⟩ rfl (Nat.le_of_ble_eq_true rfl) rfl d_L_isTrain_7 ?_
  refine lv_istore_n (lv' := [(2, .int (s_P_faulty S)), (1, .int (s_P_count S (1 : Int32))), (0, .ref (ad 39))]) hx hb d_L_isTrain_10 rfl hl (by decide) rfl (fun ls hl => ?_)
  refine lv_iload_n hx hb d_L_isTrain_11 rfl (lv_at hl 1 rfl) ?_
  refine lv_if_ne (tgt := 51) hx hb d_L_isTrain_12 (by decide) (fun c_12 => ?_) (fun c_12 => ?_)
  · refine lv_iload_n hx hb d_L_isTrain_51 rfl (lv_at hl 0 rfl) ?_
    refine lv_if_lt (tgt := 90) hx hb d_L_isTrain_52 (by decide) (fun c_52 => ?_) (fun c_52 => ?_)
    · refine lv_aload_n hx hb d_L_isTrain_90 rfl (lv_at hl 2 rfl) ?_
      refine lv_iconst (v := (0 : Int32)) hx hb d_L_isTrain_91 rfl ?_
      refine k_vl (rest := []) (c_P_train l E ad X S (0 : Int32)) mi_P_train ml_L_105 hx hb hml hts hown hK hP rvP hl ⟨rfl, rfl⟩ ⟨(Nat.le_of_ble_eq_true rfl), (Nat.le_of_ble_eq_true rfl)⟩ ⟨Nat.zero_le _, Nat.zero_le _⟩ rfl (Nat.le_of_ble_eq_true rfl) rfl d_L_isTrain_92 ?_
      refine lv_lstore_n (lv' := [(3, .long (s_P_train S (0 : Int32))), (2, .int (s_P_faulty S)), (1, .int (s_P_count S (1 : Int32))), (0, .ref (ad 39))]) hx hb d_L_isTrain_95 rfl hl (by decide) rfl (fun ls hl => ?_)
      refine lv_aload_n hx hb d_L_isTrain_96 rfl (lv_at hl 3 rfl) ?_
      refine lv_iconst (v := (1 : Int32)) hx hb d_L_isTrain_97 rfl ?_
      refine k_vl (rest := []) (c_P_train l E ad X S (1 : Int32)) mi_P_train ml_L_105 hx hb hml hts hown hK hP rvP hl ⟨rfl, rfl⟩ ⟨(Nat.le_of_ble_eq_true rfl), (Nat.le_of_ble_eq_true rfl)⟩ ⟨Nat.zero_le _, Nat.zero_le _⟩ rfl (Nat.le_of_ble_eq_true rfl) rfl d_L_isTrain_98 ?_
      refine lv_lstore (lv' := [(5, .long (s_P_train S (1 : Int32))), (3, .long (s_P_train S (0 : Int32))), (2, .int (s_P_faulty S)), (1, .int (s_P_count S (1 : Int32))), (0, .ref (ad 39))]) hx hb d_L_isTrain_101 hl (by decide) rfl (fun ls hl => ?_)
      refine lv_aload_n hx hb d_L_isTrain_103 rfl (lv_at hl 4 rfl) ?_
      refine lv_iconst (v := (0 : Int32)) hx hb d_L_isTrain_104 rfl ?_
      refine k_vl (rest := []) (c_P_closest l E ad X S (0 : Int32)) mi_P_closest ml_L_109 hx hb hml hts hown hK hP rvP hl ⟨rfl, rfl⟩ ⟨(Nat.le_of_ble_eq_true rfl), (Nat.le_of_ble_eq_true rfl)⟩ ⟨Nat.zero_le _, Nat.zero_le _⟩ rfl (Nat.le_of_ble_eq_true rfl) rfl d_L_isTrain_105 ?_
      refine lv_lstore (lv' := [(7, .long (s_P_closest S (0 : Int32))), (5, .long (s_P_train S (1 : Int32))), (3, .long (s_P_train S (0 : Int32))), (2, .int (s_P_faulty S)), (1, .int (s_P_count S (1 : Int32))), (0, .ref (ad 39))]) hx hb d_L_isTrain_108 hl (by decide) rfl (fun ls hl => ?_)
      refine lv_lload_n hx hb d_L_isTrain_110 rfl (lv_at hl 2 rfl) ?_
      refine lv_lconst (v := (0 : Int64)) hx hb d_L_isTrain_111 rfl ?_
      refine W.lcmp hx hb d_L_isTrain_112 ?_
      refine lv_if_eq (tgt := 166) hx hb d_L_isTrain_113 (by decide) (fun c_113 => ?_) (fun c_113 => ?_)
      · refine lv_iconst (v := (0 : Int32)) hx hb d_L_isTrain_166 rfl ?_
        exact hend _ _ _ (by rw [s_L_isTrain, if_neg c_12, if_pos c_52, if_pos c_113]) d_L_isTrain_167
      · refine lv_lload hx hb d_L_isTrain_116 (lv_at hl 1 rfl) ?_
        refine lv_lconst (v := (0 : Int64)) hx hb d_L_isTrain_118 rfl ?_
        refine W.lcmp hx hb d_L_isTrain_119 ?_
        refine lv_if_le (tgt := 166) hx hb d_L_isTrain_120 (by decide) (fun c_120 => ?_) (fun c_120 => ?_)
        · refine lv_iconst (v := (0 : Int32)) hx hb d_L_isTrain_166 rfl ?_
          exact hend _ _ _ (by rw [s_L_isTrain, if_neg c_12, if_pos c_52, if_neg c_113, if_pos c_120]) d_L_isTrain_167
        · refine lv_lload hx hb d_L_isTrain_123 (lv_at hl 0 rfl) ?_
          refine lv_lconst (v := (0 : Int64)) hx hb d_L_isTrain_125 rfl ?_
          refine W.lcmp hx hb d_L_isTrain_126 ?_
          refine lv_if_lt (tgt := 166) hx hb d_L_isTrain_127 (by decide) (fun c_127 => ?_) (fun c_127 => ?_)
          · refine lv_iconst (v := (0 : Int32)) hx hb d_L_isTrain_166 rfl ?_
            exact hend _ _ _ (by rw [s_L_isTrain, if_neg c_12, if_pos c_52, if_neg c_113, if_neg c_120, if_pos c_127]) d_L_isTrain_167
          · refine lv_lload hx hb d_L_isTrain_130 (lv_at hl 0 rfl) ?_
            refine lv_iload_n hx hb d_L_isTrain_132 rfl (lv_at hl 4 rfl) ?_
            refine lv_i2l hx hb d_L_isTrain_133 rfl ?_
            refine W.lcmp hx hb d_L_isTrain_134 ?_
            refine lv_if_ge (tgt := 166) hx hb d_L_isTrain_135 (by decide) (fun c_135 => ?_) (fun c_135 => ?_)
            · refine lv_iconst (v := (0 : Int32)) hx hb d_L_isTrain_166 rfl ?_
              exact hend _ _ _ (by rw [s_L_isTrain, if_neg c_12, if_pos c_52, if_neg c_113, if_neg c_120, if_neg c_127, if_pos c_135]) d_L_isTrain_167
            · refine lv_aload_n hx hb d_L_isTrain_138 rfl (lv_at hl 5 rfl) ?_
              refine lv_iconst (v := (1 : Int32)) hx hb d_L_isTrain_139 rfl ?_
              refine k_vl (rest := []) (c_P_closest l E ad X S (1 : Int32)) mi_P_closest ml_L_109 hx hb hml hts hown hK hP rvP hl ⟨rfl, rfl⟩ ⟨(Nat.le_of_ble_eq_true rfl), (Nat.le_of_ble_eq_true rfl)⟩ ⟨Nat.zero_le _, Nat.zero_le _⟩ rfl (Nat.le_of_ble_eq_true rfl) rfl d_L_isTrain_140 ?_
              refine lv_lconst (v := (0 : Int64)) hx hb d_L_isTrain_143 rfl ?_
              refine W.lcmp hx hb d_L_isTrain_144 ?_
              refine lv_if_le (tgt := 166) hx hb d_L_isTrain_145 (by decide) (fun c_145 => ?_) (fun c_145 => ?_)
              · refine lv_iconst (v := (0 : Int32)) hx hb d_L_isTrain_166 rfl ?_
                exact hend _ _ _ (by rw [s_L_isTrain, if_neg c_12, if_pos c_52, if_neg c_113, if_neg c_120, if_neg c_127, if_neg c_135, if_pos c_145]) d_L_isTrain_167
              · refine lv_ldc2 (v := (100 : Int64)) hx hb hown (hts _ kl_L_88) d_L_isTrain_148 ?_
                refine lv_aload_n hx hb d_L_isTrain_151 rfl (lv_at hl 5 rfl) ?_
                refine lv_iconst (v := (2 : Int32)) hx hb d_L_isTrain_152 rfl ?_
                refine k_vl (rest := [.long (100 : Int64)]) (c_P_closest l E ad X S (2 : Int32)) mi_P_closest ml_L_109 hx hb hml hts hown hK hP rvP hl ⟨rfl, rfl⟩ ⟨(Nat.le_of_ble_eq_true rfl), (Nat.le_of_ble_eq_true rfl)⟩ ⟨Nat.zero_le _, Nat.zero_le _⟩ rfl (Nat.le_of_ble_eq_true rfl) rfl d_L_isTrain_153 ?_
                refine lv_lrem hx hb d_L_isTrain_156 hz ?_
                refine lv_lconst (v := (0 : Int64)) hx hb d_L_isTrain_157 rfl ?_
                refine W.lcmp hx hb d_L_isTrain_158 ?_
                refine lv_if_ne (tgt := 166) hx hb d_L_isTrain_159 (by decide) (fun c_159 => ?_) (fun c_159 => ?_)
                · refine lv_iconst (v := (0 : Int32)) hx hb d_L_isTrain_166 rfl ?_
                  exact hend _ _ _ (by rw [s_L_isTrain, if_neg c_12, if_pos c_52, if_neg c_113, if_neg c_120, if_neg c_127, if_neg c_135, if_neg c_145, if_neg c_159]) d_L_isTrain_167
                · refine lv_iconst (v := (1 : Int32)) hx hb d_L_isTrain_162 rfl ?_
                  refine lv_goto (tgt := 167) hx hb d_L_isTrain_163 (by decide) ?_
                  exact hend _ _ _ (by rw [s_L_isTrain, if_neg c_12, if_pos c_52, if_neg c_113, if_neg c_120, if_neg c_127, if_neg c_135, if_neg c_145, if_pos c_159]) d_L_isTrain_167
    · refine lv_iload_n hx hb d_L_isTrain_55 rfl (lv_at hl 0 rfl) ?_
      refine lv_iload_n hx hb d_L_isTrain_56 rfl (lv_at hl 1 rfl) ?_
      refine lv_icmp_ge (tgt := 88) hx hb d_L_isTrain_57 (by decide) (fun c_57 => ?_) (fun c_57 => ?_)
      · refine lv_iconst (v := (0 : Int32)) hx hb d_L_isTrain_88 rfl ?_
        exact hend _ _ _ (by rw [s_L_isTrain, if_neg c_12, if_neg c_52, if_pos c_57]) d_L_isTrain_89
      · refine lv_aload_n hx hb d_L_isTrain_60 rfl (lv_at hl 2 rfl) ?_
        refine lv_iconst (v := (1 : Int32)) hx hb d_L_isTrain_61 rfl ?_
        refine k_vl (rest := []) (c_P_train l E ad X S (1 : Int32)) mi_P_train ml_L_105 hx hb hml hts hown hK hP rvP hl ⟨rfl, rfl⟩ ⟨(Nat.le_of_ble_eq_true rfl), (Nat.le_of_ble_eq_true rfl)⟩ ⟨Nat.zero_le _, Nat.zero_le _⟩ rfl (Nat.le_of_ble_eq_true rfl) rfl d_L_isTrain_62 ?_
        refine lv_ldc2 (v := (-9223372036854775807 : Int64)) hx hb hown (hts _ kl_L_77) d_L_isTrain_65 ?_
        refine W.lcmp hx hb d_L_isTrain_68 ?_
        refine lv_if_ne (tgt := 88) hx hb d_L_isTrain_69 (by decide) (fun c_69 => ?_) (fun c_69 => ?_)
        · refine lv_iconst (v := (0 : Int32)) hx hb d_L_isTrain_88 rfl ?_
          exact hend _ _ _ (by rw [s_L_isTrain, if_neg c_12, if_neg c_52, if_neg c_57, if_neg c_69]) d_L_isTrain_89
        · refine lv_aload_n hx hb d_L_isTrain_72 rfl (lv_at hl 2 rfl) ?_
          refine lv_iconst (v := (2 : Int32)) hx hb d_L_isTrain_73 rfl ?_
          refine k_vl (rest := []) (c_P_closest l E ad X S (2 : Int32)) mi_P_closest ml_L_109 hx hb hml hts hown hK hP rvP hl ⟨rfl, rfl⟩ ⟨(Nat.le_of_ble_eq_true rfl), (Nat.le_of_ble_eq_true rfl)⟩ ⟨Nat.zero_le _, Nat.zero_le _⟩ rfl (Nat.le_of_ble_eq_true rfl) rfl d_L_isTrain_74 ?_
          refine lv_ldc2 (v := (-9223372036854775807 : Int64)) hx hb hown (hts _ kl_L_77) d_L_isTrain_77 ?_
          refine W.lcmp hx hb d_L_isTrain_80 ?_
          refine lv_if_ne (tgt := 88) hx hb d_L_isTrain_81 (by decide) (fun c_81 => ?_) (fun c_81 => ?_)
          · refine lv_iconst (v := (0 : Int32)) hx hb d_L_isTrain_88 rfl ?_
            exact hend _ _ _ (by rw [s_L_isTrain, if_neg c_12, if_neg c_52, if_neg c_57, if_pos c_69, if_neg c_81]) d_L_isTrain_89
          · refine lv_iconst (v := (1 : Int32)) hx hb d_L_isTrain_84 rfl ?_
            refine lv_goto (tgt := 89) hx hb d_L_isTrain_85 (by decide) ?_
            exact hend _ _ _ (by rw [s_L_isTrain, if_neg c_12, if_neg c_52, if_neg c_57, if_pos c_69, if_pos c_81]) d_L_isTrain_89
  · refine lv_iload_n hx hb d_L_isTrain_15 rfl (lv_at hl 0 rfl) ?_
    refine lv_bipush (v := (-2 : Int32)) hx hb d_L_isTrain_16 rfl ?_
    refine lv_icmp_ne (tgt := 49) hx hb d_L_isTrain_18 (by decide) (fun c_18 => ?_) (fun c_18 => ?_)
    · refine lv_iconst (v := (0 : Int32)) hx hb d_L_isTrain_49 rfl ?_
      exact hend _ _ _ (by rw [s_L_isTrain, if_pos c_12, if_neg c_18]) d_L_isTrain_50
    · refine lv_aload_n hx hb d_L_isTrain_21 rfl (lv_at hl 2 rfl) ?_
      refine lv_iconst (v := (0 : Int32)) hx hb d_L_isTrain_22 rfl ?_
      refine k_vl (rest := []) (c_P_train l E ad X S (0 : Int32)) mi_P_train ml_L_105 hx hb hml hts hown hK hP rvP hl ⟨rfl, rfl⟩ ⟨(Nat.le_of_ble_eq_true rfl), (Nat.le_of_ble_eq_true rfl)⟩ ⟨Nat.zero_le _, Nat.zero_le _⟩ rfl (Nat.le_of_ble_eq_true rfl) rfl d_L_isTrain_23 ?_
      refine lv_ldc2 (v := (-9223372036854775808 : Int64)) hx hb hown (hts _ kl_L_75) d_L_isTrain_26 ?_
      refine W.lcmp hx hb d_L_isTrain_29 ?_
      refine lv_if_ne (tgt := 49) hx hb d_L_isTrain_30 (by decide) (fun c_30 => ?_) (fun c_30 => ?_)
      · refine lv_iconst (v := (0 : Int32)) hx hb d_L_isTrain_49 rfl ?_
        exact hend _ _ _ (by rw [s_L_isTrain, if_pos c_12, if_pos c_18, if_neg c_30]) d_L_isTrain_50
      · refine lv_aload_n hx hb d_L_isTrain_33 rfl (lv_at hl 2 rfl) ?_
        refine lv_iconst (v := (0 : Int32)) hx hb d_L_isTrain_34 rfl ?_
        refine k_vl (rest := []) (c_P_closest l E ad X S (0 : Int32)) mi_P_closest ml_L_109 hx hb hml hts hown hK hP rvP hl ⟨rfl, rfl⟩ ⟨(Nat.le_of_ble_eq_true rfl), (Nat.le_of_ble_eq_true rfl)⟩ ⟨Nat.zero_le _, Nat.zero_le _⟩ rfl (Nat.le_of_ble_eq_true rfl) rfl d_L_isTrain_35 ?_
        refine lv_ldc2 (v := (-9223372036854775808 : Int64)) hx hb hown (hts _ kl_L_75) d_L_isTrain_38 ?_
        refine W.lcmp hx hb d_L_isTrain_41 ?_
        refine lv_if_ne (tgt := 49) hx hb d_L_isTrain_42 (by decide) (fun c_42 => ?_) (fun c_42 => ?_)
        · refine lv_iconst (v := (0 : Int32)) hx hb d_L_isTrain_49 rfl ?_
          exact hend _ _ _ (by rw [s_L_isTrain, if_pos c_12, if_pos c_18, if_pos c_30, if_neg c_42]) d_L_isTrain_50
        · refine lv_iconst (v := (1 : Int32)) hx hb d_L_isTrain_45 rfl ?_
          refine lv_goto (tgt := 50) hx hb d_L_isTrain_46 (by decide) ?_
          exact hend _ _ _ (by rw [s_L_isTrain, if_pos c_12, if_pos c_18, if_pos c_30, if_pos c_42]) d_L_isTrain_50
