/-! by program (wip/whole/mdl.py) -/
def s_M_areSet (a0 : Int32) (a1 : Int32) : Int32 := (if (s_M_in (a0.toInt64) (5 : Int64) (99 : Int64)) = 0 then (0 : Int32) else (if (s_M_in (a1.toInt64) (5 : Int64) (99 : Int64)) = 0 then (0 : Int32) else (1 : Int32)))
theorem z_M_areSet (a0 : Int32) (a1 : Int32) : (s_M_areSet a0 a1) = 0 ∨ (s_M_areSet a0 a1) = 1 := by rw [s_M_areSet]; exact (ite_z (Or.inl rfl) (ite_z (Or.inl rfl) (Or.inr rfl)))
set_option maxRecDepth 20000 in
theorem c_M_areSet (l : Launch) (E : Cx) (a0 : Int32) (a1 : Int32) : Met l y_M_areSet (Cond.code y_M_areSet b_M_areSet 2 (some .boolean) :: TB) (rk 1 25) (va_Pc [.int a0, .int a1] (preR E [])) (vp_Si (fun r => r = (s_M_areSet a0 a1))) 0 0 (fun _ => False) := by
  refine w_roI rfl (Nat.le_of_ble_eq_true rfl) (k_nb (z_M_areSet a0 a1)) ?_
  intro p e s m args below meth c Q ls hx hb hml hts hown hP hK hl hend
  have hl : lv_has ls 2 [(0, .int a0), (1, .int a1)] := hl
  have hown : s.vm.findClass R_M = some m.cls := hown
  refine lv_iload_n hx hb d_M_areSet_0 rfl (lv_at hl 0 rfl) ?_
  refine lv_i2l hx hb d_M_areSet_1 rfl ?_
  refine lv_ldc2 (v := (5 : Int64)) hx hb hown (hts _ kl_M_62) d_M_areSet_2 ?_
  refine lv_ldc2 (v := (99 : Int64)) hx hb hown (hts _ kl_M_64) d_M_areSet_5 ?_
  refine k_si (rest := []) (c_M_in l E (a0.toInt64) (5 : Int64) (99 : Int64)) mi_M_in ml_M_46 hx hb hml hts hown hK va_nil hl ⟨rfl, rfl⟩ ⟨(Nat.le_of_ble_eq_true rfl), (Nat.le_of_ble_eq_true rfl)⟩ ⟨Nat.zero_le _, Nat.zero_le _⟩ rfl (Nat.le_of_ble_eq_true rfl) rfl d_M_areSet_8 ?_
  refine lv_if_eq (tgt := 32) hx hb d_M_areSet_11 (by decide) (fun c_11 => ?_) (fun c_11 => ?_)
  · refine lv_iconst (v := (0 : Int32)) hx hb d_M_areSet_32 rfl ?_
    exact hend _ _ _ (by rw [s_M_areSet, if_pos c_11]) d_M_areSet_33
  · refine lv_iload_n hx hb d_M_areSet_14 rfl (lv_at hl 1 rfl) ?_
    refine lv_i2l hx hb d_M_areSet_15 rfl ?_
    refine lv_ldc2 (v := (5 : Int64)) hx hb hown (hts _ kl_M_62) d_M_areSet_16 ?_
    refine lv_ldc2 (v := (99 : Int64)) hx hb hown (hts _ kl_M_64) d_M_areSet_19 ?_
    refine k_si (rest := []) (c_M_in l E (a1.toInt64) (5 : Int64) (99 : Int64)) mi_M_in ml_M_46 hx hb hml hts hown hK va_nil hl ⟨rfl, rfl⟩ ⟨(Nat.le_of_ble_eq_true rfl), (Nat.le_of_ble_eq_true rfl)⟩ ⟨Nat.zero_le _, Nat.zero_le _⟩ rfl (Nat.le_of_ble_eq_true rfl) rfl d_M_areSet_22 ?_
    refine lv_if_eq (tgt := 32) hx hb d_M_areSet_25 (by decide) (fun c_25 => ?_) (fun c_25 => ?_)
    · refine lv_iconst (v := (0 : Int32)) hx hb d_M_areSet_32 rfl ?_
      exact hend _ _ _ (by rw [s_M_areSet, if_neg c_11, if_pos c_25]) d_M_areSet_33
    · refine lv_iconst (v := (1 : Int32)) hx hb d_M_areSet_28 rfl ?_
      refine lv_goto (tgt := 33) hx hb d_M_areSet_29 (by decide) ?_
      exact hend _ _ _ (by rw [s_M_areSet, if_neg c_11, if_neg c_25]) d_M_areSet_33
theorem areS {a b : Int32} (h : ¬ s_M_areSet a b = 0) : (5 ≤ a.toInt ∧ a.toInt ≤ 99) ∧ 5 ≤ b.toInt ∧ b.toInt ≤ 99 := by
  rw [s_M_areSet] at h
  have e5 : (5 : Int64).toInt = 5 := by decide
  have e9 : (99 : Int64).toInt = 99 := by decide
  by_cases h1 : s_M_in a.toInt64 5 99 = 0
  · rw [if_pos h1] at h; exact absurd rfl h
  · by_cases h2 : s_M_in b.toInt64 5 99 = 0
    · rw [if_neg h1, if_pos h2] at h; exact absurd rfl h
    · have q1 := in_1 h1
      have q2 := in_1 h2
      rw [i64_of, e5, e9] at q1 q2
      exact ⟨q1, q2⟩
theorem pl1 {a b : Int32} (h : (5 ≤ a.toInt ∧ a.toInt ≤ 99) ∧ 5 ≤ b.toInt ∧ b.toInt ≤ 99) : 0 < a.toInt64.toInt := by rw [i64_of]; omega
theorem pl_r {a b : Int32} (h : (5 ≤ a.toInt ∧ a.toInt ≤ 99) ∧ 5 ≤ b.toInt ∧ b.toInt ≤ 99) : (a + 2 * b).toInt = a.toInt + 2 * b.toInt := by
  have e2 : (2 : Int32).toInt = 2 := by decide
  have e : (2 * b).toInt = 2 * b.toInt := by
    rw [Int32.toInt_mul, e2]
    exact Int.bmod_eq_of_le (by omega) (by omega)
  rw [i32_add (by omega) (by omega), e]
theorem pl2 {a b : Int32} (h : (5 ≤ a.toInt ∧ a.toInt ≤ 99) ∧ 5 ≤ b.toInt ∧ b.toInt ≤ 99) : 0 < (a + 2 * b).toInt64.toInt := by rw [i64_of, pl_r h]; omega
theorem pl3 {a b : Int32} (h : (5 ≤ a.toInt ∧ a.toInt ≤ 99) ∧ 5 ≤ b.toInt ∧ b.toInt ≤ 99) : 0 < (a + (a + 2 * b)).toInt64.toInt := by
  have e := pl_r h
  rw [i64_of, i32_add (by omega) (by omega), e]; omega

def s_M_puts (S : St) (a1 : Int32) (a2 : Int32) (a3 : Int32) : Int32 := (if (((2 : Int32) * (a1 + a2)) - ((2 : Int32) * (a1 + a2)) / a3 * a3) = 0 then (if a3 = (1 : Int32) then (1 : Int32) else (if ((a1 + a2) * (snF a3.toNatClampNeg)) ≤ ((1000 : Int32) * (a2 + (2 : Int32))) then (-2 : Int32) else (1 : Int32))) else (if a3 = (1 : Int32) then (-1 : Int32) else (if ((a1 + a2) * (snF a3.toNatClampNeg)) ≤ ((1000 : Int32) * (a2 + (2 : Int32))) then (-3 : Int32) else (-1 : Int32))))
set_option maxRecDepth 20000 in
theorem c_M_puts (l : Launch) (E : Cx) (ad : Nat → Nat) (X : va_W) (S : St) (a1 : Int32) (a2 : Int32) (a3 : Int32) (hk : k18 a3) : Met l y_M_puts (Cond.code y_M_puts b_M_puts 6 (some .int) :: TB) (rk 0 0) (va_Pc [.ref (ad 0), .int a1, .int a2, .int a3] (preR E (wm E ad S ++ X))) (vp_Si (fun r => r = (s_M_puts S a1 a2 a3))) 0 0 (fun _ => False) := by
  refine w_roI rfl (Nat.le_of_ble_eq_true rfl) rfl ?_
  intro p e s m args below meth c Q ls hx hb hml hts hown hP hK hl hend
  have hl : lv_has ls 6 [(0, .ref (ad 0)), (1, .int a1), (2, .int a2), (3, .int a3)] := hl
  have hP : va_P E.1 vwCl (wm E ad S ++ X) s.heap := hP
  have hown : s.vm.findClass R_M = some m.cls := hown
  refine lv_iconst (v := (2 : Int32)) hx hb d_M_puts_0 rfl ?_
  refine lv_iload_n hx hb d_M_puts_1 rfl (lv_at hl 1 rfl) ?_
  refine lv_iload_n hx hb d_M_puts_2 rfl (lv_at hl 2 rfl) ?_
  refine lv_iadd hx hb d_M_puts_3 ?_
  refine lv_imul hx hb d_M_puts_4 ?_
  refine lv_iload_n hx hb d_M_puts_5 rfl (lv_at hl 3 rfl) ?_
  refine lv_irem hx hb d_M_puts_6 (k18_ne hk) ?_
  refine lv_if_ne (tgt := 14) hx hb d_M_puts_7 (by decide) (fun c_7 => ?_) (fun c_7 => ?_)
  · refine lv_iconst (v := (0 : Int32)) hx hb d_M_puts_14 rfl ?_
    refine lv_istore (lv' := [(4, .int (0 : Int32)), (0, .ref (ad 0)), (1, .int a1), (2, .int a2), (3, .int a3)]) hx hb d_M_puts_15 hl (by decide) rfl (fun ls hl => ?_)
    refine lv_iload_n hx hb d_M_puts_17 rfl (lv_at hl 4 rfl) ?_
    refine lv_iconst (v := (1 : Int32)) hx hb d_M_puts_18 rfl ?_
    refine lv_icmp_eq (tgt := 42) hx hb d_M_puts_19 (by decide) (fun c_19 => ?_) (fun c_19 => ?_)
    · refine lv_iconst (v := (1 : Int32)) hx hb d_M_puts_42 rfl ?_
      refine lv_goto (tgt := 47) hx hb d_M_puts_43 (by decide) ?_
      refine lv_istore (lv' := [(5, .int (1 : Int32)), (4, .int (0 : Int32)), (0, .ref (ad 0)), (1, .int a1), (2, .int a2), (3, .int a3)]) hx hb d_M_puts_47 hl (by decide) rfl (fun ls hl => ?_)
      refine lv_iload hx hb d_M_puts_49 (lv_at hl 1 rfl) ?_
      refine lv_if_eq (tgt := 63) hx hb d_M_puts_51 (by decide) (fun c_51 => ?_) (fun c_51 => absurd c_51 (by decide))
      refine lv_iload hx hb d_M_puts_63 (lv_at hl 0 rfl) ?_
      refine lv_if_eq (tgt := 72) hx hb d_M_puts_65 (by decide) (fun c_65 => absurd c_65 (by decide)) (fun c_65 => ?_)
      refine lv_iconst (v := (-1 : Int32)) hx hb d_M_puts_68 rfl ?_
      refine lv_goto (tgt := 84) hx hb d_M_puts_69 (by decide) ?_
      exact hend _ _ _ (by rw [s_M_puts, if_neg c_7, if_pos c_19]) d_M_puts_84
    · refine lv_iload_n hx hb d_M_puts_22 rfl (lv_at hl 2 rfl) ?_
      refine lv_iload_n hx hb d_M_puts_23 rfl (lv_at hl 3 rfl) ?_
      refine lv_iadd hx hb d_M_puts_24 ?_
      refine lv_aload_n hx hb d_M_puts_25 rfl (lv_at hl 1 rfl) ?_
      refine g_M_sines hx hb hts hown hK hP d_M_puts_26 ?_
      refine lv_iload_n hx hb d_M_puts_29 rfl (lv_at hl 4 rfl) ?_
      refine lm_sines hx hb hK hP (k := a3.toNatClampNeg) (v := (snF a3.toNatClampNeg)) rfl rfl (k18_ix hk) d_M_puts_30 ?_
      refine lv_imul hx hb d_M_puts_31 ?_
      refine lv_sipush (v := (1000 : Int32)) hx hb d_M_puts_32 rfl ?_
      refine lv_iload_n hx hb d_M_puts_35 rfl (lv_at hl 3 rfl) ?_
      refine lv_iconst (v := (2 : Int32)) hx hb d_M_puts_36 rfl ?_
      refine lv_iadd hx hb d_M_puts_37 ?_
      refine lv_imul hx hb d_M_puts_38 ?_
      refine lv_icmp_le (tgt := 46) hx hb d_M_puts_39 (by decide) (fun c_39 => ?_) (fun c_39 => ?_)
      · refine lv_iconst (v := (0 : Int32)) hx hb d_M_puts_46 rfl ?_
        refine lv_istore (lv' := [(5, .int (0 : Int32)), (4, .int (0 : Int32)), (0, .ref (ad 0)), (1, .int a1), (2, .int a2), (3, .int a3)]) hx hb d_M_puts_47 hl (by decide) rfl (fun ls hl => ?_)
        refine lv_iload hx hb d_M_puts_49 (lv_at hl 1 rfl) ?_
        refine lv_if_eq (tgt := 63) hx hb d_M_puts_51 (by decide) (fun c_51 => ?_) (fun c_51 => absurd c_51 (by decide))
        refine lv_iload hx hb d_M_puts_63 (lv_at hl 0 rfl) ?_
        refine lv_if_eq (tgt := 72) hx hb d_M_puts_65 (by decide) (fun c_65 => ?_) (fun c_65 => absurd c_65 (by decide))
        refine lv_iload hx hb d_M_puts_72 (lv_at hl 1 rfl) ?_
        refine lv_if_eq (tgt := 82) hx hb d_M_puts_74 (by decide) (fun c_74 => ?_) (fun c_74 => absurd c_74 (by decide))
        refine lv_bipush (v := (-3 : Int32)) hx hb d_M_puts_82 rfl ?_
        exact hend _ _ _ (by rw [s_M_puts, if_neg c_7, if_neg c_19, if_pos c_39]) d_M_puts_84
      · refine lv_iconst (v := (1 : Int32)) hx hb d_M_puts_42 rfl ?_
        refine lv_goto (tgt := 47) hx hb d_M_puts_43 (by decide) ?_
        refine lv_istore (lv' := [(5, .int (1 : Int32)), (4, .int (0 : Int32)), (0, .ref (ad 0)), (1, .int a1), (2, .int a2), (3, .int a3)]) hx hb d_M_puts_47 hl (by decide) rfl (fun ls hl => ?_)
        refine lv_iload hx hb d_M_puts_49 (lv_at hl 1 rfl) ?_
        refine lv_if_eq (tgt := 63) hx hb d_M_puts_51 (by decide) (fun c_51 => ?_) (fun c_51 => absurd c_51 (by decide))
        refine lv_iload hx hb d_M_puts_63 (lv_at hl 0 rfl) ?_
        refine lv_if_eq (tgt := 72) hx hb d_M_puts_65 (by decide) (fun c_65 => absurd c_65 (by decide)) (fun c_65 => ?_)
        refine lv_iconst (v := (-1 : Int32)) hx hb d_M_puts_68 rfl ?_
        refine lv_goto (tgt := 84) hx hb d_M_puts_69 (by decide) ?_
        exact hend _ _ _ (by rw [s_M_puts, if_neg c_7, if_neg c_19, if_neg c_39]) d_M_puts_84
  · refine lv_iconst (v := (1 : Int32)) hx hb d_M_puts_10 rfl ?_
    refine lv_goto (tgt := 15) hx hb d_M_puts_11 (by decide) ?_
    refine lv_istore (lv' := [(4, .int (1 : Int32)), (0, .ref (ad 0)), (1, .int a1), (2, .int a2), (3, .int a3)]) hx hb d_M_puts_15 hl (by decide) rfl (fun ls hl => ?_)
    refine lv_iload_n hx hb d_M_puts_17 rfl (lv_at hl 4 rfl) ?_
    refine lv_iconst (v := (1 : Int32)) hx hb d_M_puts_18 rfl ?_
    refine lv_icmp_eq (tgt := 42) hx hb d_M_puts_19 (by decide) (fun c_19 => ?_) (fun c_19 => ?_)
    · refine lv_iconst (v := (1 : Int32)) hx hb d_M_puts_42 rfl ?_
      refine lv_goto (tgt := 47) hx hb d_M_puts_43 (by decide) ?_
      refine lv_istore (lv' := [(5, .int (1 : Int32)), (4, .int (1 : Int32)), (0, .ref (ad 0)), (1, .int a1), (2, .int a2), (3, .int a3)]) hx hb d_M_puts_47 hl (by decide) rfl (fun ls hl => ?_)
      refine lv_iload hx hb d_M_puts_49 (lv_at hl 1 rfl) ?_
      refine lv_if_eq (tgt := 63) hx hb d_M_puts_51 (by decide) (fun c_51 => absurd c_51 (by decide)) (fun c_51 => ?_)
      refine lv_iload hx hb d_M_puts_54 (lv_at hl 0 rfl) ?_
      refine lv_if_eq (tgt := 63) hx hb d_M_puts_56 (by decide) (fun c_56 => absurd c_56 (by decide)) (fun c_56 => ?_)
      refine lv_iconst (v := (1 : Int32)) hx hb d_M_puts_59 rfl ?_
      refine lv_goto (tgt := 84) hx hb d_M_puts_60 (by decide) ?_
      exact hend _ _ _ (by rw [s_M_puts, if_pos c_7, if_pos c_19]) d_M_puts_84
    · refine lv_iload_n hx hb d_M_puts_22 rfl (lv_at hl 2 rfl) ?_
      refine lv_iload_n hx hb d_M_puts_23 rfl (lv_at hl 3 rfl) ?_
      refine lv_iadd hx hb d_M_puts_24 ?_
      refine lv_aload_n hx hb d_M_puts_25 rfl (lv_at hl 1 rfl) ?_
      refine g_M_sines hx hb hts hown hK hP d_M_puts_26 ?_
      refine lv_iload_n hx hb d_M_puts_29 rfl (lv_at hl 4 rfl) ?_
      refine lm_sines hx hb hK hP (k := a3.toNatClampNeg) (v := (snF a3.toNatClampNeg)) rfl rfl (k18_ix hk) d_M_puts_30 ?_
      refine lv_imul hx hb d_M_puts_31 ?_
      refine lv_sipush (v := (1000 : Int32)) hx hb d_M_puts_32 rfl ?_
      refine lv_iload_n hx hb d_M_puts_35 rfl (lv_at hl 3 rfl) ?_
      refine lv_iconst (v := (2 : Int32)) hx hb d_M_puts_36 rfl ?_
      refine lv_iadd hx hb d_M_puts_37 ?_
      refine lv_imul hx hb d_M_puts_38 ?_
      refine lv_icmp_le (tgt := 46) hx hb d_M_puts_39 (by decide) (fun c_39 => ?_) (fun c_39 => ?_)
      · refine lv_iconst (v := (0 : Int32)) hx hb d_M_puts_46 rfl ?_
        refine lv_istore (lv' := [(5, .int (0 : Int32)), (4, .int (1 : Int32)), (0, .ref (ad 0)), (1, .int a1), (2, .int a2), (3, .int a3)]) hx hb d_M_puts_47 hl (by decide) rfl (fun ls hl => ?_)
        refine lv_iload hx hb d_M_puts_49 (lv_at hl 1 rfl) ?_
        refine lv_if_eq (tgt := 63) hx hb d_M_puts_51 (by decide) (fun c_51 => absurd c_51 (by decide)) (fun c_51 => ?_)
        refine lv_iload hx hb d_M_puts_54 (lv_at hl 0 rfl) ?_
        refine lv_if_eq (tgt := 63) hx hb d_M_puts_56 (by decide) (fun c_56 => ?_) (fun c_56 => absurd c_56 (by decide))
        refine lv_iload hx hb d_M_puts_63 (lv_at hl 0 rfl) ?_
        refine lv_if_eq (tgt := 72) hx hb d_M_puts_65 (by decide) (fun c_65 => ?_) (fun c_65 => absurd c_65 (by decide))
        refine lv_iload hx hb d_M_puts_72 (lv_at hl 1 rfl) ?_
        refine lv_if_eq (tgt := 82) hx hb d_M_puts_74 (by decide) (fun c_74 => absurd c_74 (by decide)) (fun c_74 => ?_)
        refine lv_bipush (v := (-2 : Int32)) hx hb d_M_puts_77 rfl ?_
        refine lv_goto (tgt := 84) hx hb d_M_puts_79 (by decide) ?_
        exact hend _ _ _ (by rw [s_M_puts, if_pos c_7, if_neg c_19, if_pos c_39]) d_M_puts_84
      · refine lv_iconst (v := (1 : Int32)) hx hb d_M_puts_42 rfl ?_
        refine lv_goto (tgt := 47) hx hb d_M_puts_43 (by decide) ?_
        refine lv_istore (lv' := [(5, .int (1 : Int32)), (4, .int (1 : Int32)), (0, .ref (ad 0)), (1, .int a1), (2, .int a2), (3, .int a3)]) hx hb d_M_puts_47 hl (by decide) rfl (fun ls hl => ?_)
        refine lv_iload hx hb d_M_puts_49 (lv_at hl 1 rfl) ?_
        refine lv_if_eq (tgt := 63) hx hb d_M_puts_51 (by decide) (fun c_51 => absurd c_51 (by decide)) (fun c_51 => ?_)
        refine lv_iload hx hb d_M_puts_54 (lv_at hl 0 rfl) ?_
        refine lv_if_eq (tgt := 63) hx hb d_M_puts_56 (by decide) (fun c_56 => absurd c_56 (by decide)) (fun c_56 => ?_)
        refine lv_iconst (v := (1 : Int32)) hx hb d_M_puts_59 rfl ?_
        refine lv_goto (tgt := 84) hx hb d_M_puts_60 (by decide) ?_
        exact hend _ _ _ (by rw [s_M_puts, if_pos c_7, if_neg c_19, if_neg c_39]) d_M_puts_84
theorem puts_1 {S : St} {a b : Int32} : s_M_puts S a b 1 = 1 := by
  rw [s_M_puts]
  simp
theorem MO_st {S : St} {n : Nat} {a b k : Int32} (h : MO (n + 1) k) (c : ¬ s_M_puts S a b k = 1) : MO n (k + (-1)) := by
  obtain ⟨h1, h2, h3⟩ := h
  have hk1 : k.toInt ≠ 1 := fun e => c (by rw [show k = 1 from Int32.toInt_inj.mp (by rw [e]; decide)]; exact puts_1)
  have q1 := h3.1
  have q2 := h3.2
  have e1 : (-1 : Int32).toInt = -1 := by decide
  have e : (k + (-1)).toInt = k.toInt - 1 := by rw [i32_add (by rw [e1]; omega) (by rw [e1]; omega), e1]; omega
  exact ⟨by omega, by rw [e]; omega, by rw [e]; omega, by rw [e]; omega⟩

def s_M_together (S : St) (a1 : Int32) (a2 : Int32) (a3 : Int32) : Int32 := (if (s_M_areSet a1 a2) = 0 then (-1000 : Int32) else (if (s_M_in (a3.toInt64) (1 : Int64) (8 : Int64)) = 0 then (-1000 : Int32) else (s_M_puts S a1 a2 a3)))
set_option maxRecDepth 20000 in
theorem c_M_together (l : Launch) (E : Cx) (ad : Nat → Nat) (X : va_W) (S : St) (a1 : Int32) (a2 : Int32) (a3 : Int32) : Met l y_M_together (Cond.code y_M_together b_M_together 4 (some .int) :: TB) (rk 2 46) (va_Pc [.ref (ad 0), .int a1, .int a2, .int a3] (preR E (wm E ad S ++ X))) (vp_Si (fun r => r = (s_M_together S a1 a2 a3))) 0 0 (fun _ => False) := by
  refine w_roI rfl (Nat.le_of_ble_eq_true rfl) rfl ?_
  intro p e s m args below meth c Q ls hx hb hml hts hown hP hK hl hend
  have hl : lv_has ls 4 [(0, .ref (ad 0)), (1, .int a1), (2, .int a2), (3, .int a3)] := hl
  have hP : va_P E.1 vwCl (wm E ad S ++ X) s.heap := hP
  have hown : s.vm.findClass R_M = some m.cls := hown
  refine lv_iload_n hx hb d_M_together_0 rfl (lv_at hl 1 rfl) ?_
  refine lv_iload_n hx hb d_M_together_1 rfl (lv_at hl 2 rfl) ?_
  refine k_si (rest := []) (c_M_areSet l E a1 a2) mi_M_areSet ml_M_166 hx hb hml hts hown hK va_nil hl ⟨rfl, rfl⟩ ⟨(Nat.le_of_ble_eq_true rfl), (Nat.le_of_ble_eq_true rfl)⟩ ⟨Nat.zero_le _, Nat.zero_le _⟩ rfl (Nat.le_of_ble_eq_true rfl) rfl d_M_together_2 ?_
  refine lv_if_eq (tgt := 30) hx hb d_M_together_5 (by decide) (fun c_5 => ?_) (fun c_5 => ?_)
  · refine lv_sipush (v := (-1000 : Int32)) hx hb d_M_together_30 rfl ?_
    exact hend _ _ _ (by rw [s_M_together, if_pos c_5]) d_M_together_33
  · refine lv_iload_n hx hb d_M_together_8 rfl (lv_at hl 3 rfl) ?_
    refine lv_i2l hx hb d_M_together_9 rfl ?_
    refine lv_lconst (v := (1 : Int64)) hx hb d_M_together_10 rfl ?_
    refine lv_ldc2 (v := (8 : Int64)) hx hb hown (hts _ kl_M_169) d_M_together_11 ?_
    refine k_si (rest := []) (c_M_in l E (a3.toInt64) (1 : Int64) (8 : Int64)) mi_M_in ml_M_46 hx hb hml hts hown hK va_nil hl ⟨rfl, rfl⟩ ⟨(Nat.le_of_ble_eq_true rfl), (Nat.le_of_ble_eq_true rfl)⟩ ⟨Nat.zero_le _, Nat.zero_le _⟩ rfl (Nat.le_of_ble_eq_true rfl) rfl d_M_together_14 ?_
    refine lv_if_eq (tgt := 30) hx hb d_M_together_17 (by decide) (fun c_17 => ?_) (fun c_17 => ?_)
    · refine lv_sipush (v := (-1000 : Int32)) hx hb d_M_together_30 rfl ?_
      exact hend _ _ _ (by rw [s_M_together, if_neg c_5, if_pos c_17]) d_M_together_33
    · refine lv_aload_n hx hb d_M_together_20 rfl (lv_at hl 0 rfl) ?_
      refine lv_iload_n hx hb d_M_together_21 rfl (lv_at hl 1 rfl) ?_
      refine lv_iload_n hx hb d_M_together_22 rfl (lv_at hl 2 rfl) ?_
      refine lv_iload_n hx hb d_M_together_23 rfl (lv_at hl 3 rfl) ?_
      refine k_vi (rest := []) (c_M_puts l E ad X S a1 a2 a3 (in18 c_17)) mi_M_puts ml_M_171 hx hb hml hts hown hK hP rvM hl ⟨rfl, rfl⟩ ⟨(Nat.le_of_ble_eq_true rfl), (Nat.le_of_ble_eq_true rfl)⟩ ⟨Nat.zero_le _, Nat.zero_le _⟩ rfl (Nat.le_of_ble_eq_true rfl) rfl d_M_together_24 ?_
      refine lv_goto (tgt := 33) hx hb d_M_together_27 (by decide) ?_
      exact hend _ _ _ (by rw [s_M_together, if_neg c_5, if_neg c_17]) d_M_together_33

def s_M_most_b13 (S : St) : Nat → Int32 → Int32 → Int32 → Int32
  | 0, _, _, _ => 0
  | n + 1, x1, x2, x3 => (if (s_M_puts S x1 x2 x3) = (1 : Int32) then x3 else (s_M_most_b13 S n x1 x2 (x3 + (-1))))
def s_M_most (S : St) (a1 : Int32) (a2 : Int32) : Int32 := (if (s_M_areSet a1 a2) = 0 then (-1 : Int32) else (s_M_most_b13 S (9) a1 a2 (8 : Int32)))
set_option maxRecDepth 20000 in
theorem c_M_most (l : Launch) (E : Cx) (ad : Nat → Nat) (X : va_W) (S : St) (a1 : Int32) (a2 : Int32) : Met l y_M_most (Cond.code y_M_most b_M_most 4 (some .int) :: TB) (rk 2 46) (va_Pc [.ref (ad 0), .int a1, .int a2] (preR E (wm E ad S ++ X))) (vp_Si (fun r => r = (s_M_most S a1 a2))) 0 0 (fun _ => False) := by
  refine w_roI rfl (Nat.le_of_ble_eq_true rfl) rfl ?_
  intro p e s m args below meth c Q ls hx hb hml hts hown hP hK hl hend
  have hl : lv_has ls 4 [(0, .ref (ad 0)), (1, .int a1), (2, .int a2)] := hl
  have hP : va_P E.1 vwCl (wm E ad S ++ X) s.heap := hP
  have hown : s.vm.findClass R_M = some m.cls := hown
  have b13 : ∀ (n : Nat) (x1 : Int32) (x2 : Int32) (x3 : Int32), (MO n x3) → ∀ (ls : Array Slot), lv_has ls 4 [(0, .ref (ad 0)), (1, .int x1), (2, .int x2), (3, .int x3)] → (s_M_most S a1 a2) = s_M_most_b13 S n x1 x2 x3 → W p l e (rk 2 46) s m args below meth c s.heap [] 0 0 Q (F0 m 13 ls []) := by
    intro n13
    induction n13 with
    | zero => intro x1 x2 x3 hv; exact absurd hv (MO_z)
    | succ n13 ih13 =>
      intro x1 x2 x3 hv ls hl hq
      refine lv_aload_n hx hb d_M_most_13 rfl (lv_at hl 0 rfl) ?_
      refine lv_iload_n hx hb d_M_most_14 rfl (lv_at hl 1 rfl) ?_
      refine lv_iload_n hx hb d_M_most_15 rfl (lv_at hl 2 rfl) ?_
      refine lv_iload_n hx hb d_M_most_16 rfl (lv_at hl 3 rfl) ?_
      refine k_vi (rest := []) (c_M_puts l E ad X S x1 x2 x3 hv.2.2) mi_M_puts ml_M_171 hx hb hml hts hown hK hP rvM hl ⟨rfl, rfl⟩ ⟨(Nat.le_of_ble_eq_true rfl), (Nat.le_of_ble_eq_true rfl)⟩ ⟨Nat.zero_le _, Nat.zero_le _⟩ rfl (Nat.le_of_ble_eq_true rfl) rfl d_M_most_17 ?_
      refine lv_iconst (v := (1 : Int32)) hx hb d_M_most_20 rfl ?_
      refine lv_icmp_eq (tgt := 30) hx hb d_M_most_21 (by decide) (fun c_21 => ?_) (fun c_21 => ?_)
      · refine lv_iload_n hx hb d_M_most_30 rfl (lv_at hl 3 rfl) ?_
        exact hend _ _ _ (by rw [hq, s_M_most_b13, if_pos c_21]) d_M_most_31
      · refine lv_iinc (v := (x3 + (-1))) (lv' := [(3, .int (x3 + (-1))), (0, .ref (ad 0)), (1, .int x1), (2, .int x2)]) hx hb d_M_most_24 hl (k := 3) rfl rfl (by decide) rfl (fun ls hl => ?_)
        refine lv_goto (tgt := 13) hx hb d_M_most_27 (by decide) ?_
        exact ih13 x1 x2 (x3 + (-1)) (MO_st hv c_21) ls (lv_sub hl [1, 2, 3, 0] rfl) (by rw [hq, s_M_most_b13, if_neg c_21])
  refine lv_iload_n hx hb d_M_most_0 rfl (lv_at hl 1 rfl) ?_
  refine lv_iload_n hx hb d_M_most_1 rfl (lv_at hl 2 rfl) ?_
  refine k_si (rest := []) (c_M_areSet l E a1 a2) mi_M_areSet ml_M_166 hx hb hml hts hown hK va_nil hl ⟨rfl, rfl⟩ ⟨(Nat.le_of_ble_eq_true rfl), (Nat.le_of_ble_eq_true rfl)⟩ ⟨Nat.zero_le _, Nat.zero_le _⟩ rfl (Nat.le_of_ble_eq_true rfl) rfl d_M_most_2 ?_
  refine lv_if_ne (tgt := 10) hx hb d_M_most_5 (by decide) (fun c_5 => ?_) (fun c_5 => ?_)
  · refine lv_bipush (v := (8 : Int32)) hx hb d_M_most_10 rfl ?_
    refine lv_istore_n (lv' := [(3, .int (8 : Int32)), (0, .ref (ad 0)), (1, .int a1), (2, .int a2)]) hx hb d_M_most_12 rfl hl (by decide) rfl (fun ls hl => ?_)
    exact b13 (9) a1 a2 (8 : Int32) (⟨by decide, by decide, by decide, by decide⟩) ls (lv_sub hl [1, 2, 3, 0] rfl) (by rw [s_M_most, if_neg c_5])
  · refine lv_iconst (v := (-1 : Int32)) hx hb d_M_most_8 rfl ?_
    exact hend _ _ _ (by rw [s_M_most, if_pos c_5]) d_M_most_9

def s_M_planets_b186 (Z : St) (x5 : Int32) : Int64 × St := ((s_M_part Z x5), Z)
def s_M_planets (S : St) (a1 : Int32) (a2 : Int32) (a3 : Int32) (a4 : Int32) (a5 : Int32) : Int64 × St := (if (s_M_areSet a1 a2) = 0 then ((-9223372036854775808 : Int64), S) else (if (s_M_in (a3.toInt64) (0 : Int64) (2 : Int64)) = 0 then ((-9223372036854775808 : Int64), S) else (if (s_M_in (a4.toInt64) (0 : Int64) (2 : Int64)) = 0 then ((-9223372036854775808 : Int64), S) else (if a3 = a4 then ((-9223372036854775808 : Int64), S) else (if (s_M_in (a5.toInt64) (0 : Int64) (1 : Int64)) = 0 then ((-9223372036854775808 : Int64), S) else (if a4 = (2 : Int32) then (if a3 ≤ (((3 : Int32) - a3) - a4) then (if a4 = (1 : Int32) then (s_M_planets_b186 (s_M_lays S ((-(a1 + ((2 : Int32) * a2))).toInt64) (a1.toInt64)) a5) else (if (((3 : Int32) - a3) - a4) = (1 : Int32) then (s_M_planets_b186 (s_M_lays S ((a1 + (a1 + ((2 : Int32) * a2))).toInt64) (a1.toInt64)) a5) else (s_M_planets_b186 (s_M_lays S (a1.toInt64) ((a1 + (a1 + ((2 : Int32) * a2))).toInt64)) a5))) else (if a4 = (1 : Int32) then (s_M_planets_b186 (s_M_lays S ((-a1).toInt64) ((a1 + ((2 : Int32) * a2)).toInt64)) a5) else (if (((3 : Int32) - a3) - a4) = (1 : Int32) then (s_M_planets_b186 (s_M_lays S ((a1 + (a1 + ((2 : Int32) * a2))).toInt64) (a1.toInt64)) a5) else (s_M_planets_b186 (s_M_lays S (a1.toInt64) ((a1 + (a1 + ((2 : Int32) * a2))).toInt64)) a5)))) else (if a3 ≤ (((3 : Int32) - a3) - a4) then (if a4 = (1 : Int32) then (s_M_planets_b186 (s_M_lays S ((-(a1 + ((2 : Int32) * a2))).toInt64) (a1.toInt64)) a5) else (if (((3 : Int32) - a3) - a4) = (1 : Int32) then (s_M_planets_b186 (s_M_lays S ((a1 + (a1 + ((2 : Int32) * a2))).toInt64) ((a1 + ((2 : Int32) * a2)).toInt64)) a5) else (s_M_planets_b186 (s_M_lays S ((a1 + ((2 : Int32) * a2)).toInt64) ((a1 + (a1 + ((2 : Int32) * a2))).toInt64)) a5))) else (if a4 = (1 : Int32) then (s_M_planets_b186 (s_M_lays S ((-a1).toInt64) ((a1 + ((2 : Int32) * a2)).toInt64)) a5) else (if (((3 : Int32) - a3) - a4) = (1 : Int32) then (s_M_planets_b186 (s_M_lays S ((a1 + (a1 + ((2 : Int32) * a2))).toInt64) ((a1 + ((2 : Int32) * a2)).toInt64)) a5) else (s_M_planets_b186 (s_M_lays S ((a1 + ((2 : Int32) * a2)).toInt64) ((a1 + (a1 + ((2 : Int32) * a2))).toInt64)) a5))))))))))
set_option maxRecDepth 20000 in
theorem c_M_planets (l : Launch) (E : Cx) (ad : Nat → Nat) (X : va_W) (S : St) (A : Nat → Prop) (a1 : Int32) (a2 : Int32) (a3 : Int32) (a4 : Int32) (a5 : Int32) : Met l y_M_planets (Cond.code y_M_planets b_M_planets 11 (some .long) :: TB) (rk 2 46) (va_Pc [.ref (ad 0), .int a1, .int a2, .int a3, .int a4, .int a5] (preM E A (fun S => wm E ad S ++ X) S)) (va_Ql (fun r u => (r, u) = (s_M_planets S a1 a2 a3 a4 a5)) (fun u t => va_P E.1 vwCl ((fun S => wm E ad S ++ X) u) t.heap) A) 0 0 A := by
  refine w_muL rfl (Nat.le_of_ble_eq_true rfl) ?_
  intro p e s m args below meth c Q ls hx hb hml hts hown hP hK hD hS hl hend
  have hl : lv_has ls 11 [(0, .ref (ad 0)), (1, .int a1), (2, .int a2), (3, .int a3), (4, .int a4), (5, .int a5)] := hl
  have hP : va_P E.1 vwCl (wm E ad S ++ X) s.heap := hP
  have hown : s.vm.findClass R_M = some m.cls := hown
  have hD : ∀ S' : St, va_D A (wm E ad S' ++ X) := hD
  have b186 : ∀ (Z : St) (x5 : Int32) (H : Heap) (locs : List Loc), va_P E.1 vwCl (wm E ad Z ++ X) H → va_S A s.heap H locs → ∀ (ls : Array Slot), lv_has ls 11 [(0, .ref (ad 0)), (5, .int x5)] → (s_M_planets S a1 a2 a3 a4 a5) = s_M_planets_b186 Z x5 → W p l e (rk 2 46) s m args below meth c H locs 0 0 Q (F0 m 186 ls []) := by
    intro Z x5 H locs hP hS ls hl hq
    refine lv_aload_n hx hb d_M_planets_186 rfl (lv_at hl 0 rfl) ?_
    refine lv_iload hx hb d_M_planets_187 (lv_at hl 1 rfl) ?_
    refine k_vl (rest := []) (c_M_part l E ad X Z x5) mi_M_part ml_M_131 hx hb hml hts hown hK hP rvM hl ⟨rfl, rfl⟩ ⟨(Nat.le_of_ble_eq_true rfl), (Nat.le_of_ble_eq_true rfl)⟩ ⟨Nat.zero_le _, Nat.zero_le _⟩ rfl (Nat.le_of_ble_eq_true rfl) rfl d_M_planets_189 ?_
    exact hend _ _ _ _ _ _ (by rw [hq, s_M_planets_b186]) hP hS d_M_planets_192
  refine lv_iload_n hx hb d_M_planets_0 rfl (lv_at hl 1 rfl) ?_
  refine lv_iload_n hx hb d_M_planets_1 rfl (lv_at hl 2 rfl) ?_
  refine k_si (rest := []) (c_M_areSet l E a1 a2) mi_M_areSet ml_M_166 hx hb hml hts hown hK va_nil hl ⟨rfl, rfl⟩ ⟨(Nat.le_of_ble_eq_true rfl), (Nat.le_of_ble_eq_true rfl)⟩ ⟨Nat.zero_le _, Nat.zero_le _⟩ rfl (Nat.le_of_ble_eq_true rfl) rfl d_M_planets_2 ?_
  refine lv_if_eq (tgt := 50) hx hb d_M_planets_5 (by decide) (fun c_5 => ?_) (fun c_5 => ?_)
  · refine lv_ldc2 (v := (-9223372036854775808 : Int64)) hx hb hown (hts _ kl_M_117) d_M_planets_50 ?_
    exact hend _ _ _ _ _ _ (by rw [s_M_planets, if_pos c_5]) hP hS d_M_planets_53
  · refine lv_iload_n hx hb d_M_planets_8 rfl (lv_at hl 3 rfl) ?_
    refine lv_i2l hx hb d_M_planets_9 rfl ?_
    refine lv_lconst (v := (0 : Int64)) hx hb d_M_planets_10 rfl ?_
    refine lv_ldc2 (v := (2 : Int64)) hx hb hown (hts _ kl_M_77) d_M_planets_11 ?_
    refine k_si (rest := []) (c_M_in l E (a3.toInt64) (0 : Int64) (2 : Int64)) mi_M_in ml_M_46 hx hb hml hts hown hK va_nil hl ⟨rfl, rfl⟩ ⟨(Nat.le_of_ble_eq_true rfl), (Nat.le_of_ble_eq_true rfl)⟩ ⟨Nat.zero_le _, Nat.zero_le _⟩ rfl (Nat.le_of_ble_eq_true rfl) rfl d_M_planets_14 ?_
    refine lv_if_eq (tgt := 50) hx hb d_M_planets_17 (by decide) (fun c_17 => ?_) (fun c_17 => ?_)
    · refine lv_ldc2 (v := (-9223372036854775808 : Int64)) hx hb hown (hts _ kl_M_117) d_M_planets_50 ?_
      exact hend _ _ _ _ _ _ (by rw [s_M_planets, if_neg c_5, if_pos c_17]) hP hS d_M_planets_53
    · refine lv_iload hx hb d_M_planets_20 (lv_at hl 4 rfl) ?_
      refine lv_i2l hx hb d_M_planets_22 rfl ?_
      refine lv_lconst (v := (0 : Int64)) hx hb d_M_planets_23 rfl ?_
      refine lv_ldc2 (v := (2 : Int64)) hx hb hown (hts _ kl_M_77) d_M_planets_24 ?_
      refine k_si (rest := []) (c_M_in l E (a4.toInt64) (0 : Int64) (2 : Int64)) mi_M_in ml_M_46 hx hb hml hts hown hK va_nil hl ⟨rfl, rfl⟩ ⟨(Nat.le_of_ble_eq_true rfl), (Nat.le_of_ble_eq_true rfl)⟩ ⟨Nat.zero_le _, Nat.zero_le _⟩ rfl (Nat.le_of_ble_eq_true rfl) rfl d_M_planets_27 ?_
      refine lv_if_eq (tgt := 50) hx hb d_M_planets_30 (by decide) (fun c_30 => ?_) (fun c_30 => ?_)
      · refine lv_ldc2 (v := (-9223372036854775808 : Int64)) hx hb hown (hts _ kl_M_117) d_M_planets_50 ?_
        exact hend _ _ _ _ _ _ (by rw [s_M_planets, if_neg c_5, if_neg c_17, if_pos c_30]) hP hS d_M_planets_53
      · refine lv_iload_n hx hb d_M_planets_33 rfl (lv_at hl 3 rfl) ?_
        refine lv_iload hx hb d_M_planets_34 (lv_at hl 4 rfl) ?_
        refine lv_icmp_eq (tgt := 50) hx hb d_M_planets_36 (by decide) (fun c_36 => ?_) (fun c_36 => ?_)
        · refine lv_ldc2 (v := (-9223372036854775808 : Int64)) hx hb hown (hts _ kl_M_117) d_M_planets_50 ?_
          exact hend _ _ _ _ _ _ (by rw [s_M_planets, if_neg c_5, if_neg c_17, if_neg c_30, if_pos c_36]) hP hS d_M_planets_53
        · refine lv_iload hx hb d_M_planets_39 (lv_at hl 5 rfl) ?_
          refine lv_i2l hx hb d_M_planets_41 rfl ?_
          refine lv_lconst (v := (0 : Int64)) hx hb d_M_planets_42 rfl ?_
          refine lv_lconst (v := (1 : Int64)) hx hb d_M_planets_43 rfl ?_
          refine k_si (rest := []) (c_M_in l E (a5.toInt64) (0 : Int64) (1 : Int64)) mi_M_in ml_M_46 hx hb hml hts hown hK va_nil hl ⟨rfl, rfl⟩ ⟨(Nat.le_of_ble_eq_true rfl), (Nat.le_of_ble_eq_true rfl)⟩ ⟨Nat.zero_le _, Nat.zero_le _⟩ rfl (Nat.le_of_ble_eq_true rfl) rfl d_M_planets_44 ?_
          refine lv_if_ne (tgt := 54) hx hb d_M_planets_47 (by decide) (fun c_47 => ?_) (fun c_47 => ?_)
          · refine lv_iload_n hx hb d_M_planets_54 rfl (lv_at hl 1 rfl) ?_
            refine lv_iconst (v := (2 : Int32)) hx hb d_M_planets_55 rfl ?_
            refine lv_iload_n hx hb d_M_planets_56 rfl (lv_at hl 2 rfl) ?_
            refine lv_imul hx hb d_M_planets_57 ?_
            refine lv_iadd hx hb d_M_planets_58 ?_
            refine lv_istore (lv' := [(6, .int (a1 + ((2 : Int32) * a2))), (0, .ref (ad 0)), (1, .int a1), (2, .int a2), (3, .int a3), (4, .int a4), (5, .int a5)]) hx hb d_M_planets_59 hl (by decide) rfl (fun ls hl => ?_)
            refine lv_iconst (v := (3 : Int32)) hx hb d_M_planets_61 rfl ?_
            refine lv_iload_n hx hb d_M_planets_62 rfl (lv_at hl 4 rfl) ?_
            refine lv_isub hx hb d_M_planets_63 ?_
            refine lv_iload hx hb d_M_planets_64 (lv_at hl 5 rfl) ?_
            refine lv_isub hx hb d_M_planets_66 ?_
            refine lv_istore (lv' := [(7, .int (((3 : Int32) - a3) - a4)), (6, .int (a1 + ((2 : Int32) * a2))), (0, .ref (ad 0)), (1, .int a1), (2, .int a2), (3, .int a3), (4, .int a4), (5, .int a5)]) hx hb d_M_planets_67 hl (by decide) rfl (fun ls hl => ?_)
            refine lv_iload hx hb d_M_planets_69 (lv_at hl 6 rfl) ?_
            refine lv_iconst (v := (2 : Int32)) hx hb d_M_planets_71 rfl ?_
            refine lv_icmp_ne (tgt := 79) hx hb d_M_planets_72 (by decide) (fun c_72 => ?_) (fun c_72 => ?_)
            · refine lv_iload hx hb d_M_planets_79 (lv_at hl 1 rfl) ?_
              refine lv_istore (lv' := [(8, .int (a1 + ((2 : Int32) * a2))), (7, .int (((3 : Int32) - a3) - a4)), (6, .int (a1 + ((2 : Int32) * a2))), (0, .ref (ad 0)), (1, .int a1), (2, .int a2), (3, .int a3), (4, .int a4), (5, .int a5)]) hx hb d_M_planets_81 hl (by decide) rfl (fun ls hl => ?_)
              refine lv_iload_n hx hb d_M_planets_83 rfl (lv_at hl 6 rfl) ?_
              refine lv_iload hx hb d_M_planets_84 (lv_at hl 1 rfl) ?_
              refine lv_icmp_le (tgt := 93) hx hb d_M_planets_86 (by decide) (fun c_86 => ?_) (fun c_86 => ?_)
              · refine lv_iconst (v := (0 : Int32)) hx hb d_M_planets_93 rfl ?_
                refine lv_istore (lv' := [(9, .int (0 : Int32)), (8, .int (a1 + ((2 : Int32) * a2))), (7, .int (((3 : Int32) - a3) - a4)), (6, .int (a1 + ((2 : Int32) * a2))), (0, .ref (ad 0)), (1, .int a1), (2, .int a2), (3, .int a3), (4, .int a4), (5, .int a5)]) hx hb d_M_planets_94 hl (by decide) rfl (fun ls hl => ?_)
                refine lv_iload hx hb d_M_planets_96 (lv_at hl 8 rfl) ?_
                refine lv_iconst (v := (1 : Int32)) hx hb d_M_planets_98 rfl ?_
                refine lv_icmp_ne (tgt := 137) hx hb d_M_planets_99 (by decide) (fun c_99 => ?_) (fun c_99 => ?_)
                · refine lv_iload hx hb d_M_planets_137 (lv_at hl 2 rfl) ?_
                  refine lv_iconst (v := (1 : Int32)) hx hb d_M_planets_139 rfl ?_
                  refine lv_icmp_ne (tgt := 147) hx hb d_M_planets_140 (by decide) (fun c_140 => ?_) (fun c_140 => ?_)
                  · refine lv_iconst (v := (0 : Int32)) hx hb d_M_planets_147 rfl ?_
                    refine lv_istore (lv' := [(10, .int (0 : Int32)), (9, .int (0 : Int32)), (8, .int (a1 + ((2 : Int32) * a2))), (7, .int (((3 : Int32) - a3) - a4)), (6, .int (a1 + ((2 : Int32) * a2))), (0, .ref (ad 0)), (1, .int a1), (2, .int a2), (3, .int a3), (4, .int a4), (5, .int a5)]) hx hb d_M_planets_148 hl (by decide) rfl (fun ls hl => ?_)
                    refine lv_aload_n hx hb d_M_planets_150 rfl (lv_at hl 5 rfl) ?_
                    refine lv_iload hx hb d_M_planets_151 (lv_at hl 0 rfl) ?_
                    refine lv_if_eq (tgt := 164) hx hb d_M_planets_153 (by decide) (fun c_153 => ?_) (fun c_153 => absurd c_153 (by decide))
                    refine lv_iload hx hb d_M_planets_164 (lv_at hl 2 rfl) ?_
                    refine lv_i2l hx hb d_M_planets_166 rfl ?_
                    refine lv_iload hx hb d_M_planets_167 (lv_at hl 0 rfl) ?_
                    refine lv_if_eq (tgt := 178) hx hb d_M_planets_169 (by decide) (fun c_169 => ?_) (fun c_169 => absurd c_169 (by decide))
                    refine lv_iload_n hx hb d_M_planets_178 rfl (lv_at hl 6 rfl) ?_
                    refine lv_iload hx hb d_M_planets_179 (lv_at hl 4 rfl) ?_
                    refine lv_iadd hx hb d_M_planets_181 ?_
                    refine lv_i2l hx hb d_M_planets_182 rfl ?_
                    refine k_mvv (rest := []) (c_M_lays l E ad X S A ((a1 + ((2 : Int32) * a2)).toInt64) ((a1 + (a1 + ((2 : Int32) * a2))).toInt64) (by first | with_reducible exact pl1 (areS c_5) | with_reducible exact pl2 (areS c_5) | with_reducible exact pl3 (areS c_5)) (i2l_lo _)) mi_M_lays ml_M_127 hx hb hml hts hown hK hP hD hS rvM hl ⟨rfl, rfl⟩ ⟨(Nat.le_of_ble_eq_true rfl), (Nat.le_of_ble_eq_true rfl)⟩ ⟨Nat.zero_le _, Nat.zero_le _⟩ rfl (Nat.le_of_ble_eq_true rfl) rfl d_M_planets_183 (fun H locs hP hS => ?_)
                    have hP : va_P E.1 vwCl (wm E ad (s_M_lays S ((a1 + ((2 : Int32) * a2)).toInt64) ((a1 + (a1 + ((2 : Int32) * a2))).toInt64)) ++ X) H := hP
                    exact b186 (s_M_lays S ((a1 + ((2 : Int32) * a2)).toInt64) ((a1 + (a1 + ((2 : Int32) * a2))).toInt64)) a5 H locs hP hS ls (lv_sub hl [5, 10] rfl) (by rw [s_M_planets, if_neg c_5, if_neg c_17, if_neg c_30, if_neg c_36, if_neg c_47, if_neg c_72, if_pos c_86, if_neg c_99, if_neg c_140])
                  · refine lv_iconst (v := (1 : Int32)) hx hb d_M_planets_143 rfl ?_
                    refine lv_goto (tgt := 148) hx hb d_M_planets_144 (by decide) ?_
                    refine lv_istore (lv' := [(10, .int (1 : Int32)), (9, .int (0 : Int32)), (8, .int (a1 + ((2 : Int32) * a2))), (7, .int (((3 : Int32) - a3) - a4)), (6, .int (a1 + ((2 : Int32) * a2))), (0, .ref (ad 0)), (1, .int a1), (2, .int a2), (3, .int a3), (4, .int a4), (5, .int a5)]) hx hb d_M_planets_148 hl (by decide) rfl (fun ls hl => ?_)
                    refine lv_aload_n hx hb d_M_planets_150 rfl (lv_at hl 5 rfl) ?_
                    refine lv_iload hx hb d_M_planets_151 (lv_at hl 0 rfl) ?_
                    refine lv_if_eq (tgt := 164) hx hb d_M_planets_153 (by decide) (fun c_153 => absurd c_153 (by decide)) (fun c_153 => ?_)
                    refine lv_iload_n hx hb d_M_planets_156 rfl (lv_at hl 6 rfl) ?_
                    refine lv_iload hx hb d_M_planets_157 (lv_at hl 4 rfl) ?_
                    refine lv_iadd hx hb d_M_planets_159 ?_
                    refine lv_i2l hx hb d_M_planets_160 rfl ?_
                    refine lv_goto (tgt := 167) hx hb d_M_planets_161 (by decide) ?_
                    refine lv_iload hx hb d_M_planets_167 (lv_at hl 0 rfl) ?_
                    refine lv_if_eq (tgt := 178) hx hb d_M_planets_169 (by decide) (fun c_169 => absurd c_169 (by decide)) (fun c_169 => ?_)
                    refine lv_iload hx hb d_M_planets_172 (lv_at hl 2 rfl) ?_
                    refine lv_i2l hx hb d_M_planets_174 rfl ?_
                    refine lv_goto (tgt := 183) hx hb d_M_planets_175 (by decide) ?_
                    refine k_mvv (rest := []) (c_M_lays l E ad X S A ((a1 + (a1 + ((2 : Int32) * a2))).toInt64) ((a1 + ((2 : Int32) * a2)).toInt64) (by first | with_reducible exact pl1 (areS c_5) | with_reducible exact pl2 (areS c_5) | with_reducible exact pl3 (areS c_5)) (i2l_lo _)) mi_M_lays ml_M_127 hx hb hml hts hown hK hP hD hS rvM hl ⟨rfl, rfl⟩ ⟨(Nat.le_of_ble_eq_true rfl), (Nat.le_of_ble_eq_true rfl)⟩ ⟨Nat.zero_le _, Nat.zero_le _⟩ rfl (Nat.le_of_ble_eq_true rfl) rfl d_M_planets_183 (fun H locs hP hS => ?_)
                    have hP : va_P E.1 vwCl (wm E ad (s_M_lays S ((a1 + (a1 + ((2 : Int32) * a2))).toInt64) ((a1 + ((2 : Int32) * a2)).toInt64)) ++ X) H := hP
                    exact b186 (s_M_lays S ((a1 + (a1 + ((2 : Int32) * a2))).toInt64) ((a1 + ((2 : Int32) * a2)).toInt64)) a5 H locs hP hS ls (lv_sub hl [5, 10] rfl) (by rw [s_M_planets, if_neg c_5, if_neg c_17, if_neg c_30, if_neg c_36, if_neg c_47, if_neg c_72, if_pos c_86, if_neg c_99, if_pos c_140])
                · refine lv_aload_n hx hb d_M_planets_102 rfl (lv_at hl 4 rfl) ?_
                  refine lv_iload hx hb d_M_planets_103 (lv_at hl 0 rfl) ?_
                  refine lv_if_eq (tgt := 114) hx hb d_M_planets_105 (by decide) (fun c_105 => ?_) (fun c_105 => absurd c_105 (by decide))
                  refine lv_iload hx hb d_M_planets_114 (lv_at hl 3 rfl) ?_
                  refine lv_ineg hx hb d_M_planets_116 ?_
                  refine lv_i2l hx hb d_M_planets_117 rfl ?_
                  refine lv_iload hx hb d_M_planets_118 (lv_at hl 0 rfl) ?_
                  refine lv_if_eq (tgt := 129) hx hb d_M_planets_120 (by decide) (fun c_120 => ?_) (fun c_120 => absurd c_120 (by decide))
                  refine lv_iload_n hx hb d_M_planets_129 rfl (lv_at hl 5 rfl) ?_
                  refine lv_i2l hx hb d_M_planets_130 rfl ?_
                  refine k_mvv (rest := []) (c_M_lays l E ad X S A ((-(a1 + ((2 : Int32) * a2))).toInt64) (a1.toInt64) (by first | with_reducible exact pl1 (areS c_5) | with_reducible exact pl2 (areS c_5) | with_reducible exact pl3 (areS c_5)) (i2l_lo _)) mi_M_lays ml_M_127 hx hb hml hts hown hK hP hD hS rvM hl ⟨rfl, rfl⟩ ⟨(Nat.le_of_ble_eq_true rfl), (Nat.le_of_ble_eq_true rfl)⟩ ⟨Nat.zero_le _, Nat.zero_le _⟩ rfl (Nat.le_of_ble_eq_true rfl) rfl d_M_planets_131 (fun H locs hP hS => ?_)
                  have hP : va_P E.1 vwCl (wm E ad (s_M_lays S ((-(a1 + ((2 : Int32) * a2))).toInt64) (a1.toInt64)) ++ X) H := hP
                  refine lv_goto (tgt := 186) hx hb d_M_planets_134 (by decide) ?_
                  exact b186 (s_M_lays S ((-(a1 + ((2 : Int32) * a2))).toInt64) (a1.toInt64)) a5 H locs hP hS ls (lv_sub hl [4, 9] rfl) (by rw [s_M_planets, if_neg c_5, if_neg c_17, if_neg c_30, if_neg c_36, if_neg c_47, if_neg c_72, if_pos c_86, if_pos c_99])
              · refine lv_iconst (v := (1 : Int32)) hx hb d_M_planets_89 rfl ?_
                refine lv_goto (tgt := 94) hx hb d_M_planets_90 (by decide) ?_
                refine lv_istore (lv' := [(9, .int (1 : Int32)), (8, .int (a1 + ((2 : Int32) * a2))), (7, .int (((3 : Int32) - a3) - a4)), (6, .int (a1 + ((2 : Int32) * a2))), (0, .ref (ad 0)), (1, .int a1), (2, .int a2), (3, .int a3), (4, .int a4), (5, .int a5)]) hx hb d_M_planets_94 hl (by decide) rfl (fun ls hl => ?_)
                refine lv_iload hx hb d_M_planets_96 (lv_at hl 8 rfl) ?_
                refine lv_iconst (v := (1 : Int32)) hx hb d_M_planets_98 rfl ?_
                refine lv_icmp_ne (tgt := 137) hx hb d_M_planets_99 (by decide) (fun c_99 => ?_) (fun c_99 => ?_)
                · refine lv_iload hx hb d_M_planets_137 (lv_at hl 2 rfl) ?_
                  refine lv_iconst (v := (1 : Int32)) hx hb d_M_planets_139 rfl ?_
                  refine lv_icmp_ne (tgt := 147) hx hb d_M_planets_140 (by decide) (fun c_140 => ?_) (fun c_140 => ?_)
                  · refine lv_iconst (v := (0 : Int32)) hx hb d_M_planets_147 rfl ?_
                    refine lv_istore (lv' := [(10, .int (0 : Int32)), (9, .int (1 : Int32)), (8, .int (a1 + ((2 : Int32) * a2))), (7, .int (((3 : Int32) - a3) - a4)), (6, .int (a1 + ((2 : Int32) * a2))), (0, .ref (ad 0)), (1, .int a1), (2, .int a2), (3, .int a3), (4, .int a4), (5, .int a5)]) hx hb d_M_planets_148 hl (by decide) rfl (fun ls hl => ?_)
                    refine lv_aload_n hx hb d_M_planets_150 rfl (lv_at hl 5 rfl) ?_
                    refine lv_iload hx hb d_M_planets_151 (lv_at hl 0 rfl) ?_
                    refine lv_if_eq (tgt := 164) hx hb d_M_planets_153 (by decide) (fun c_153 => ?_) (fun c_153 => absurd c_153 (by decide))
                    refine lv_iload hx hb d_M_planets_164 (lv_at hl 2 rfl) ?_
                    refine lv_i2l hx hb d_M_planets_166 rfl ?_
                    refine lv_iload hx hb d_M_planets_167 (lv_at hl 0 rfl) ?_
                    refine lv_if_eq (tgt := 178) hx hb d_M_planets_169 (by decide) (fun c_169 => ?_) (fun c_169 => absurd c_169 (by decide))
                    refine lv_iload_n hx hb d_M_planets_178 rfl (lv_at hl 6 rfl) ?_
                    refine lv_iload hx hb d_M_planets_179 (lv_at hl 4 rfl) ?_
                    refine lv_iadd hx hb d_M_planets_181 ?_
                    refine lv_i2l hx hb d_M_planets_182 rfl ?_
                    refine k_mvv (rest := []) (c_M_lays l E ad X S A ((a1 + ((2 : Int32) * a2)).toInt64) ((a1 + (a1 + ((2 : Int32) * a2))).toInt64) (by first | with_reducible exact pl1 (areS c_5) | with_reducible exact pl2 (areS c_5) | with_reducible exact pl3 (areS c_5)) (i2l_lo _)) mi_M_lays ml_M_127 hx hb hml hts hown hK hP hD hS rvM hl ⟨rfl, rfl⟩ ⟨(Nat.le_of_ble_eq_true rfl), (Nat.le_of_ble_eq_true rfl)⟩ ⟨Nat.zero_le _, Nat.zero_le _⟩ rfl (Nat.le_of_ble_eq_true rfl) rfl d_M_planets_183 (fun H locs hP hS => ?_)
                    have hP : va_P E.1 vwCl (wm E ad (s_M_lays S ((a1 + ((2 : Int32) * a2)).toInt64) ((a1 + (a1 + ((2 : Int32) * a2))).toInt64)) ++ X) H := hP
                    exact b186 (s_M_lays S ((a1 + ((2 : Int32) * a2)).toInt64) ((a1 + (a1 + ((2 : Int32) * a2))).toInt64)) a5 H locs hP hS ls (lv_sub hl [5, 10] rfl) (by rw [s_M_planets, if_neg c_5, if_neg c_17, if_neg c_30, if_neg c_36, if_neg c_47, if_neg c_72, if_neg c_86, if_neg c_99, if_neg c_140])
                  · refine lv_iconst (v := (1 : Int32)) hx hb d_M_planets_143 rfl ?_
                    refine lv_goto (tgt := 148) hx hb d_M_planets_144 (by decide) ?_
                    refine lv_istore (lv' := [(10, .int (1 : Int32)), (9, .int (1 : Int32)), (8, .int (a1 + ((2 : Int32) * a2))), (7, .int (((3 : Int32) - a3) - a4)), (6, .int (a1 + ((2 : Int32) * a2))), (0, .ref (ad 0)), (1, .int a1), (2, .int a2), (3, .int a3), (4, .int a4), (5, .int a5)]) hx hb d_M_planets_148 hl (by decide) rfl (fun ls hl => ?_)
                    refine lv_aload_n hx hb d_M_planets_150 rfl (lv_at hl 5 rfl) ?_
                    refine lv_iload hx hb d_M_planets_151 (lv_at hl 0 rfl) ?_
                    refine lv_if_eq (tgt := 164) hx hb d_M_planets_153 (by decide) (fun c_153 => absurd c_153 (by decide)) (fun c_153 => ?_)
                    refine lv_iload_n hx hb d_M_planets_156 rfl (lv_at hl 6 rfl) ?_
                    refine lv_iload hx hb d_M_planets_157 (lv_at hl 4 rfl) ?_
                    refine lv_iadd hx hb d_M_planets_159 ?_
                    refine lv_i2l hx hb d_M_planets_160 rfl ?_
                    refine lv_goto (tgt := 167) hx hb d_M_planets_161 (by decide) ?_
                    refine lv_iload hx hb d_M_planets_167 (lv_at hl 0 rfl) ?_
                    refine lv_if_eq (tgt := 178) hx hb d_M_planets_169 (by decide) (fun c_169 => absurd c_169 (by decide)) (fun c_169 => ?_)
                    refine lv_iload hx hb d_M_planets_172 (lv_at hl 2 rfl) ?_
                    refine lv_i2l hx hb d_M_planets_174 rfl ?_
                    refine lv_goto (tgt := 183) hx hb d_M_planets_175 (by decide) ?_
                    refine k_mvv (rest := []) (c_M_lays l E ad X S A ((a1 + (a1 + ((2 : Int32) * a2))).toInt64) ((a1 + ((2 : Int32) * a2)).toInt64) (by first | with_reducible exact pl1 (areS c_5) | with_reducible exact pl2 (areS c_5) | with_reducible exact pl3 (areS c_5)) (i2l_lo _)) mi_M_lays ml_M_127 hx hb hml hts hown hK hP hD hS rvM hl ⟨rfl, rfl⟩ ⟨(Nat.le_of_ble_eq_true rfl), (Nat.le_of_ble_eq_true rfl)⟩ ⟨Nat.zero_le _, Nat.zero_le _⟩ rfl (Nat.le_of_ble_eq_true rfl) rfl d_M_planets_183 (fun H locs hP hS => ?_)
                    have hP : va_P E.1 vwCl (wm E ad (s_M_lays S ((a1 + (a1 + ((2 : Int32) * a2))).toInt64) ((a1 + ((2 : Int32) * a2)).toInt64)) ++ X) H := hP
                    exact b186 (s_M_lays S ((a1 + (a1 + ((2 : Int32) * a2))).toInt64) ((a1 + ((2 : Int32) * a2)).toInt64)) a5 H locs hP hS ls (lv_sub hl [5, 10] rfl) (by rw [s_M_planets, if_neg c_5, if_neg c_17, if_neg c_30, if_neg c_36, if_neg c_47, if_neg c_72, if_neg c_86, if_neg c_99, if_pos c_140])
                · refine lv_aload_n hx hb d_M_planets_102 rfl (lv_at hl 4 rfl) ?_
                  refine lv_iload hx hb d_M_planets_103 (lv_at hl 0 rfl) ?_
                  refine lv_if_eq (tgt := 114) hx hb d_M_planets_105 (by decide) (fun c_105 => absurd c_105 (by decide)) (fun c_105 => ?_)
                  refine lv_iload_n hx hb d_M_planets_108 rfl (lv_at hl 5 rfl) ?_
                  refine lv_ineg hx hb d_M_planets_109 ?_
                  refine lv_i2l hx hb d_M_planets_110 rfl ?_
                  refine lv_goto (tgt := 118) hx hb d_M_planets_111 (by decide) ?_
                  refine lv_iload hx hb d_M_planets_118 (lv_at hl 0 rfl) ?_
                  refine lv_if_eq (tgt := 129) hx hb d_M_planets_120 (by decide) (fun c_120 => absurd c_120 (by decide)) (fun c_120 => ?_)
                  refine lv_iload hx hb d_M_planets_123 (lv_at hl 3 rfl) ?_
                  refine lv_i2l hx hb d_M_planets_125 rfl ?_
                  refine lv_goto (tgt := 131) hx hb d_M_planets_126 (by decide) ?_
                  refine k_mvv (rest := []) (c_M_lays l E ad X S A ((-a1).toInt64) ((a1 + ((2 : Int32) * a2)).toInt64) (by first | with_reducible exact pl1 (areS c_5) | with_reducible exact pl2 (areS c_5) | with_reducible exact pl3 (areS c_5)) (i2l_lo _)) mi_M_lays ml_M_127 hx hb hml hts hown hK hP hD hS rvM hl ⟨rfl, rfl⟩ ⟨(Nat.le_of_ble_eq_true rfl), (Nat.le_of_ble_eq_true rfl)⟩ ⟨Nat.zero_le _, Nat.zero_le _⟩ rfl (Nat.le_of_ble_eq_true rfl) rfl d_M_planets_131 (fun H locs hP hS => ?_)
                  have hP : va_P E.1 vwCl (wm E ad (s_M_lays S ((-a1).toInt64) ((a1 + ((2 : Int32) * a2)).toInt64)) ++ X) H := hP
                  refine lv_goto (tgt := 186) hx hb d_M_planets_134 (by decide) ?_
                  exact b186 (s_M_lays S ((-a1).toInt64) ((a1 + ((2 : Int32) * a2)).toInt64)) a5 H locs hP hS ls (lv_sub hl [4, 9] rfl) (by rw [s_M_planets, if_neg c_5, if_neg c_17, if_neg c_30, if_neg c_36, if_neg c_47, if_neg c_72, if_neg c_86, if_pos c_99])
            · refine lv_iload_n hx hb d_M_planets_75 rfl (lv_at hl 3 rfl) ?_
              refine lv_goto (tgt := 81) hx hb d_M_planets_76 (by decide) ?_
              refine lv_istore (lv' := [(8, .int a1), (7, .int (((3 : Int32) - a3) - a4)), (6, .int (a1 + ((2 : Int32) * a2))), (0, .ref (ad 0)), (1, .int a1), (2, .int a2), (3, .int a3), (4, .int a4), (5, .int a5)]) hx hb d_M_planets_81 hl (by decide) rfl (fun ls hl => ?_)
              refine lv_iload_n hx hb d_M_planets_83 rfl (lv_at hl 6 rfl) ?_
              refine lv_iload hx hb d_M_planets_84 (lv_at hl 1 rfl) ?_
              refine lv_icmp_le (tgt := 93) hx hb d_M_planets_86 (by decide) (fun c_86 => ?_) (fun c_86 => ?_)
              · refine lv_iconst (v := (0 : Int32)) hx hb d_M_planets_93 rfl ?_
                refine lv_istore (lv' := [(9, .int (0 : Int32)), (8, .int a1), (7, .int (((3 : Int32) - a3) - a4)), (6, .int (a1 + ((2 : Int32) * a2))), (0, .ref (ad 0)), (1, .int a1), (2, .int a2), (3, .int a3), (4, .int a4), (5, .int a5)]) hx hb d_M_planets_94 hl (by decide) rfl (fun ls hl => ?_)
                refine lv_iload hx hb d_M_planets_96 (lv_at hl 8 rfl) ?_
                refine lv_iconst (v := (1 : Int32)) hx hb d_M_planets_98 rfl ?_
                refine lv_icmp_ne (tgt := 137) hx hb d_M_planets_99 (by decide) (fun c_99 => ?_) (fun c_99 => ?_)
                · refine lv_iload hx hb d_M_planets_137 (lv_at hl 2 rfl) ?_
                  refine lv_iconst (v := (1 : Int32)) hx hb d_M_planets_139 rfl ?_
                  refine lv_icmp_ne (tgt := 147) hx hb d_M_planets_140 (by decide) (fun c_140 => ?_) (fun c_140 => ?_)
                  · refine lv_iconst (v := (0 : Int32)) hx hb d_M_planets_147 rfl ?_
                    refine lv_istore (lv' := [(10, .int (0 : Int32)), (9, .int (0 : Int32)), (8, .int a1), (7, .int (((3 : Int32) - a3) - a4)), (6, .int (a1 + ((2 : Int32) * a2))), (0, .ref (ad 0)), (1, .int a1), (2, .int a2), (3, .int a3), (4, .int a4), (5, .int a5)]) hx hb d_M_planets_148 hl (by decide) rfl (fun ls hl => ?_)
                    refine lv_aload_n hx hb d_M_planets_150 rfl (lv_at hl 5 rfl) ?_
                    refine lv_iload hx hb d_M_planets_151 (lv_at hl 0 rfl) ?_
                    refine lv_if_eq (tgt := 164) hx hb d_M_planets_153 (by decide) (fun c_153 => ?_) (fun c_153 => absurd c_153 (by decide))
                    refine lv_iload hx hb d_M_planets_164 (lv_at hl 2 rfl) ?_
                    refine lv_i2l hx hb d_M_planets_166 rfl ?_
                    refine lv_iload hx hb d_M_planets_167 (lv_at hl 0 rfl) ?_
                    refine lv_if_eq (tgt := 178) hx hb d_M_planets_169 (by decide) (fun c_169 => ?_) (fun c_169 => absurd c_169 (by decide))
                    refine lv_iload_n hx hb d_M_planets_178 rfl (lv_at hl 6 rfl) ?_
                    refine lv_iload hx hb d_M_planets_179 (lv_at hl 4 rfl) ?_
                    refine lv_iadd hx hb d_M_planets_181 ?_
                    refine lv_i2l hx hb d_M_planets_182 rfl ?_
                    refine k_mvv (rest := []) (c_M_lays l E ad X S A (a1.toInt64) ((a1 + (a1 + ((2 : Int32) * a2))).toInt64) (by first | with_reducible exact pl1 (areS c_5) | with_reducible exact pl2 (areS c_5) | with_reducible exact pl3 (areS c_5)) (i2l_lo _)) mi_M_lays ml_M_127 hx hb hml hts hown hK hP hD hS rvM hl ⟨rfl, rfl⟩ ⟨(Nat.le_of_ble_eq_true rfl), (Nat.le_of_ble_eq_true rfl)⟩ ⟨Nat.zero_le _, Nat.zero_le _⟩ rfl (Nat.le_of_ble_eq_true rfl) rfl d_M_planets_183 (fun H locs hP hS => ?_)
                    have hP : va_P E.1 vwCl (wm E ad (s_M_lays S (a1.toInt64) ((a1 + (a1 + ((2 : Int32) * a2))).toInt64)) ++ X) H := hP
                    exact b186 (s_M_lays S (a1.toInt64) ((a1 + (a1 + ((2 : Int32) * a2))).toInt64)) a5 H locs hP hS ls (lv_sub hl [5, 10] rfl) (by rw [s_M_planets, if_neg c_5, if_neg c_17, if_neg c_30, if_neg c_36, if_neg c_47, if_pos c_72, if_pos c_86, if_neg c_99, if_neg c_140])
                  · refine lv_iconst (v := (1 : Int32)) hx hb d_M_planets_143 rfl ?_
                    refine lv_goto (tgt := 148) hx hb d_M_planets_144 (by decide) ?_
                    refine lv_istore (lv' := [(10, .int (1 : Int32)), (9, .int (0 : Int32)), (8, .int a1), (7, .int (((3 : Int32) - a3) - a4)), (6, .int (a1 + ((2 : Int32) * a2))), (0, .ref (ad 0)), (1, .int a1), (2, .int a2), (3, .int a3), (4, .int a4), (5, .int a5)]) hx hb d_M_planets_148 hl (by decide) rfl (fun ls hl => ?_)
                    refine lv_aload_n hx hb d_M_planets_150 rfl (lv_at hl 5 rfl) ?_
                    refine lv_iload hx hb d_M_planets_151 (lv_at hl 0 rfl) ?_
                    refine lv_if_eq (tgt := 164) hx hb d_M_planets_153 (by decide) (fun c_153 => absurd c_153 (by decide)) (fun c_153 => ?_)
                    refine lv_iload_n hx hb d_M_planets_156 rfl (lv_at hl 6 rfl) ?_
                    refine lv_iload hx hb d_M_planets_157 (lv_at hl 4 rfl) ?_
                    refine lv_iadd hx hb d_M_planets_159 ?_
                    refine lv_i2l hx hb d_M_planets_160 rfl ?_
                    refine lv_goto (tgt := 167) hx hb d_M_planets_161 (by decide) ?_
                    refine lv_iload hx hb d_M_planets_167 (lv_at hl 0 rfl) ?_
                    refine lv_if_eq (tgt := 178) hx hb d_M_planets_169 (by decide) (fun c_169 => absurd c_169 (by decide)) (fun c_169 => ?_)
                    refine lv_iload hx hb d_M_planets_172 (lv_at hl 2 rfl) ?_
                    refine lv_i2l hx hb d_M_planets_174 rfl ?_
                    refine lv_goto (tgt := 183) hx hb d_M_planets_175 (by decide) ?_
                    refine k_mvv (rest := []) (c_M_lays l E ad X S A ((a1 + (a1 + ((2 : Int32) * a2))).toInt64) (a1.toInt64) (by first | with_reducible exact pl1 (areS c_5) | with_reducible exact pl2 (areS c_5) | with_reducible exact pl3 (areS c_5)) (i2l_lo _)) mi_M_lays ml_M_127 hx hb hml hts hown hK hP hD hS rvM hl ⟨rfl, rfl⟩ ⟨(Nat.le_of_ble_eq_true rfl), (Nat.le_of_ble_eq_true rfl)⟩ ⟨Nat.zero_le _, Nat.zero_le _⟩ rfl (Nat.le_of_ble_eq_true rfl) rfl d_M_planets_183 (fun H locs hP hS => ?_)
                    have hP : va_P E.1 vwCl (wm E ad (s_M_lays S ((a1 + (a1 + ((2 : Int32) * a2))).toInt64) (a1.toInt64)) ++ X) H := hP
                    exact b186 (s_M_lays S ((a1 + (a1 + ((2 : Int32) * a2))).toInt64) (a1.toInt64)) a5 H locs hP hS ls (lv_sub hl [5, 10] rfl) (by rw [s_M_planets, if_neg c_5, if_neg c_17, if_neg c_30, if_neg c_36, if_neg c_47, if_pos c_72, if_pos c_86, if_neg c_99, if_pos c_140])
                · refine lv_aload_n hx hb d_M_planets_102 rfl (lv_at hl 4 rfl) ?_
                  refine lv_iload hx hb d_M_planets_103 (lv_at hl 0 rfl) ?_
                  refine lv_if_eq (tgt := 114) hx hb d_M_planets_105 (by decide) (fun c_105 => ?_) (fun c_105 => absurd c_105 (by decide))
                  refine lv_iload hx hb d_M_planets_114 (lv_at hl 3 rfl) ?_
                  refine lv_ineg hx hb d_M_planets_116 ?_
                  refine lv_i2l hx hb d_M_planets_117 rfl ?_
                  refine lv_iload hx hb d_M_planets_118 (lv_at hl 0 rfl) ?_
                  refine lv_if_eq (tgt := 129) hx hb d_M_planets_120 (by decide) (fun c_120 => ?_) (fun c_120 => absurd c_120 (by decide))
                  refine lv_iload_n hx hb d_M_planets_129 rfl (lv_at hl 5 rfl) ?_
                  refine lv_i2l hx hb d_M_planets_130 rfl ?_
                  refine k_mvv (rest := []) (c_M_lays l E ad X S A ((-(a1 + ((2 : Int32) * a2))).toInt64) (a1.toInt64) (by first | with_reducible exact pl1 (areS c_5) | with_reducible exact pl2 (areS c_5) | with_reducible exact pl3 (areS c_5)) (i2l_lo _)) mi_M_lays ml_M_127 hx hb hml hts hown hK hP hD hS rvM hl ⟨rfl, rfl⟩ ⟨(Nat.le_of_ble_eq_true rfl), (Nat.le_of_ble_eq_true rfl)⟩ ⟨Nat.zero_le _, Nat.zero_le _⟩ rfl (Nat.le_of_ble_eq_true rfl) rfl d_M_planets_131 (fun H locs hP hS => ?_)
                  have hP : va_P E.1 vwCl (wm E ad (s_M_lays S ((-(a1 + ((2 : Int32) * a2))).toInt64) (a1.toInt64)) ++ X) H := hP
                  refine lv_goto (tgt := 186) hx hb d_M_planets_134 (by decide) ?_
                  exact b186 (s_M_lays S ((-(a1 + ((2 : Int32) * a2))).toInt64) (a1.toInt64)) a5 H locs hP hS ls (lv_sub hl [4, 9] rfl) (by rw [s_M_planets, if_neg c_5, if_neg c_17, if_neg c_30, if_neg c_36, if_neg c_47, if_pos c_72, if_pos c_86, if_pos c_99])
              · refine lv_iconst (v := (1 : Int32)) hx hb d_M_planets_89 rfl ?_
                refine lv_goto (tgt := 94) hx hb d_M_planets_90 (by decide) ?_
                refine lv_istore (lv' := [(9, .int (1 : Int32)), (8, .int a1), (7, .int (((3 : Int32) - a3) - a4)), (6, .int (a1 + ((2 : Int32) * a2))), (0, .ref (ad 0)), (1, .int a1), (2, .int a2), (3, .int a3), (4, .int a4), (5, .int a5)]) hx hb d_M_planets_94 hl (by decide) rfl (fun ls hl => ?_)
                refine lv_iload hx hb d_M_planets_96 (lv_at hl 8 rfl) ?_
                refine lv_iconst (v := (1 : Int32)) hx hb d_M_planets_98 rfl ?_
                refine lv_icmp_ne (tgt := 137) hx hb d_M_planets_99 (by decide) (fun c_99 => ?_) (fun c_99 => ?_)
                · refine lv_iload hx hb d_M_planets_137 (lv_at hl 2 rfl) ?_
                  refine lv_iconst (v := (1 : Int32)) hx hb d_M_planets_139 rfl ?_
                  refine lv_icmp_ne (tgt := 147) hx hb d_M_planets_140 (by decide) (fun c_140 => ?_) (fun c_140 => ?_)
                  · refine lv_iconst (v := (0 : Int32)) hx hb d_M_planets_147 rfl ?_
                    refine lv_istore (lv' := [(10, .int (0 : Int32)), (9, .int (1 : Int32)), (8, .int a1), (7, .int (((3 : Int32) - a3) - a4)), (6, .int (a1 + ((2 : Int32) * a2))), (0, .ref (ad 0)), (1, .int a1), (2, .int a2), (3, .int a3), (4, .int a4), (5, .int a5)]) hx hb d_M_planets_148 hl (by decide) rfl (fun ls hl => ?_)
                    refine lv_aload_n hx hb d_M_planets_150 rfl (lv_at hl 5 rfl) ?_
                    refine lv_iload hx hb d_M_planets_151 (lv_at hl 0 rfl) ?_
                    refine lv_if_eq (tgt := 164) hx hb d_M_planets_153 (by decide) (fun c_153 => ?_) (fun c_153 => absurd c_153 (by decide))
                    refine lv_iload hx hb d_M_planets_164 (lv_at hl 2 rfl) ?_
                    refine lv_i2l hx hb d_M_planets_166 rfl ?_
                    refine lv_iload hx hb d_M_planets_167 (lv_at hl 0 rfl) ?_
                    refine lv_if_eq (tgt := 178) hx hb d_M_planets_169 (by decide) (fun c_169 => ?_) (fun c_169 => absurd c_169 (by decide))
                    refine lv_iload_n hx hb d_M_planets_178 rfl (lv_at hl 6 rfl) ?_
                    refine lv_iload hx hb d_M_planets_179 (lv_at hl 4 rfl) ?_
                    refine lv_iadd hx hb d_M_planets_181 ?_
                    refine lv_i2l hx hb d_M_planets_182 rfl ?_
                    refine k_mvv (rest := []) (c_M_lays l E ad X S A (a1.toInt64) ((a1 + (a1 + ((2 : Int32) * a2))).toInt64) (by first | with_reducible exact pl1 (areS c_5) | with_reducible exact pl2 (areS c_5) | with_reducible exact pl3 (areS c_5)) (i2l_lo _)) mi_M_lays ml_M_127 hx hb hml hts hown hK hP hD hS rvM hl ⟨rfl, rfl⟩ ⟨(Nat.le_of_ble_eq_true rfl), (Nat.le_of_ble_eq_true rfl)⟩ ⟨Nat.zero_le _, Nat.zero_le _⟩ rfl (Nat.le_of_ble_eq_true rfl) rfl d_M_planets_183 (fun H locs hP hS => ?_)
                    have hP : va_P E.1 vwCl (wm E ad (s_M_lays S (a1.toInt64) ((a1 + (a1 + ((2 : Int32) * a2))).toInt64)) ++ X) H := hP
                    exact b186 (s_M_lays S (a1.toInt64) ((a1 + (a1 + ((2 : Int32) * a2))).toInt64)) a5 H locs hP hS ls (lv_sub hl [5, 10] rfl) (by rw [s_M_planets, if_neg c_5, if_neg c_17, if_neg c_30, if_neg c_36, if_neg c_47, if_pos c_72, if_neg c_86, if_neg c_99, if_neg c_140])
                  · refine lv_iconst (v := (1 : Int32)) hx hb d_M_planets_143 rfl ?_
                    refine lv_goto (tgt := 148) hx hb d_M_planets_144 (by decide) ?_
                    refine lv_istore (lv' := [(10, .int (1 : Int32)), (9, .int (1 : Int32)), (8, .int a1), (7, .int (((3 : Int32) - a3) - a4)), (6, .int (a1 + ((2 : Int32) * a2))), (0, .ref (ad 0)), (1, .int a1), (2, .int a2), (3, .int a3), (4, .int a4), (5, .int a5)]) hx hb d_M_planets_148 hl (by decide) rfl (fun ls hl => ?_)
                    refine lv_aload_n hx hb d_M_planets_150 rfl (lv_at hl 5 rfl) ?_
                    refine lv_iload hx hb d_M_planets_151 (lv_at hl 0 rfl) ?_
                    refine lv_if_eq (tgt := 164) hx hb d_M_planets_153 (by decide) (fun c_153 => absurd c_153 (by decide)) (fun c_153 => ?_)
                    refine lv_iload_n hx hb d_M_planets_156 rfl (lv_at hl 6 rfl) ?_
                    refine lv_iload hx hb d_M_planets_157 (lv_at hl 4 rfl) ?_
                    refine lv_iadd hx hb d_M_planets_159 ?_
                    refine lv_i2l hx hb d_M_planets_160 rfl ?_
                    refine lv_goto (tgt := 167) hx hb d_M_planets_161 (by decide) ?_
                    refine lv_iload hx hb d_M_planets_167 (lv_at hl 0 rfl) ?_
                    refine lv_if_eq (tgt := 178) hx hb d_M_planets_169 (by decide) (fun c_169 => absurd c_169 (by decide)) (fun c_169 => ?_)
                    refine lv_iload hx hb d_M_planets_172 (lv_at hl 2 rfl) ?_
                    refine lv_i2l hx hb d_M_planets_174 rfl ?_
                    refine lv_goto (tgt := 183) hx hb d_M_planets_175 (by decide) ?_
                    refine k_mvv (rest := []) (c_M_lays l E ad X S A ((a1 + (a1 + ((2 : Int32) * a2))).toInt64) (a1.toInt64) (by first | with_reducible exact pl1 (areS c_5) | with_reducible exact pl2 (areS c_5) | with_reducible exact pl3 (areS c_5)) (i2l_lo _)) mi_M_lays ml_M_127 hx hb hml hts hown hK hP hD hS rvM hl ⟨rfl, rfl⟩ ⟨(Nat.le_of_ble_eq_true rfl), (Nat.le_of_ble_eq_true rfl)⟩ ⟨Nat.zero_le _, Nat.zero_le _⟩ rfl (Nat.le_of_ble_eq_true rfl) rfl d_M_planets_183 (fun H locs hP hS => ?_)
                    have hP : va_P E.1 vwCl (wm E ad (s_M_lays S ((a1 + (a1 + ((2 : Int32) * a2))).toInt64) (a1.toInt64)) ++ X) H := hP
                    exact b186 (s_M_lays S ((a1 + (a1 + ((2 : Int32) * a2))).toInt64) (a1.toInt64)) a5 H locs hP hS ls (lv_sub hl [5, 10] rfl) (by rw [s_M_planets, if_neg c_5, if_neg c_17, if_neg c_30, if_neg c_36, if_neg c_47, if_pos c_72, if_neg c_86, if_neg c_99, if_pos c_140])
                · refine lv_aload_n hx hb d_M_planets_102 rfl (lv_at hl 4 rfl) ?_
                  refine lv_iload hx hb d_M_planets_103 (lv_at hl 0 rfl) ?_
                  refine lv_if_eq (tgt := 114) hx hb d_M_planets_105 (by decide) (fun c_105 => absurd c_105 (by decide)) (fun c_105 => ?_)
                  refine lv_iload_n hx hb d_M_planets_108 rfl (lv_at hl 5 rfl) ?_
                  refine lv_ineg hx hb d_M_planets_109 ?_
                  refine lv_i2l hx hb d_M_planets_110 rfl ?_
                  refine lv_goto (tgt := 118) hx hb d_M_planets_111 (by decide) ?_
                  refine lv_iload hx hb d_M_planets_118 (lv_at hl 0 rfl) ?_
                  refine lv_if_eq (tgt := 129) hx hb d_M_planets_120 (by decide) (fun c_120 => absurd c_120 (by decide)) (fun c_120 => ?_)
                  refine lv_iload hx hb d_M_planets_123 (lv_at hl 3 rfl) ?_
                  refine lv_i2l hx hb d_M_planets_125 rfl ?_
                  refine lv_goto (tgt := 131) hx hb d_M_planets_126 (by decide) ?_
                  refine k_mvv (rest := []) (c_M_lays l E ad X S A ((-a1).toInt64) ((a1 + ((2 : Int32) * a2)).toInt64) (by first | with_reducible exact pl1 (areS c_5) | with_reducible exact pl2 (areS c_5) | with_reducible exact pl3 (areS c_5)) (i2l_lo _)) mi_M_lays ml_M_127 hx hb hml hts hown hK hP hD hS rvM hl ⟨rfl, rfl⟩ ⟨(Nat.le_of_ble_eq_true rfl), (Nat.le_of_ble_eq_true rfl)⟩ ⟨Nat.zero_le _, Nat.zero_le _⟩ rfl (Nat.le_of_ble_eq_true rfl) rfl d_M_planets_131 (fun H locs hP hS => ?_)
                  have hP : va_P E.1 vwCl (wm E ad (s_M_lays S ((-a1).toInt64) ((a1 + ((2 : Int32) * a2)).toInt64)) ++ X) H := hP
                  refine lv_goto (tgt := 186) hx hb d_M_planets_134 (by decide) ?_
                  exact b186 (s_M_lays S ((-a1).toInt64) ((a1 + ((2 : Int32) * a2)).toInt64)) a5 H locs hP hS ls (lv_sub hl [4, 9] rfl) (by rw [s_M_planets, if_neg c_5, if_neg c_17, if_neg c_30, if_neg c_36, if_neg c_47, if_pos c_72, if_neg c_86, if_pos c_99])
          · refine lv_ldc2 (v := (-9223372036854775808 : Int64)) hx hb hown (hts _ kl_M_117) d_M_planets_50 ?_
            exact hend _ _ _ _ _ _ (by rw [s_M_planets, if_neg c_5, if_neg c_17, if_neg c_30, if_neg c_36, if_pos c_47]) hP hS d_M_planets_53
