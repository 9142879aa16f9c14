/-! by program (wip/whole/mdl.py) -/
def s_M_isPair (S : St) (a1 : Int32) (a2 : Int32) : Int32 := (if (s_M_isWheel S a1) = 0 then (0 : Int32) else (if (s_M_isWheel S a2) = 0 then (0 : Int32) else (if a1 = a2 then (0 : Int32) else (if (s_M_isRing S a1) = 0 then (1 : Int32) else (if (s_M_isRing S a2) = 0 then (1 : Int32) else (0 : Int32))))))
theorem z_M_isPair (S : St) (a1 : Int32) (a2 : Int32) : (s_M_isPair S a1 a2) = 0 ∨ (s_M_isPair S a1 a2) = 1 := by rw [s_M_isPair]; exact (ite_z (Or.inl rfl) (ite_z (Or.inl rfl) (ite_z (Or.inl rfl) (ite_z (Or.inr rfl) (ite_z (Or.inr rfl) (Or.inl rfl))))))
set_option maxRecDepth 20000 in
theorem c_M_isPair (l : Launch) (E : Cx) (ad : Nat → Nat) (X : va_W) (S : St) (a1 : Int32) (a2 : Int32) (hG : GI (S.2.1 0)) : Met l y_M_isPair (Cond.code y_M_isPair b_M_isPair 3 (some .boolean) :: TB) (rk 2 46) (va_Pc [.ref (ad 0), .int a1, .int a2] (preR E (wm E ad S ++ X))) (vp_Si (fun r => r = (s_M_isPair S a1 a2))) 0 0 (fun _ => False) := by
  refine w_roI rfl (Nat.le_of_ble_eq_true rfl) (k_nb (z_M_isPair S a1 a2)) ?_
  intro p e s m args below meth c Q ls hx hb hml hts hown hP hK hl hend
  have hl : lv_has ls 3 [(0, .ref (ad 0)), (1, .int a1), (2, .int a2)] := hl
  have hP : va_P E.1 vwCl (wm E ad S ++ X) s.heap := hP
  have hown : s.vm.findClass R_M = some m.cls := hown
  refine lv_aload_n hx hb d_M_isPair_0 rfl (lv_at hl 0 rfl) ?_
  refine lv_iload_n hx hb d_M_isPair_1 rfl (lv_at hl 1 rfl) ?_
  refine k_vi (rest := []) (c_M_isWheel l E ad X S a1) mi_M_isWheel ml_M_66 hx hb hml hts hown hK hP rvM hl ⟨rfl, rfl⟩ ⟨(Nat.le_of_ble_eq_true rfl), (Nat.le_of_ble_eq_true rfl)⟩ ⟨Nat.zero_le _, Nat.zero_le _⟩ rfl (Nat.le_of_ble_eq_true rfl) rfl d_M_isPair_2 ?_
  refine lv_if_eq (tgt := 41) hx hb d_M_isPair_5 (by decide) (fun c_5 => ?_) (fun c_5 => ?_)
  · refine lv_iconst (v := (0 : Int32)) hx hb d_M_isPair_41 rfl ?_
    exact hend _ _ _ (by rw [s_M_isPair, if_pos c_5]) d_M_isPair_42
  · refine lv_aload_n hx hb d_M_isPair_8 rfl (lv_at hl 0 rfl) ?_
    refine lv_iload_n hx hb d_M_isPair_9 rfl (lv_at hl 2 rfl) ?_
    refine k_vi (rest := []) (c_M_isWheel l E ad X S a2) mi_M_isWheel ml_M_66 hx hb hml hts hown hK hP rvM hl ⟨rfl, rfl⟩ ⟨(Nat.le_of_ble_eq_true rfl), (Nat.le_of_ble_eq_true rfl)⟩ ⟨Nat.zero_le _, Nat.zero_le _⟩ rfl (Nat.le_of_ble_eq_true rfl) rfl d_M_isPair_10 ?_
    refine lv_if_eq (tgt := 41) hx hb d_M_isPair_13 (by decide) (fun c_13 => ?_) (fun c_13 => ?_)
    · refine lv_iconst (v := (0 : Int32)) hx hb d_M_isPair_41 rfl ?_
      exact hend _ _ _ (by rw [s_M_isPair, if_neg c_5, if_pos c_13]) d_M_isPair_42
    · refine lv_iload_n hx hb d_M_isPair_16 rfl (lv_at hl 1 rfl) ?_
      refine lv_iload_n hx hb d_M_isPair_17 rfl (lv_at hl 2 rfl) ?_
      refine lv_icmp_eq (tgt := 41) hx hb d_M_isPair_18 (by decide) (fun c_18 => ?_) (fun c_18 => ?_)
      · refine lv_iconst (v := (0 : Int32)) hx hb d_M_isPair_41 rfl ?_
        exact hend _ _ _ (by rw [s_M_isPair, if_neg c_5, if_neg c_13, if_pos c_18]) d_M_isPair_42
      · refine lv_aload_n hx hb d_M_isPair_21 rfl (lv_at hl 0 rfl) ?_
        refine lv_iload_n hx hb d_M_isPair_22 rfl (lv_at hl 1 rfl) ?_
        refine k_vi (rest := []) (c_M_isRing l E ad X S a1 (isW16 hG c_5)) mi_M_isRing ml_M_54 hx hb hml hts hown hK hP rvM hl ⟨rfl, rfl⟩ ⟨(Nat.le_of_ble_eq_true rfl), (Nat.le_of_ble_eq_true rfl)⟩ ⟨Nat.zero_le _, Nat.zero_le _⟩ rfl (Nat.le_of_ble_eq_true rfl) rfl d_M_isPair_23 ?_
        refine lv_if_eq (tgt := 37) hx hb d_M_isPair_26 (by decide) (fun c_26 => ?_) (fun c_26 => ?_)
        · refine lv_iconst (v := (1 : Int32)) hx hb d_M_isPair_37 rfl ?_
          refine lv_goto (tgt := 42) hx hb d_M_isPair_38 (by decide) ?_
          exact hend _ _ _ (by rw [s_M_isPair, if_neg c_5, if_neg c_13, if_neg c_18, if_pos c_26]) d_M_isPair_42
        · refine lv_aload_n hx hb d_M_isPair_29 rfl (lv_at hl 0 rfl) ?_
          refine lv_iload_n hx hb d_M_isPair_30 rfl (lv_at hl 2 rfl) ?_
          refine k_vi (rest := []) (c_M_isRing l E ad X S a2 (isW16 hG c_13)) mi_M_isRing ml_M_54 hx hb hml hts hown hK hP rvM hl ⟨rfl, rfl⟩ ⟨(Nat.le_of_ble_eq_true rfl), (Nat.le_of_ble_eq_true rfl)⟩ ⟨Nat.zero_le _, Nat.zero_le _⟩ rfl (Nat.le_of_ble_eq_true rfl) rfl d_M_isPair_31 ?_
          refine lv_if_ne (tgt := 41) hx hb d_M_isPair_34 (by decide) (fun c_34 => ?_) (fun c_34 => ?_)
          · refine lv_iconst (v := (0 : Int32)) hx hb d_M_isPair_41 rfl ?_
            exact hend _ _ _ (by rw [s_M_isPair, if_neg c_5, if_neg c_13, if_neg c_18, if_neg c_26, if_neg c_34]) d_M_isPair_42
          · refine lv_iconst (v := (1 : Int32)) hx hb d_M_isPair_37 rfl ?_
            refine lv_goto (tgt := 42) hx hb d_M_isPair_38 (by decide) ?_
            exact hend _ _ _ (by rw [s_M_isPair, if_neg c_5, if_neg c_13, if_neg c_18, if_neg c_26, if_pos c_34]) d_M_isPair_42
theorem isP {S : St} {a b : Int32} (hG : GI (S.2.1 0)) (h : ¬ s_M_isPair S a b = 0) : wl (S.2.1 0) a ∧ wl (S.2.1 0) b := by
  rw [s_M_isPair] at h
  by_cases h1 : s_M_isWheel S a = 0
  · rw [if_pos h1] at h; exact absurd rfl h
  · by_cases h2 : s_M_isWheel S b = 0
    · rw [if_neg h1, if_pos h2] at h; exact absurd rfl h
    · exact ⟨isW hG h1, isW hG h2⟩
theorem isP1 {S : St} {a b : Int32} (hG : GI (S.2.1 0)) (h : ¬ s_M_isPair S a b = 0) : w16 a := wl_w16 hG (isP hG h).1
theorem sA_rd {S : St} {i k j : Nat} {v : Int32} (h : j ≠ k) : (sA S i k v).2.1 i j = S.2.1 i j := by simp [sA, sF, va_up, upd, h]
theorem sA_rs {S : St} {i k : Nat} {v : Int32} : (sA S i k v).2.1 i k = v := by simp [sA, sF, va_up, upd]
theorem pr_ix {S : St} {a : Int32} (hG : GI (S.2.1 0)) (c : ¬ S.2.1 0 34 = 9) : vp_in ((44 : Int32) + ((sA S 0 ((35 : Int32) + (S.2.1 0 34)).toNatClampNeg a).2.1 0 34)) 53 := by
  have h9 := gi_m hG c
  have e : ((35 : Int32) + S.2.1 0 34).toNatClampNeg = 35 + (S.2.1 0 34).toNatClampNeg := ad_tn (C := 35) (by decide) h9.1 (by have := h9.2; omega)
  rw [e, sA_rd (by omega)]
  exact ix_add9 h9 (by decide)
theorem isP2 {S : St} {a b : Int32} (hG : GI (S.2.1 0)) (h : ¬ s_M_isPair S a b = 0) : w16 b := wl_w16 hG (isP hG h).2

def s_M_clashes (S : St) (a1 : Int32) (a2 : Int32) : Int32 := (if (s_M_isRing S a1) = 0 then (if (s_M_isRing S a1) = 0 then (if (s_M_isRing S a2) = 0 then (0 : Int32) else (if (8 : Int32) ≤ ((s_M_size S a2) - (s_M_teeth S a1)) then (0 : Int32) else (1 : Int32))) else (if (s_M_isRing S a2) = 0 then (0 : Int32) else (if (8 : Int32) ≤ ((s_M_size S a2) - (s_M_teeth S a2)) then (0 : Int32) else (1 : Int32)))) else (if (s_M_isRing S a1) = 0 then (if (s_M_isRing S a1) = 0 then (0 : Int32) else (if (8 : Int32) ≤ ((s_M_size S a1) - (s_M_teeth S a1)) then (0 : Int32) else (1 : Int32))) else (if (s_M_isRing S a1) = 0 then (0 : Int32) else (if (8 : Int32) ≤ ((s_M_size S a1) - (s_M_teeth S a2)) then (0 : Int32) else (1 : Int32)))))
theorem z_M_clashes (S : St) (a1 : Int32) (a2 : Int32) : (s_M_clashes S a1 a2) = 0 ∨ (s_M_clashes S a1 a2) = 1 := by rw [s_M_clashes]; exact (ite_z (ite_z (ite_z (Or.inl rfl) (ite_z (Or.inl rfl) (Or.inr rfl))) (ite_z (Or.inl rfl) (ite_z (Or.inl rfl) (Or.inr rfl)))) (ite_z (ite_z (Or.inl rfl) (ite_z (Or.inl rfl) (Or.inr rfl))) (ite_z (Or.inl rfl) (ite_z (Or.inl rfl) (Or.inr rfl)))))
set_option maxRecDepth 20000 in
theorem c_M_clashes (l : Launch) (E : Cx) (ad : Nat → Nat) (X : va_W) (S : St) (a1 : Int32) (a2 : Int32) (h1 : w16 a1) (h2 : w16 a2) : Met l y_M_clashes (Cond.code y_M_clashes b_M_clashes 5 (some .boolean) :: TB) (rk 3 63) (va_Pc [.ref (ad 0), .int a1, .int a2] (preR E (wm E ad S ++ X))) (vp_Si (fun r => r = (s_M_clashes S a1 a2))) 0 0 (fun _ => False) := by
  refine w_roI rfl (Nat.le_of_ble_eq_true rfl) (k_nb (z_M_clashes S a1 a2)) ?_
  intro p e s m args below meth c Q ls hx hb hml hts hown hP hK hl hend
  have hl : lv_has ls 5 [(0, .ref (ad 0)), (1, .int a1), (2, .int a2)] := hl
  have hP : va_P E.1 vwCl (wm E ad S ++ X) s.heap := hP
  have hown : s.vm.findClass R_M = some m.cls := hown
  refine lv_aload_n hx hb d_M_clashes_0 rfl (lv_at hl 0 rfl) ?_
  refine lv_iload_n hx hb d_M_clashes_1 rfl (lv_at hl 1 rfl) ?_
  refine k_vi (rest := []) (c_M_isRing l E ad X S a1 (by assumption)) mi_M_isRing ml_M_54 hx hb hml hts hown hK hP rvM hl ⟨rfl, rfl⟩ ⟨(Nat.le_of_ble_eq_true rfl), (Nat.le_of_ble_eq_true rfl)⟩ ⟨Nat.zero_le _, Nat.zero_le _⟩ rfl (Nat.le_of_ble_eq_true rfl) rfl d_M_clashes_2 ?_
  refine lv_if_eq (tgt := 12) hx hb d_M_clashes_5 (by decide) (fun c_5 => ?_) (fun c_5 => ?_)
  · refine lv_iload_n hx hb d_M_clashes_12 rfl (lv_at hl 2 rfl) ?_
    refine lv_istore_n (lv' := [(3, .int a2), (0, .ref (ad 0)), (1, .int a1), (2, .int a2)]) hx hb d_M_clashes_13 rfl hl (by decide) rfl (fun ls hl => ?_)
    refine lv_aload_n hx hb d_M_clashes_14 rfl (lv_at hl 1 rfl) ?_
    refine lv_iload_n hx hb d_M_clashes_15 rfl (lv_at hl 2 rfl) ?_
    refine k_vi (rest := []) (c_M_isRing l E ad X S a1 (by assumption)) mi_M_isRing ml_M_54 hx hb hml hts hown hK hP rvM hl ⟨rfl, rfl⟩ ⟨(Nat.le_of_ble_eq_true rfl), (Nat.le_of_ble_eq_true rfl)⟩ ⟨Nat.zero_le _, Nat.zero_le _⟩ rfl (Nat.le_of_ble_eq_true rfl) rfl d_M_clashes_16 ?_
    refine lv_if_eq (tgt := 26) hx hb d_M_clashes_19 (by decide) (fun c_19 => ?_) (fun c_19 => ?_)
    · refine lv_iload_n hx hb d_M_clashes_26 rfl (lv_at hl 2 rfl) ?_
      refine lv_istore (lv' := [(4, .int a1), (3, .int a2), (0, .ref (ad 0)), (1, .int a1), (2, .int a2)]) hx hb d_M_clashes_27 hl (by decide) rfl (fun ls hl => ?_)
      refine lv_aload_n hx hb d_M_clashes_29 rfl (lv_at hl 2 rfl) ?_
      refine lv_iload_n hx hb d_M_clashes_30 rfl (lv_at hl 1 rfl) ?_
      refine k_vi (rest := []) (c_M_isRing l E ad X S a2 (by assumption)) mi_M_isRing ml_M_54 hx hb hml hts hown hK hP rvM hl ⟨rfl, rfl⟩ ⟨(Nat.le_of_ble_eq_true rfl), (Nat.le_of_ble_eq_true rfl)⟩ ⟨Nat.zero_le _, Nat.zero_le _⟩ rfl (Nat.le_of_ble_eq_true rfl) rfl d_M_clashes_31 ?_
      refine lv_if_eq (tgt := 58) hx hb d_M_clashes_34 (by decide) (fun c_34 => ?_) (fun c_34 => ?_)
      · refine lv_iconst (v := (0 : Int32)) hx hb d_M_clashes_58 rfl ?_
        exact hend _ _ _ (by rw [s_M_clashes, if_pos c_5, if_pos c_19, if_pos c_34]) d_M_clashes_59
      · refine lv_aload_n hx hb d_M_clashes_37 rfl (lv_at hl 2 rfl) ?_
        refine lv_iload_n hx hb d_M_clashes_38 rfl (lv_at hl 1 rfl) ?_
        refine k_vi (rest := []) (c_M_size l E ad X S a2 (by assumption)) mi_M_size ml_M_104 hx hb hml hts hown hK hP rvM hl ⟨rfl, rfl⟩ ⟨(Nat.le_of_ble_eq_true rfl), (Nat.le_of_ble_eq_true rfl)⟩ ⟨Nat.zero_le _, Nat.zero_le _⟩ rfl (Nat.le_of_ble_eq_true rfl) rfl d_M_clashes_39 ?_
        refine lv_aload_n hx hb d_M_clashes_42 rfl (lv_at hl 2 rfl) ?_
        refine lv_iload hx hb d_M_clashes_43 (lv_at hl 0 rfl) ?_
        refine k_vi (rest := [.int (s_M_size S a2)]) (c_M_teeth l E ad X S a1 (by assumption)) mi_M_teeth ml_M_50 hx hb hml hts hown hK hP rvM hl ⟨rfl, rfl⟩ ⟨(Nat.le_of_ble_eq_true rfl), (Nat.le_of_ble_eq_true rfl)⟩ ⟨Nat.zero_le _, Nat.zero_le _⟩ rfl (Nat.le_of_ble_eq_true rfl) rfl d_M_clashes_45 ?_
        refine lv_isub hx hb d_M_clashes_48 ?_
        refine lv_bipush (v := (8 : Int32)) hx hb d_M_clashes_49 rfl ?_
        refine lv_icmp_ge (tgt := 58) hx hb d_M_clashes_51 (by decide) (fun c_51 => ?_) (fun c_51 => ?_)
        · refine lv_iconst (v := (0 : Int32)) hx hb d_M_clashes_58 rfl ?_
          exact hend _ _ _ (by rw [s_M_clashes, if_pos c_5, if_pos c_19, if_neg c_34, if_pos c_51]) d_M_clashes_59
        · refine lv_iconst (v := (1 : Int32)) hx hb d_M_clashes_54 rfl ?_
          refine lv_goto (tgt := 59) hx hb d_M_clashes_55 (by decide) ?_
          exact hend _ _ _ (by rw [s_M_clashes, if_pos c_5, if_pos c_19, if_neg c_34, if_neg c_51]) d_M_clashes_59
    · refine lv_iload_n hx hb d_M_clashes_22 rfl (lv_at hl 3 rfl) ?_
      refine lv_goto (tgt := 27) hx hb d_M_clashes_23 (by decide) ?_
      refine lv_istore (lv' := [(4, .int a2), (3, .int a2), (0, .ref (ad 0)), (1, .int a1), (2, .int a2)]) hx hb d_M_clashes_27 hl (by decide) rfl (fun ls hl => ?_)
      refine lv_aload_n hx hb d_M_clashes_29 rfl (lv_at hl 2 rfl) ?_
      refine lv_iload_n hx hb d_M_clashes_30 rfl (lv_at hl 1 rfl) ?_
      refine k_vi (rest := []) (c_M_isRing l E ad X S a2 (by assumption)) mi_M_isRing ml_M_54 hx hb hml hts hown hK hP rvM hl ⟨rfl, rfl⟩ ⟨(Nat.le_of_ble_eq_true rfl), (Nat.le_of_ble_eq_true rfl)⟩ ⟨Nat.zero_le _, Nat.zero_le _⟩ rfl (Nat.le_of_ble_eq_true rfl) rfl d_M_clashes_31 ?_
      refine lv_if_eq (tgt := 58) hx hb d_M_clashes_34 (by decide) (fun c_34 => ?_) (fun c_34 => ?_)
      · refine lv_iconst (v := (0 : Int32)) hx hb d_M_clashes_58 rfl ?_
        exact hend _ _ _ (by rw [s_M_clashes, if_pos c_5, if_neg c_19, if_pos c_34]) d_M_clashes_59
      · refine lv_aload_n hx hb d_M_clashes_37 rfl (lv_at hl 2 rfl) ?_
        refine lv_iload_n hx hb d_M_clashes_38 rfl (lv_at hl 1 rfl) ?_
        refine k_vi (rest := []) (c_M_size l E ad X S a2 (by assumption)) mi_M_size ml_M_104 hx hb hml hts hown hK hP rvM hl ⟨rfl, rfl⟩ ⟨(Nat.le_of_ble_eq_true rfl), (Nat.le_of_ble_eq_true rfl)⟩ ⟨Nat.zero_le _, Nat.zero_le _⟩ rfl (Nat.le_of_ble_eq_true rfl) rfl d_M_clashes_39 ?_
        refine lv_aload_n hx hb d_M_clashes_42 rfl (lv_at hl 2 rfl) ?_
        refine lv_iload hx hb d_M_clashes_43 (lv_at hl 0 rfl) ?_
        refine k_vi (rest := [.int (s_M_size S a2)]) (c_M_teeth l E ad X S a2 (by assumption)) mi_M_teeth ml_M_50 hx hb hml hts hown hK hP rvM hl ⟨rfl, rfl⟩ ⟨(Nat.le_of_ble_eq_true rfl), (Nat.le_of_ble_eq_true rfl)⟩ ⟨Nat.zero_le _, Nat.zero_le _⟩ rfl (Nat.le_of_ble_eq_true rfl) rfl d_M_clashes_45 ?_
        refine lv_isub hx hb d_M_clashes_48 ?_
        refine lv_bipush (v := (8 : Int32)) hx hb d_M_clashes_49 rfl ?_
        refine lv_icmp_ge (tgt := 58) hx hb d_M_clashes_51 (by decide) (fun c_51 => ?_) (fun c_51 => ?_)
        · refine lv_iconst (v := (0 : Int32)) hx hb d_M_clashes_58 rfl ?_
          exact hend _ _ _ (by rw [s_M_clashes, if_pos c_5, if_neg c_19, if_neg c_34, if_pos c_51]) d_M_clashes_59
        · refine lv_iconst (v := (1 : Int32)) hx hb d_M_clashes_54 rfl ?_
          refine lv_goto (tgt := 59) hx hb d_M_clashes_55 (by decide) ?_
          exact hend _ _ _ (by rw [s_M_clashes, if_pos c_5, if_neg c_19, if_neg c_34, if_neg c_51]) d_M_clashes_59
  · refine lv_iload_n hx hb d_M_clashes_8 rfl (lv_at hl 1 rfl) ?_
    refine lv_goto (tgt := 13) hx hb d_M_clashes_9 (by decide) ?_
    refine lv_istore_n (lv' := [(3, .int a1), (0, .ref (ad 0)), (1, .int a1), (2, .int a2)]) hx hb d_M_clashes_13 rfl hl (by decide) rfl (fun ls hl => ?_)
    refine lv_aload_n hx hb d_M_clashes_14 rfl (lv_at hl 1 rfl) ?_
    refine lv_iload_n hx hb d_M_clashes_15 rfl (lv_at hl 2 rfl) ?_
    refine k_vi (rest := []) (c_M_isRing l E ad X S a1 (by assumption)) mi_M_isRing ml_M_54 hx hb hml hts hown hK hP rvM hl ⟨rfl, rfl⟩ ⟨(Nat.le_of_ble_eq_true rfl), (Nat.le_of_ble_eq_true rfl)⟩ ⟨Nat.zero_le _, Nat.zero_le _⟩ rfl (Nat.le_of_ble_eq_true rfl) rfl d_M_clashes_16 ?_
    refine lv_if_eq (tgt := 26) hx hb d_M_clashes_19 (by decide) (fun c_19 => ?_) (fun c_19 => ?_)
    · refine lv_iload_n hx hb d_M_clashes_26 rfl (lv_at hl 2 rfl) ?_
      refine lv_istore (lv' := [(4, .int a1), (3, .int a1), (0, .ref (ad 0)), (1, .int a1), (2, .int a2)]) hx hb d_M_clashes_27 hl (by decide) rfl (fun ls hl => ?_)
      refine lv_aload_n hx hb d_M_clashes_29 rfl (lv_at hl 2 rfl) ?_
      refine lv_iload_n hx hb d_M_clashes_30 rfl (lv_at hl 1 rfl) ?_
      refine k_vi (rest := []) (c_M_isRing l E ad X S a1 (by assumption)) mi_M_isRing ml_M_54 hx hb hml hts hown hK hP rvM hl ⟨rfl, rfl⟩ ⟨(Nat.le_of_ble_eq_true rfl), (Nat.le_of_ble_eq_true rfl)⟩ ⟨Nat.zero_le _, Nat.zero_le _⟩ rfl (Nat.le_of_ble_eq_true rfl) rfl d_M_clashes_31 ?_
      refine lv_if_eq (tgt := 58) hx hb d_M_clashes_34 (by decide) (fun c_34 => ?_) (fun c_34 => ?_)
      · refine lv_iconst (v := (0 : Int32)) hx hb d_M_clashes_58 rfl ?_
        exact hend _ _ _ (by rw [s_M_clashes, if_neg c_5, if_pos c_19, if_pos c_34]) d_M_clashes_59
      · refine lv_aload_n hx hb d_M_clashes_37 rfl (lv_at hl 2 rfl) ?_
        refine lv_iload_n hx hb d_M_clashes_38 rfl (lv_at hl 1 rfl) ?_
        refine k_vi (rest := []) (c_M_size l E ad X S a1 (by assumption)) mi_M_size ml_M_104 hx hb hml hts hown hK hP rvM hl ⟨rfl, rfl⟩ ⟨(Nat.le_of_ble_eq_true rfl), (Nat.le_of_ble_eq_true rfl)⟩ ⟨Nat.zero_le _, Nat.zero_le _⟩ rfl (Nat.le_of_ble_eq_true rfl) rfl d_M_clashes_39 ?_
        refine lv_aload_n hx hb d_M_clashes_42 rfl (lv_at hl 2 rfl) ?_
        refine lv_iload hx hb d_M_clashes_43 (lv_at hl 0 rfl) ?_
        refine k_vi (rest := [.int (s_M_size S a1)]) (c_M_teeth l E ad X S a1 (by assumption)) mi_M_teeth ml_M_50 hx hb hml hts hown hK hP rvM hl ⟨rfl, rfl⟩ ⟨(Nat.le_of_ble_eq_true rfl), (Nat.le_of_ble_eq_true rfl)⟩ ⟨Nat.zero_le _, Nat.zero_le _⟩ rfl (Nat.le_of_ble_eq_true rfl) rfl d_M_clashes_45 ?_
        refine lv_isub hx hb d_M_clashes_48 ?_
        refine lv_bipush (v := (8 : Int32)) hx hb d_M_clashes_49 rfl ?_
        refine lv_icmp_ge (tgt := 58) hx hb d_M_clashes_51 (by decide) (fun c_51 => ?_) (fun c_51 => ?_)
        · refine lv_iconst (v := (0 : Int32)) hx hb d_M_clashes_58 rfl ?_
          exact hend _ _ _ (by rw [s_M_clashes, if_neg c_5, if_pos c_19, if_neg c_34, if_pos c_51]) d_M_clashes_59
        · refine lv_iconst (v := (1 : Int32)) hx hb d_M_clashes_54 rfl ?_
          refine lv_goto (tgt := 59) hx hb d_M_clashes_55 (by decide) ?_
          exact hend _ _ _ (by rw [s_M_clashes, if_neg c_5, if_pos c_19, if_neg c_34, if_neg c_51]) d_M_clashes_59
    · refine lv_iload_n hx hb d_M_clashes_22 rfl (lv_at hl 3 rfl) ?_
      refine lv_goto (tgt := 27) hx hb d_M_clashes_23 (by decide) ?_
      refine lv_istore (lv' := [(4, .int a2), (3, .int a1), (0, .ref (ad 0)), (1, .int a1), (2, .int a2)]) hx hb d_M_clashes_27 hl (by decide) rfl (fun ls hl => ?_)
      refine lv_aload_n hx hb d_M_clashes_29 rfl (lv_at hl 2 rfl) ?_
      refine lv_iload_n hx hb d_M_clashes_30 rfl (lv_at hl 1 rfl) ?_
      refine k_vi (rest := []) (c_M_isRing l E ad X S a1 (by assumption)) mi_M_isRing ml_M_54 hx hb hml hts hown hK hP rvM hl ⟨rfl, rfl⟩ ⟨(Nat.le_of_ble_eq_true rfl), (Nat.le_of_ble_eq_true rfl)⟩ ⟨Nat.zero_le _, Nat.zero_le _⟩ rfl (Nat.le_of_ble_eq_true rfl) rfl d_M_clashes_31 ?_
      refine lv_if_eq (tgt := 58) hx hb d_M_clashes_34 (by decide) (fun c_34 => ?_) (fun c_34 => ?_)
      · refine lv_iconst (v := (0 : Int32)) hx hb d_M_clashes_58 rfl ?_
        exact hend _ _ _ (by rw [s_M_clashes, if_neg c_5, if_neg c_19, if_pos c_34]) d_M_clashes_59
      · refine lv_aload_n hx hb d_M_clashes_37 rfl (lv_at hl 2 rfl) ?_
        refine lv_iload_n hx hb d_M_clashes_38 rfl (lv_at hl 1 rfl) ?_
        refine k_vi (rest := []) (c_M_size l E ad X S a1 (by assumption)) mi_M_size ml_M_104 hx hb hml hts hown hK hP rvM hl ⟨rfl, rfl⟩ ⟨(Nat.le_of_ble_eq_true rfl), (Nat.le_of_ble_eq_true rfl)⟩ ⟨Nat.zero_le _, Nat.zero_le _⟩ rfl (Nat.le_of_ble_eq_true rfl) rfl d_M_clashes_39 ?_
        refine lv_aload_n hx hb d_M_clashes_42 rfl (lv_at hl 2 rfl) ?_
        refine lv_iload hx hb d_M_clashes_43 (lv_at hl 0 rfl) ?_
        refine k_vi (rest := [.int (s_M_size S a1)]) (c_M_teeth l E ad X S a2 (by assumption)) mi_M_teeth ml_M_50 hx hb hml hts hown hK hP rvM hl ⟨rfl, rfl⟩ ⟨(Nat.le_of_ble_eq_true rfl), (Nat.le_of_ble_eq_true rfl)⟩ ⟨Nat.zero_le _, Nat.zero_le _⟩ rfl (Nat.le_of_ble_eq_true rfl) rfl d_M_clashes_45 ?_
        refine lv_isub hx hb d_M_clashes_48 ?_
        refine lv_bipush (v := (8 : Int32)) hx hb d_M_clashes_49 rfl ?_
        refine lv_icmp_ge (tgt := 58) hx hb d_M_clashes_51 (by decide) (fun c_51 => ?_) (fun c_51 => ?_)
        · refine lv_iconst (v := (0 : Int32)) hx hb d_M_clashes_58 rfl ?_
          exact hend _ _ _ (by rw [s_M_clashes, if_neg c_5, if_neg c_19, if_neg c_34, if_pos c_51]) d_M_clashes_59
        · refine lv_iconst (v := (1 : Int32)) hx hb d_M_clashes_54 rfl ?_
          refine lv_goto (tgt := 59) hx hb d_M_clashes_55 (by decide) ?_
          exact hend _ _ _ (by rw [s_M_clashes, if_neg c_5, if_neg c_19, if_neg c_34, if_neg c_51]) d_M_clashes_59

def s_M_hundredths_b51 (S : St) (x1 : Int32) (x2 : Int32) : Int32 := (if (s_M_isRing S x1) = 0 then (if (s_M_isRing S x1) = 0 then ((((50 : Int32) * ((s_M_size S x2) - (s_M_teeth S x1))) + (S.2.1 0 ((17 : Int32) + x2).toNatClampNeg)) - (S.2.1 0 ((17 : Int32) + x1).toNatClampNeg)) else ((((50 : Int32) * ((s_M_size S x2) - (s_M_teeth S x2))) + (S.2.1 0 ((17 : Int32) + x2).toNatClampNeg)) - (S.2.1 0 ((17 : Int32) + x2).toNatClampNeg))) else (if (s_M_isRing S x1) = 0 then ((((50 : Int32) * ((s_M_size S x1) - (s_M_teeth S x1))) + (S.2.1 0 ((17 : Int32) + x1).toNatClampNeg)) - (S.2.1 0 ((17 : Int32) + x1).toNatClampNeg)) else ((((50 : Int32) * ((s_M_size S x1) - (s_M_teeth S x2))) + (S.2.1 0 ((17 : Int32) + x1).toNatClampNeg)) - (S.2.1 0 ((17 : Int32) + x2).toNatClampNeg))))
def s_M_hundredths (S : St) (a1 : Int32) (a2 : Int32) : Int32 := (if (s_M_isRing S a1) = 0 then (if (s_M_isRing S a2) = 0 then ((((50 : Int32) * ((s_M_teeth S a1) + (s_M_teeth S a2))) + (S.2.1 0 ((17 : Int32) + a1).toNatClampNeg)) + (S.2.1 0 ((17 : Int32) + a2).toNatClampNeg)) else (s_M_hundredths_b51 S a1 a2)) else (s_M_hundredths_b51 S a1 a2))
set_option maxRecDepth 20000 in
theorem c_M_hundredths (l : Launch) (E : Cx) (ad : Nat → Nat) (X : va_W) (S : St) (a1 : Int32) (a2 : Int32) (h1 : w16 a1) (h2 : w16 a2) : Met l y_M_hundredths (Cond.code y_M_hundredths b_M_hundredths 5 (some .int) :: TB) (rk 3 63) (va_Pc [.ref (ad 0), .int a1, .int a2] (preR E (wm E ad S ++ X))) (vp_Si (fun r => r = (s_M_hundredths S a1 a2))) 0 0 (fun _ => False) := by
  refine w_roI rfl (Nat.le_of_ble_eq_true rfl) rfl ?_
  intro p e s m args below meth c Q ls hx hb hml hts hown hP hK hl hend
  have hl : lv_has ls 5 [(0, .ref (ad 0)), (1, .int a1), (2, .int a2)] := hl
  have hP : va_P E.1 vwCl (wm E ad S ++ X) s.heap := hP
  have hown : s.vm.findClass R_M = some m.cls := hown
  have b51 : ∀ (x1 : Int32) (x2 : Int32), (w16 x1) → (w16 x2) → ∀ (ls : Array Slot), lv_has ls 5 [(0, .ref (ad 0)), (1, .int x1), (2, .int x2)] → (s_M_hundredths S a1 a2) = s_M_hundredths_b51 S x1 x2 → W p l e (rk 3 63) s m args below meth c s.heap [] 0 0 Q (F0 m 51 ls []) := by
    intro x1 x2 h1 h2 ls hl hq
    refine lv_aload_n hx hb d_M_hundredths_51 rfl (lv_at hl 0 rfl) ?_
    refine lv_iload_n hx hb d_M_hundredths_52 rfl (lv_at hl 1 rfl) ?_
    refine k_vi (rest := []) (c_M_isRing l E ad X S x1 (by assumption)) mi_M_isRing ml_M_54 hx hb hml hts hown hK hP rvM hl ⟨rfl, rfl⟩ ⟨(Nat.le_of_ble_eq_true rfl), (Nat.le_of_ble_eq_true rfl)⟩ ⟨Nat.zero_le _, Nat.zero_le _⟩ rfl (Nat.le_of_ble_eq_true rfl) rfl d_M_hundredths_53 ?_
    refine lv_if_eq (tgt := 63) hx hb d_M_hundredths_56 (by decide) (fun c_56 => ?_) (fun c_56 => ?_)
    · refine lv_iload_n hx hb d_M_hundredths_63 rfl (lv_at hl 2 rfl) ?_
      refine lv_istore_n (lv' := [(3, .int x2), (0, .ref (ad 0)), (1, .int x1), (2, .int x2)]) hx hb d_M_hundredths_64 rfl hl (by decide) rfl (fun ls hl => ?_)
      refine lv_aload_n hx hb d_M_hundredths_65 rfl (lv_at hl 1 rfl) ?_
      refine lv_iload_n hx hb d_M_hundredths_66 rfl (lv_at hl 2 rfl) ?_
      refine k_vi (rest := []) (c_M_isRing l E ad X S x1 (by assumption)) mi_M_isRing ml_M_54 hx hb hml hts hown hK hP rvM hl ⟨rfl, rfl⟩ ⟨(Nat.le_of_ble_eq_true rfl), (Nat.le_of_ble_eq_true rfl)⟩ ⟨Nat.zero_le _, Nat.zero_le _⟩ rfl (Nat.le_of_ble_eq_true rfl) rfl d_M_hundredths_67 ?_
      refine lv_if_eq (tgt := 77) hx hb d_M_hundredths_70 (by decide) (fun c_70 => ?_) (fun c_70 => ?_)
      · refine lv_iload_n hx hb d_M_hundredths_77 rfl (lv_at hl 2 rfl) ?_
        refine lv_istore (lv' := [(4, .int x1), (3, .int x2), (0, .ref (ad 0)), (1, .int x1), (2, .int x2)]) hx hb d_M_hundredths_78 hl (by decide) rfl (fun ls hl => ?_)
        refine lv_bipush (v := (50 : Int32)) hx hb d_M_hundredths_80 rfl ?_
        refine lv_aload_n hx hb d_M_hundredths_82 rfl (lv_at hl 2 rfl) ?_
        refine lv_iload_n hx hb d_M_hundredths_83 rfl (lv_at hl 1 rfl) ?_
        refine k_vi (rest := [.int (50 : Int32)]) (c_M_size l E ad X S x2 (by assumption)) mi_M_size ml_M_104 hx hb hml hts hown hK hP rvM hl ⟨rfl, rfl⟩ ⟨(Nat.le_of_ble_eq_true rfl), (Nat.le_of_ble_eq_true rfl)⟩ ⟨Nat.zero_le _, Nat.zero_le _⟩ rfl (Nat.le_of_ble_eq_true rfl) rfl d_M_hundredths_84 ?_
        refine lv_aload_n hx hb d_M_hundredths_87 rfl (lv_at hl 2 rfl) ?_
        refine lv_iload hx hb d_M_hundredths_88 (lv_at hl 0 rfl) ?_
        refine k_vi (rest := [.int (s_M_size S x2), .int (50 : Int32)]) (c_M_teeth l E ad X S x1 (by assumption)) mi_M_teeth ml_M_50 hx hb hml hts hown hK hP rvM hl ⟨rfl, rfl⟩ ⟨(Nat.le_of_ble_eq_true rfl), (Nat.le_of_ble_eq_true rfl)⟩ ⟨Nat.zero_le _, Nat.zero_le _⟩ rfl (Nat.le_of_ble_eq_true rfl) rfl d_M_hundredths_90 ?_
        refine lv_isub hx hb d_M_hundredths_93 ?_
        refine lv_imul hx hb d_M_hundredths_94 ?_
        refine lv_aload_n hx hb d_M_hundredths_95 rfl (lv_at hl 2 rfl) ?_
        refine g_M_g hx hb hts hown hK hP d_M_hundredths_96 ?_
        refine lv_bipush (v := (17 : Int32)) hx hb d_M_hundredths_99 rfl ?_
        refine lv_iload_n hx hb d_M_hundredths_101 rfl (lv_at hl 1 rfl) ?_
        refine lv_iadd hx hb d_M_hundredths_102 ?_
        refine lm_g hx hb hK hP (k := ((17 : Int32) + x2).toNatClampNeg) (v := (S.2.1 0 ((17 : Int32) + x2).toNatClampNeg)) rfl rfl (ix_add (by assumption) (by decide)) d_M_hundredths_103 ?_
        refine lv_iadd hx hb d_M_hundredths_104 ?_
        refine lv_aload_n hx hb d_M_hundredths_105 rfl (lv_at hl 2 rfl) ?_
        refine g_M_g hx hb hts hown hK hP d_M_hundredths_106 ?_
        refine lv_bipush (v := (17 : Int32)) hx hb d_M_hundredths_109 rfl ?_
        refine lv_iload hx hb d_M_hundredths_111 (lv_at hl 0 rfl) ?_
        refine lv_iadd hx hb d_M_hundredths_113 ?_
        refine lm_g hx hb hK hP (k := ((17 : Int32) + x1).toNatClampNeg) (v := (S.2.1 0 ((17 : Int32) + x1).toNatClampNeg)) rfl rfl (ix_add (by assumption) (by decide)) d_M_hundredths_114 ?_
        refine lv_isub hx hb d_M_hundredths_115 ?_
        exact hend _ _ _ (by rw [hq, s_M_hundredths_b51, if_pos c_56, if_pos c_70]) d_M_hundredths_116
      · refine lv_iload_n hx hb d_M_hundredths_73 rfl (lv_at hl 3 rfl) ?_
        refine lv_goto (tgt := 78) hx hb d_M_hundredths_74 (by decide) ?_
        refine lv_istore (lv' := [(4, .int x2), (3, .int x2), (0, .ref (ad 0)), (1, .int x1), (2, .int x2)]) hx hb d_M_hundredths_78 hl (by decide) rfl (fun ls hl => ?_)
        refine lv_bipush (v := (50 : Int32)) hx hb d_M_hundredths_80 rfl ?_
        refine lv_aload_n hx hb d_M_hundredths_82 rfl (lv_at hl 2 rfl) ?_
        refine lv_iload_n hx hb d_M_hundredths_83 rfl (lv_at hl 1 rfl) ?_
        refine k_vi (rest := [.int (50 : Int32)]) (c_M_size l E ad X S x2 (by assumption)) mi_M_size ml_M_104 hx hb hml hts hown hK hP rvM hl ⟨rfl, rfl⟩ ⟨(Nat.le_of_ble_eq_true rfl), (Nat.le_of_ble_eq_true rfl)⟩ ⟨Nat.zero_le _, Nat.zero_le _⟩ rfl (Nat.le_of_ble_eq_true rfl) rfl d_M_hundredths_84 ?_
        refine lv_aload_n hx hb d_M_hundredths_87 rfl (lv_at hl 2 rfl) ?_
        refine lv_iload hx hb d_M_hundredths_88 (lv_at hl 0 rfl) ?_
        refine k_vi (rest := [.int (s_M_size S x2), .int (50 : Int32)]) (c_M_teeth l E ad X S x2 (by assumption)) mi_M_teeth ml_M_50 hx hb hml hts hown hK hP rvM hl ⟨rfl, rfl⟩ ⟨(Nat.le_of_ble_eq_true rfl), (Nat.le_of_ble_eq_true rfl)⟩ ⟨Nat.zero_le _, Nat.zero_le _⟩ rfl (Nat.le_of_ble_eq_true rfl) rfl d_M_hundredths_90 ?_
        refine lv_isub hx hb d_M_hundredths_93 ?_
        refine lv_imul hx hb d_M_hundredths_94 ?_
        refine lv_aload_n hx hb d_M_hundredths_95 rfl (lv_at hl 2 rfl) ?_
        refine g_M_g hx hb hts hown hK hP d_M_hundredths_96 ?_
        refine lv_bipush (v := (17 : Int32)) hx hb d_M_hundredths_99 rfl ?_
        refine lv_iload_n hx hb d_M_hundredths_101 rfl (lv_at hl 1 rfl) ?_
        refine lv_iadd hx hb d_M_hundredths_102 ?_
        refine lm_g hx hb hK hP (k := ((17 : Int32) + x2).toNatClampNeg) (v := (S.2.1 0 ((17 : Int32) + x2).toNatClampNeg)) rfl rfl (ix_add (by assumption) (by decide)) d_M_hundredths_103 ?_
        refine lv_iadd hx hb d_M_hundredths_104 ?_
        refine lv_aload_n hx hb d_M_hundredths_105 rfl (lv_at hl 2 rfl) ?_
        refine g_M_g hx hb hts hown hK hP d_M_hundredths_106 ?_
        refine lv_bipush (v := (17 : Int32)) hx hb d_M_hundredths_109 rfl ?_
        refine lv_iload hx hb d_M_hundredths_111 (lv_at hl 0 rfl) ?_
        refine lv_iadd hx hb d_M_hundredths_113 ?_
        refine lm_g hx hb hK hP (k := ((17 : Int32) + x2).toNatClampNeg) (v := (S.2.1 0 ((17 : Int32) + x2).toNatClampNeg)) rfl rfl (ix_add (by assumption) (by decide)) d_M_hundredths_114 ?_
        refine lv_isub hx hb d_M_hundredths_115 ?_
        exact hend _ _ _ (by rw [hq, s_M_hundredths_b51, if_pos c_56, if_neg c_70]) d_M_hundredths_116
    · refine lv_iload_n hx hb d_M_hundredths_59 rfl (lv_at hl 1 rfl) ?_
      refine lv_goto (tgt := 64) hx hb d_M_hundredths_60 (by decide) ?_
      refine lv_istore_n (lv' := [(3, .int x1), (0, .ref (ad 0)), (1, .int x1), (2, .int x2)]) hx hb d_M_hundredths_64 rfl hl (by decide) rfl (fun ls hl => ?_)
      refine lv_aload_n hx hb d_M_hundredths_65 rfl (lv_at hl 1 rfl) ?_
      refine lv_iload_n hx hb d_M_hundredths_66 rfl (lv_at hl 2 rfl) ?_
      refine k_vi (rest := []) (c_M_isRing l E ad X S x1 (by assumption)) mi_M_isRing ml_M_54 hx hb hml hts hown hK hP rvM hl ⟨rfl, rfl⟩ ⟨(Nat.le_of_ble_eq_true rfl), (Nat.le_of_ble_eq_true rfl)⟩ ⟨Nat.zero_le _, Nat.zero_le _⟩ rfl (Nat.le_of_ble_eq_true rfl) rfl d_M_hundredths_67 ?_
      refine lv_if_eq (tgt := 77) hx hb d_M_hundredths_70 (by decide) (fun c_70 => ?_) (fun c_70 => ?_)
      · refine lv_iload_n hx hb d_M_hundredths_77 rfl (lv_at hl 2 rfl) ?_
        refine lv_istore (lv' := [(4, .int x1), (3, .int x1), (0, .ref (ad 0)), (1, .int x1), (2, .int x2)]) hx hb d_M_hundredths_78 hl (by decide) rfl (fun ls hl => ?_)
        refine lv_bipush (v := (50 : Int32)) hx hb d_M_hundredths_80 rfl ?_
        refine lv_aload_n hx hb d_M_hundredths_82 rfl (lv_at hl 2 rfl) ?_
        refine lv_iload_n hx hb d_M_hundredths_83 rfl (lv_at hl 1 rfl) ?_
        refine k_vi (rest := [.int (50 : Int32)]) (c_M_size l E ad X S x1 (by assumption)) mi_M_size ml_M_104 hx hb hml hts hown hK hP rvM hl ⟨rfl, rfl⟩ ⟨(Nat.le_of_ble_eq_true rfl), (Nat.le_of_ble_eq_true rfl)⟩ ⟨Nat.zero_le _, Nat.zero_le _⟩ rfl (Nat.le_of_ble_eq_true rfl) rfl d_M_hundredths_84 ?_
        refine lv_aload_n hx hb d_M_hundredths_87 rfl (lv_at hl 2 rfl) ?_
        refine lv_iload hx hb d_M_hundredths_88 (lv_at hl 0 rfl) ?_
        refine k_vi (rest := [.int (s_M_size S x1), .int (50 : Int32)]) (c_M_teeth l E ad X S x1 (by assumption)) mi_M_teeth ml_M_50 hx hb hml hts hown hK hP rvM hl ⟨rfl, rfl⟩ ⟨(Nat.le_of_ble_eq_true rfl), (Nat.le_of_ble_eq_true rfl)⟩ ⟨Nat.zero_le _, Nat.zero_le _⟩ rfl (Nat.le_of_ble_eq_true rfl) rfl d_M_hundredths_90 ?_
        refine lv_isub hx hb d_M_hundredths_93 ?_
        refine lv_imul hx hb d_M_hundredths_94 ?_
        refine lv_aload_n hx hb d_M_hundredths_95 rfl (lv_at hl 2 rfl) ?_
        refine g_M_g hx hb hts hown hK hP d_M_hundredths_96 ?_
        refine lv_bipush (v := (17 : Int32)) hx hb d_M_hundredths_99 rfl ?_
        refine lv_iload_n hx hb d_M_hundredths_101 rfl (lv_at hl 1 rfl) ?_
        refine lv_iadd hx hb d_M_hundredths_102 ?_
        refine lm_g hx hb hK hP (k := ((17 : Int32) + x1).toNatClampNeg) (v := (S.2.1 0 ((17 : Int32) + x1).toNatClampNeg)) rfl rfl (ix_add (by assumption) (by decide)) d_M_hundredths_103 ?_
        refine lv_iadd hx hb d_M_hundredths_104 ?_
        refine lv_aload_n hx hb d_M_hundredths_105 rfl (lv_at hl 2 rfl) ?_
        refine g_M_g hx hb hts hown hK hP d_M_hundredths_106 ?_
        refine lv_bipush (v := (17 : Int32)) hx hb d_M_hundredths_109 rfl ?_
        refine lv_iload hx hb d_M_hundredths_111 (lv_at hl 0 rfl) ?_
        refine lv_iadd hx hb d_M_hundredths_113 ?_
        refine lm_g hx hb hK hP (k := ((17 : Int32) + x1).toNatClampNeg) (v := (S.2.1 0 ((17 : Int32) + x1).toNatClampNeg)) rfl rfl (ix_add (by assumption) (by decide)) d_M_hundredths_114 ?_
        refine lv_isub hx hb d_M_hundredths_115 ?_
        exact hend _ _ _ (by rw [hq, s_M_hundredths_b51, if_neg c_56, if_pos c_70]) d_M_hundredths_116
      · refine lv_iload_n hx hb d_M_hundredths_73 rfl (lv_at hl 3 rfl) ?_
        refine lv_goto (tgt := 78) hx hb d_M_hundredths_74 (by decide) ?_
        refine lv_istore (lv' := [(4, .int x2), (3, .int x1), (0, .ref (ad 0)), (1, .int x1), (2, .int x2)]) hx hb d_M_hundredths_78 hl (by decide) rfl (fun ls hl => ?_)
        refine lv_bipush (v := (50 : Int32)) hx hb d_M_hundredths_80 rfl ?_
        refine lv_aload_n hx hb d_M_hundredths_82 rfl (lv_at hl 2 rfl) ?_
        refine lv_iload_n hx hb d_M_hundredths_83 rfl (lv_at hl 1 rfl) ?_
        refine k_vi (rest := [.int (50 : Int32)]) (c_M_size l E ad X S x1 (by assumption)) mi_M_size ml_M_104 hx hb hml hts hown hK hP rvM hl ⟨rfl, rfl⟩ ⟨(Nat.le_of_ble_eq_true rfl), (Nat.le_of_ble_eq_true rfl)⟩ ⟨Nat.zero_le _, Nat.zero_le _⟩ rfl (Nat.le_of_ble_eq_true rfl) rfl d_M_hundredths_84 ?_
        refine lv_aload_n hx hb d_M_hundredths_87 rfl (lv_at hl 2 rfl) ?_
        refine lv_iload hx hb d_M_hundredths_88 (lv_at hl 0 rfl) ?_
        refine k_vi (rest := [.int (s_M_size S x1), .int (50 : Int32)]) (c_M_teeth l E ad X S x2 (by assumption)) mi_M_teeth ml_M_50 hx hb hml hts hown hK hP rvM hl ⟨rfl, rfl⟩ ⟨(Nat.le_of_ble_eq_true rfl), (Nat.le_of_ble_eq_true rfl)⟩ ⟨Nat.zero_le _, Nat.zero_le _⟩ rfl (Nat.le_of_ble_eq_true rfl) rfl d_M_hundredths_90 ?_
        refine lv_isub hx hb d_M_hundredths_93 ?_
        refine lv_imul hx hb d_M_hundredths_94 ?_
        refine lv_aload_n hx hb d_M_hundredths_95 rfl (lv_at hl 2 rfl) ?_
        refine g_M_g hx hb hts hown hK hP d_M_hundredths_96 ?_
        refine lv_bipush (v := (17 : Int32)) hx hb d_M_hundredths_99 rfl ?_
        refine lv_iload_n hx hb d_M_hundredths_101 rfl (lv_at hl 1 rfl) ?_
        refine lv_iadd hx hb d_M_hundredths_102 ?_
        refine lm_g hx hb hK hP (k := ((17 : Int32) + x1).toNatClampNeg) (v := (S.2.1 0 ((17 : Int32) + x1).toNatClampNeg)) rfl rfl (ix_add (by assumption) (by decide)) d_M_hundredths_103 ?_
        refine lv_iadd hx hb d_M_hundredths_104 ?_
        refine lv_aload_n hx hb d_M_hundredths_105 rfl (lv_at hl 2 rfl) ?_
        refine g_M_g hx hb hts hown hK hP d_M_hundredths_106 ?_
        refine lv_bipush (v := (17 : Int32)) hx hb d_M_hundredths_109 rfl ?_
        refine lv_iload hx hb d_M_hundredths_111 (lv_at hl 0 rfl) ?_
        refine lv_iadd hx hb d_M_hundredths_113 ?_
        refine lm_g hx hb hK hP (k := ((17 : Int32) + x2).toNatClampNeg) (v := (S.2.1 0 ((17 : Int32) + x2).toNatClampNeg)) rfl rfl (ix_add (by assumption) (by decide)) d_M_hundredths_114 ?_
        refine lv_isub hx hb d_M_hundredths_115 ?_
        exact hend _ _ _ (by rw [hq, s_M_hundredths_b51, if_neg c_56, if_neg c_70]) d_M_hundredths_116
  refine lv_aload_n hx hb d_M_hundredths_0 rfl (lv_at hl 0 rfl) ?_
  refine lv_iload_n hx hb d_M_hundredths_1 rfl (lv_at hl 1 rfl) ?_
  refine k_vi (rest := []) (c_M_isRing l E ad X S a1 (by assumption)) mi_M_isRing ml_M_54 hx hb hml hts hown hK hP rvM hl ⟨rfl, rfl⟩ ⟨(Nat.le_of_ble_eq_true rfl), (Nat.le_of_ble_eq_true rfl)⟩ ⟨Nat.zero_le _, Nat.zero_le _⟩ rfl (Nat.le_of_ble_eq_true rfl) rfl d_M_hundredths_2 ?_
  refine lv_if_ne (tgt := 51) hx hb d_M_hundredths_5 (by decide) (fun c_5 => ?_) (fun c_5 => ?_)
  · exact b51 a1 a2 (by assumption) (by assumption) ls (lv_sub hl [0, 1, 2] rfl) (by rw [s_M_hundredths, if_neg c_5])
  · refine lv_aload_n hx hb d_M_hundredths_8 rfl (lv_at hl 0 rfl) ?_
    refine lv_iload_n hx hb d_M_hundredths_9 rfl (lv_at hl 2 rfl) ?_
    refine k_vi (rest := []) (c_M_isRing l E ad X S a2 (by assumption)) mi_M_isRing ml_M_54 hx hb hml hts hown hK hP rvM hl ⟨rfl, rfl⟩ ⟨(Nat.le_of_ble_eq_true rfl), (Nat.le_of_ble_eq_true rfl)⟩ ⟨Nat.zero_le _, Nat.zero_le _⟩ rfl (Nat.le_of_ble_eq_true rfl) rfl d_M_hundredths_10 ?_
    refine lv_if_ne (tgt := 51) hx hb d_M_hundredths_13 (by decide) (fun c_13 => ?_) (fun c_13 => ?_)
    · exact b51 a1 a2 (by assumption) (by assumption) ls (lv_sub hl [0, 1, 2] rfl) (by rw [s_M_hundredths, if_pos c_5, if_neg c_13])
    · refine lv_bipush (v := (50 : Int32)) hx hb d_M_hundredths_16 rfl ?_
      refine lv_aload_n hx hb d_M_hundredths_18 rfl (lv_at hl 0 rfl) ?_
      refine lv_iload_n hx hb d_M_hundredths_19 rfl (lv_at hl 1 rfl) ?_
      refine k_vi (rest := [.int (50 : Int32)]) (c_M_teeth l E ad X S a1 (by assumption)) mi_M_teeth ml_M_50 hx hb hml hts hown hK hP rvM hl ⟨rfl, rfl⟩ ⟨(Nat.le_of_ble_eq_true rfl), (Nat.le_of_ble_eq_true rfl)⟩ ⟨Nat.zero_le _, Nat.zero_le _⟩ rfl (Nat.le_of_ble_eq_true rfl) rfl d_M_hundredths_20 ?_
      refine lv_aload_n hx hb d_M_hundredths_23 rfl (lv_at hl 0 rfl) ?_
      refine lv_iload_n hx hb d_M_hundredths_24 rfl (lv_at hl 2 rfl) ?_
      refine k_vi (rest := [.int (s_M_teeth S a1), .int (50 : Int32)]) (c_M_teeth l E ad X S a2 (by assumption)) mi_M_teeth ml_M_50 hx hb hml hts hown hK hP rvM hl ⟨rfl, rfl⟩ ⟨(Nat.le_of_ble_eq_true rfl), (Nat.le_of_ble_eq_true rfl)⟩ ⟨Nat.zero_le _, Nat.zero_le _⟩ rfl (Nat.le_of_ble_eq_true rfl) rfl d_M_hundredths_25 ?_
      refine lv_iadd hx hb d_M_hundredths_28 ?_
      refine lv_imul hx hb d_M_hundredths_29 ?_
      refine lv_aload_n hx hb d_M_hundredths_30 rfl (lv_at hl 0 rfl) ?_
      refine g_M_g hx hb hts hown hK hP d_M_hundredths_31 ?_
      refine lv_bipush (v := (17 : Int32)) hx hb d_M_hundredths_34 rfl ?_
      refine lv_iload_n hx hb d_M_hundredths_36 rfl (lv_at hl 1 rfl) ?_
      refine lv_iadd hx hb d_M_hundredths_37 ?_
      refine lm_g hx hb hK hP (k := ((17 : Int32) + a1).toNatClampNeg) (v := (S.2.1 0 ((17 : Int32) + a1).toNatClampNeg)) rfl rfl (ix_add (by assumption) (by decide)) d_M_hundredths_38 ?_
      refine lv_iadd hx hb d_M_hundredths_39 ?_
      refine lv_aload_n hx hb d_M_hundredths_40 rfl (lv_at hl 0 rfl) ?_
      refine g_M_g hx hb hts hown hK hP d_M_hundredths_41 ?_
      refine lv_bipush (v := (17 : Int32)) hx hb d_M_hundredths_44 rfl ?_
      refine lv_iload_n hx hb d_M_hundredths_46 rfl (lv_at hl 2 rfl) ?_
      refine lv_iadd hx hb d_M_hundredths_47 ?_
      refine lm_g hx hb hK hP (k := ((17 : Int32) + a2).toNatClampNeg) (v := (S.2.1 0 ((17 : Int32) + a2).toNatClampNeg)) rfl rfl (ix_add (by assumption) (by decide)) d_M_hundredths_48 ?_
      refine lv_iadd hx hb d_M_hundredths_49 ?_
      exact hend _ _ _ (by rw [s_M_hundredths, if_pos c_5, if_pos c_13]) d_M_hundredths_50

def s_M_sign (S : St) (a1 : Int32) (a2 : Int32) : Int32 := (if (s_M_isRing S a1) = 0 then (if (s_M_isRing S a2) = 0 then (-1 : Int32) else (1 : Int32)) else (1 : Int32))
set_option maxRecDepth 20000 in
theorem c_M_sign (l : Launch) (E : Cx) (ad : Nat → Nat) (X : va_W) (S : St) (a1 : Int32) (a2 : Int32) (h1 : w16 a1) (h2 : w16 a2) : Met l y_M_sign (Cond.code y_M_sign b_M_sign 3 (some .int) :: TB) (rk 2 42) (va_Pc [.ref (ad 0), .int a1, .int a2] (preR E (wm E ad S ++ X))) (vp_Si (fun r => r = (s_M_sign S a1 a2))) 0 0 (fun _ => False) := by
  refine w_roI rfl (Nat.le_of_ble_eq_true rfl) rfl ?_
  intro p e s m args below meth c Q ls hx hb hml hts hown hP hK hl hend
  have hl : lv_has ls 3 [(0, .ref (ad 0)), (1, .int a1), (2, .int a2)] := hl
  have hP : va_P E.1 vwCl (wm E ad S ++ X) s.heap := hP
  have hown : s.vm.findClass R_M = some m.cls := hown
  refine lv_aload_n hx hb d_M_sign_0 rfl (lv_at hl 0 rfl) ?_
  refine lv_iload_n hx hb d_M_sign_1 rfl (lv_at hl 1 rfl) ?_
  refine k_vi (rest := []) (c_M_isRing l E ad X S a1 (by assumption)) mi_M_isRing ml_M_54 hx hb hml hts hown hK hP rvM hl ⟨rfl, rfl⟩ ⟨(Nat.le_of_ble_eq_true rfl), (Nat.le_of_ble_eq_true rfl)⟩ ⟨Nat.zero_le _, Nat.zero_le _⟩ rfl (Nat.le_of_ble_eq_true rfl) rfl d_M_sign_2 ?_
  refine lv_if_ne (tgt := 16) hx hb d_M_sign_5 (by decide) (fun c_5 => ?_) (fun c_5 => ?_)
  · refine lv_iconst (v := (1 : Int32)) hx hb d_M_sign_16 rfl ?_
    refine lv_goto (tgt := 21) hx hb d_M_sign_17 (by decide) ?_
    exact hend _ _ _ (by rw [s_M_sign, if_neg c_5]) d_M_sign_21
  · refine lv_aload_n hx hb d_M_sign_8 rfl (lv_at hl 0 rfl) ?_
    refine lv_iload_n hx hb d_M_sign_9 rfl (lv_at hl 2 rfl) ?_
    refine k_vi (rest := []) (c_M_isRing l E ad X S a2 (by assumption)) mi_M_isRing ml_M_54 hx hb hml hts hown hK hP rvM hl ⟨rfl, rfl⟩ ⟨(Nat.le_of_ble_eq_true rfl), (Nat.le_of_ble_eq_true rfl)⟩ ⟨Nat.zero_le _, Nat.zero_le _⟩ rfl (Nat.le_of_ble_eq_true rfl) rfl d_M_sign_10 ?_
    refine lv_if_eq (tgt := 20) hx hb d_M_sign_13 (by decide) (fun c_13 => ?_) (fun c_13 => ?_)
    · refine lv_iconst (v := (-1 : Int32)) hx hb d_M_sign_20 rfl ?_
      exact hend _ _ _ (by rw [s_M_sign, if_pos c_5, if_pos c_13]) d_M_sign_21
    · refine lv_iconst (v := (1 : Int32)) hx hb d_M_sign_16 rfl ?_
      refine lv_goto (tgt := 21) hx hb d_M_sign_17 (by decide) ?_
      exact hend _ _ _ (by rw [s_M_sign, if_pos c_5, if_neg c_13]) d_M_sign_21

def s_M_lays_b17 : Nat → St → Int64 → Int64 → Int64 → Int64 → St
  | 0, Z, _, _, _, _ => Z
  | n + 1, Z, x1, x3, x5, x7 => (if (lg_cmp x7 (0 : Int64)) = 0 then (sL (sL Z 1 0 (x1 / x5)) 1 1 (x3 / x5)) else (s_M_lays_b17 n Z x1 x3 x7 (x5 - x5 / x7 * x7)))
def s_M_lays (S : St) (a1 : Int64) (a3 : Int64) : St := (if 0 ≤ (lg_cmp a1 (0 : Int64)) then (s_M_lays_b17 ((a3).toInt.toNat + 1) S a1 a3 a1 a3) else (s_M_lays_b17 ((a3).toInt.toNat + 1) S a1 a3 (-a1) a3))
set_option maxRecDepth 20000 in
theorem c_M_lays (l : Launch) (E : Cx) (ad : Nat → Nat) (X : va_W) (S : St) (A : Nat → Prop) (a1 : Int64) (a3 : Int64) (hp : 0 < a3.toInt) (ha : -9223372036854775807 ≤ a1.toInt) : Met l y_M_lays (Cond.code y_M_lays b_M_lays 11 none :: TB) (rk 0 0) (va_Pc [.ref (ad 0), .long a1, .long a3] (preM E A (fun S => wm E ad S ++ X) S)) (va_Qv (fun u => u = (s_M_lays S a1 a3)) (fun u t => va_P E.1 vwCl ((fun S => wm E ad S ++ X) u) t.heap) A) 0 0 A := by
  refine w_muV rfl (Nat.le_of_ble_eq_true rfl) ?_
  intro p e s m args below meth c Q ls hx hb hml hts hown hP hK hD hS hl hend
  have hl : lv_has ls 11 [(0, .ref (ad 0)), (1, .long a1), (3, .long a3)] := hl
  have hP : va_P E.1 vwCl (wm E ad S ++ X) s.heap := hP
  have hown : s.vm.findClass R_M = some m.cls := hown
  have hD : ∀ S' : St, va_D A (wm E ad S' ++ X) := hD
  have b17 : ∀ (n : Nat) (Z : St) (x1 : Int64) (x3 : Int64) (x5 : Int64) (x7 : Int64) (H : Heap) (locs : List Loc), va_P E.1 vwCl (wm E ad Z ++ X) H → va_S A s.heap H locs → (LI n x5 x7) → ∀ (ls : Array Slot), lv_has ls 11 [(0, .ref (ad 0)), (1, .long x1), (3, .long x3), (5, .long x5), (7, .long x7)] → (s_M_lays S a1 a3) = s_M_lays_b17 n Z x1 x3 x5 x7 → W p l e (rk 0 0) s m args below meth c H locs 0 0 Q (F0 m 17 ls []) := by
    intro n17
    induction n17 with
    | zero => intro Z x1 x3 x5 x7 H locs hP hS hv; exact absurd hv (LI_z)
    | succ n17 ih17 =>
      intro Z x1 x3 x5 x7 H locs hP hS hv ls hl hq
      refine lv_lload hx hb d_M_lays_17 (lv_at hl 4 rfl) ?_
      refine lv_lconst (v := (0 : Int64)) hx hb d_M_lays_19 rfl ?_
      refine W.lcmp hx hb d_M_lays_20 ?_
      refine lv_if_eq (tgt := 42) hx hb d_M_lays_21 (by decide) (fun c_21 => ?_) (fun c_21 => ?_)
      · refine lv_aload_n hx hb d_M_lays_42 rfl (lv_at hl 0 rfl) ?_
        refine lv_lload_n hx hb d_M_lays_43 rfl (lv_at hl 1 rfl) ?_
        refine lv_lload hx hb d_M_lays_44 (lv_at hl 3 rfl) ?_
        refine lv_ldiv hx hb d_M_lays_46 (LI_ne hv c_21) ?_
        refine p_M_above hx hb hts hown hK hP hD hS d_M_lays_47 (fun H locs hP hS => ?_)
        have hP : va_P E.1 vwCl (wm E ad (sL Z 1 0 (x1 / x5)) ++ X) H := hP
        refine lv_aload_n hx hb d_M_lays_50 rfl (lv_at hl 0 rfl) ?_
        refine lv_lload_n hx hb d_M_lays_51 rfl (lv_at hl 2 rfl) ?_
        refine lv_lload hx hb d_M_lays_52 (lv_at hl 3 rfl) ?_
        refine lv_ldiv hx hb d_M_lays_54 (LI_ne hv c_21) ?_
        refine p_M_below hx hb hts hown hK hP hD hS d_M_lays_55 (fun H locs hP hS => ?_)
        have hP : va_P E.1 vwCl (wm E ad (sL (sL Z 1 0 (x1 / x5)) 1 1 (x3 / x5)) ++ X) H := hP
        exact hend _ _ _ _ _ (by rw [hq, s_M_lays_b17, if_pos c_21]) hP hS d_M_lays_58
      · refine lv_lload hx hb d_M_lays_24 (lv_at hl 3 rfl) ?_
        refine lv_lload hx hb d_M_lays_26 (lv_at hl 4 rfl) ?_
        refine lv_lrem hx hb d_M_lays_28 (lcmp_ne c_21) ?_
        refine lv_lstore (lv' := [(9, .long (x5 - x5 / x7 * x7)), (0, .ref (ad 0)), (1, .long x1), (3, .long x3), (5, .long x5), (7, .long x7)]) hx hb d_M_lays_29 hl (by decide) rfl (fun ls hl => ?_)
        refine lv_lload hx hb d_M_lays_31 (lv_at hl 5 rfl) ?_
        refine lv_lstore (lv' := [(5, .long x7), (9, .long (x5 - x5 / x7 * x7)), (0, .ref (ad 0)), (1, .long x1), (3, .long x3), (7, .long x7)]) hx hb d_M_lays_33 hl (by decide) rfl (fun ls hl => ?_)
        refine lv_lload hx hb d_M_lays_35 (lv_at hl 1 rfl) ?_
        refine lv_lstore (lv' := [(7, .long (x5 - x5 / x7 * x7)), (5, .long x7), (9, .long (x5 - x5 / x7 * x7)), (0, .ref (ad 0)), (1, .long x1), (3, .long x3)]) hx hb d_M_lays_37 hl (by decide) rfl (fun ls hl => ?_)
        refine lv_goto (tgt := 17) hx hb d_M_lays_39 (by decide) ?_
        exact ih17 Z x1 x3 x7 (x5 - x5 / x7 * x7) H locs hP hS (LI_st hv c_21) ls (lv_sub hl [3, 4, 5, 1, 0] rfl) (by rw [hq, s_M_lays_b17, if_neg c_21])
  refine lv_lload_n hx hb d_M_lays_0 rfl (lv_at hl 1 rfl) ?_
  refine lv_lconst (v := (0 : Int64)) hx hb d_M_lays_1 rfl ?_
  refine W.lcmp hx hb d_M_lays_2 ?_
  refine lv_if_ge (tgt := 11) hx hb d_M_lays_3 (by decide) (fun c_3 => ?_) (fun c_3 => ?_)
  · refine lv_lload_n hx hb d_M_lays_11 rfl (lv_at hl 1 rfl) ?_
    refine lv_lstore (lv' := [(5, .long a1), (0, .ref (ad 0)), (1, .long a1), (3, .long a3)]) hx hb d_M_lays_12 hl (by decide) rfl (fun ls hl => ?_)
    refine lv_lload_n hx hb d_M_lays_14 rfl (lv_at hl 3 rfl) ?_
    refine lv_lstore (lv' := [(7, .long a3), (5, .long a1), (0, .ref (ad 0)), (1, .long a1), (3, .long a3)]) hx hb d_M_lays_15 hl (by decide) rfl (fun ls hl => ?_)
    exact b17 ((a3).toInt.toNat + 1) S a1 a3 a1 a3 s.heap [] hP hS (by first | exact LI_neg ha c_3 hp | exact LI_pos c_3 hp) ls (lv_sub hl [2, 3, 4, 1, 0] rfl) (by rw [s_M_lays, if_pos c_3])
  · refine lv_lload_n hx hb d_M_lays_6 rfl (lv_at hl 1 rfl) ?_
    refine lv_lneg hx hb d_M_lays_7 ?_
    refine lv_goto (tgt := 12) hx hb d_M_lays_8 (by decide) ?_
    refine lv_lstore (lv' := [(5, .long (-a1)), (0, .ref (ad 0)), (1, .long a1), (3, .long a3)]) hx hb d_M_lays_12 hl (by decide) rfl (fun ls hl => ?_)
    refine lv_lload_n hx hb d_M_lays_14 rfl (lv_at hl 3 rfl) ?_
    refine lv_lstore (lv' := [(7, .long a3), (5, .long (-a1)), (0, .ref (ad 0)), (1, .long a1), (3, .long a3)]) hx hb d_M_lays_15 hl (by decide) rfl (fun ls hl => ?_)
    exact b17 ((a3).toInt.toNat + 1) S a1 a3 (-a1) a3 s.heap [] hP hS (by first | exact LI_neg ha c_3 hp | exact LI_pos c_3 hp) ls (lv_sub hl [2, 3, 4, 1, 0] rfl) (by rw [s_M_lays, if_neg c_3])

def s_M_part (S : St) (a1 : Int32) : Int64 := (if a1 = 0 then (S.2.2 1 0) else (S.2.2 1 1))
set_option maxRecDepth 20000 in
theorem c_M_part (l : Launch) (E : Cx) (ad : Nat → Nat) (X : va_W) (S : St) (a1 : Int32) : Met l y_M_part (Cond.code y_M_part b_M_part 2 (some .long) :: TB) (rk 0 0) (va_Pc [.ref (ad 0), .int a1] (preR E (wm E ad S ++ X))) (vp_Sl (fun r => r = (s_M_part S a1))) 0 0 (fun _ => False) := by
  refine w_roL rfl (Nat.le_of_ble_eq_true rfl) ?_
  intro p e s m args below meth c Q ls hx hb hml hts hown hP hK hl hend
  have hl : lv_has ls 2 [(0, .ref (ad 0)), (1, .int a1)] := hl
  have hP : va_P E.1 vwCl (wm E ad S ++ X) s.heap := hP
  have hown : s.vm.findClass R_M = some m.cls := hown
  refine lv_iload_n hx hb d_M_part_0 rfl (lv_at hl 1 rfl) ?_
  refine lv_if_ne (tgt := 11) hx hb d_M_part_1 (by decide) (fun c_1 => ?_) (fun c_1 => ?_)
  · refine lv_aload_n hx hb d_M_part_11 rfl (lv_at hl 0 rfl) ?_
    refine g_M_below hx hb hts hown hK hP d_M_part_12 ?_
    exact hend _ _ _ (by rw [s_M_part, if_neg c_1]) d_M_part_15
  · refine lv_aload_n hx hb d_M_part_4 rfl (lv_at hl 0 rfl) ?_
    refine g_M_above hx hb hts hown hK hP d_M_part_5 ?_
    refine lv_goto (tgt := 15) hx hb d_M_part_8 (by decide) ?_
    exact hend _ _ _ (by rw [s_M_part, if_pos c_1]) d_M_part_15

def s_M_root_b7 : Nat → Int64 → Int64 → Int64 → Int64
  | 0, _, _, _ => 0
  | n + 1, x0, x2, x4 => (if (lg_cmp (x4 - x2) (1 : Int64)) ≤ 0 then x2 else (if 0 < (lg_cmp (((x2 + x4) / (2 : Int64)) * ((x2 + x4) / (2 : Int64))) x0) then (s_M_root_b7 n x0 x2 ((x2 + x4) / (2 : Int64))) else (s_M_root_b7 n x0 ((x2 + x4) / (2 : Int64)) x4)))
def s_M_root (a0 : Int64) : Int64 := (s_M_root_b7 (23) a0 (0 : Int64) (3000000 : Int64))
set_option maxRecDepth 20000 in
theorem c_M_root (l : Launch) (E : Cx) (a0 : Int64) : Met l y_M_root (Cond.code y_M_root b_M_root 8 (some .long) :: TB) (rk 0 0) (va_Pc [.long a0] (preR E [])) (vp_Sl (fun r => r = (s_M_root a0))) 0 0 (fun _ => False) := by
  refine w_roL rfl (Nat.le_of_ble_eq_true rfl) ?_
  intro p e s m args below meth c Q ls hx hb hml hts hown hP hK hl hend
  have hl : lv_has ls 8 [(0, .long a0)] := hl
  have hown : s.vm.findClass R_M = some m.cls := hown
  have b7 : ∀ (n : Nat) (x0 : Int64) (x2 : Int64) (x4 : Int64), (RT n x2 x4) → ∀ (ls : Array Slot), lv_has ls 8 [(0, .long x0), (2, .long x2), (4, .long x4)] → (s_M_root a0) = s_M_root_b7 n x0 x2 x4 → W p l e (rk 0 0) s m args below meth c s.heap [] 0 0 Q (F0 m 7 ls []) := by
    intro n7
    induction n7 with
    | zero => intro x0 x2 x4 hv; exact absurd hv (RT_z)
    | succ n7 ih7 =>
      intro x0 x2 x4 hv ls hl hq
      refine lv_lload hx hb d_M_root_7 (lv_at hl 2 rfl) ?_
      refine lv_lload_n hx hb d_M_root_9 rfl (lv_at hl 1 rfl) ?_
      refine lv_lsub hx hb d_M_root_10 ?_
      refine lv_lconst (v := (1 : Int64)) hx hb d_M_root_11 rfl ?_
      refine W.lcmp hx hb d_M_root_12 ?_
      refine lv_if_le (tgt := 49) hx hb d_M_root_13 (by decide) (fun c_13 => ?_) (fun c_13 => ?_)
      · refine lv_lload_n hx hb d_M_root_49 rfl (lv_at hl 1 rfl) ?_
        exact hend _ _ _ (by rw [hq, s_M_root_b7, if_pos c_13]) d_M_root_50
      · refine lv_lload_n hx hb d_M_root_16 rfl (lv_at hl 1 rfl) ?_
        refine lv_lload hx hb d_M_root_17 (lv_at hl 2 rfl) ?_
        refine lv_ladd hx hb d_M_root_19 ?_
        refine lv_ldc2 (v := (2 : Int64)) hx hb hown (hts _ kl_M_77) d_M_root_20 ?_
        refine lv_ldiv hx hb d_M_root_23 (by decide) ?_
        refine lv_lstore (lv' := [(6, .long ((x2 + x4) / (2 : Int64))), (0, .long x0), (2, .long x2), (4, .long x4)]) hx hb d_M_root_24 hl (by decide) rfl (fun ls hl => ?_)
        refine lv_lload hx hb d_M_root_26 (lv_at hl 0 rfl) ?_
        refine lv_lload hx hb d_M_root_28 (lv_at hl 0 rfl) ?_
        refine lv_lmul hx hb d_M_root_30 ?_
        refine lv_lload_n hx hb d_M_root_31 rfl (lv_at hl 1 rfl) ?_
        refine W.lcmp hx hb d_M_root_32 ?_
        refine lv_if_gt (tgt := 42) hx hb d_M_root_33 (by decide) (fun c_33 => ?_) (fun c_33 => ?_)
        · refine lv_lload hx hb d_M_root_42 (lv_at hl 0 rfl) ?_
          refine lv_lstore (lv' := [(4, .long ((x2 + x4) / (2 : Int64))), (6, .long ((x2 + x4) / (2 : Int64))), (0, .long x0), (2, .long x2)]) hx hb d_M_root_44 hl (by decide) rfl (fun ls hl => ?_)
          refine lv_goto (tgt := 7) hx hb d_M_root_46 (by decide) ?_
          exact ih7 x0 x2 ((x2 + x4) / (2 : Int64)) (by first | exact RT_lo hv c_13 | exact RT_hi hv c_13) ls (lv_sub hl [2, 3, 0] rfl) (by rw [hq, s_M_root_b7, if_neg c_13, if_pos c_33])
        · refine lv_lload hx hb d_M_root_36 (lv_at hl 0 rfl) ?_
          refine lv_lstore_n (lv' := [(2, .long ((x2 + x4) / (2 : Int64))), (6, .long ((x2 + x4) / (2 : Int64))), (0, .long x0), (4, .long x4)]) hx hb d_M_root_38 rfl hl (by decide) rfl (fun ls hl => ?_)
          refine lv_goto (tgt := 46) hx hb d_M_root_39 (by decide) ?_
          refine lv_goto (tgt := 7) hx hb d_M_root_46 (by decide) ?_
          exact ih7 x0 ((x2 + x4) / (2 : Int64)) x4 (by first | exact RT_lo hv c_13 | exact RT_hi hv c_13) ls (lv_sub hl [2, 0, 3] rfl) (by rw [hq, s_M_root_b7, if_neg c_13, if_neg c_33])
  refine lv_lconst (v := (0 : Int64)) hx hb d_M_root_0 rfl ?_
  refine lv_lstore_n (lv' := [(2, .long (0 : Int64)), (0, .long a0)]) hx hb d_M_root_1 rfl hl (by decide) rfl (fun ls hl => ?_)
  refine lv_ldc2 (v := (3000000 : Int64)) hx hb hown (hts _ kl_M_138) d_M_root_2 ?_
  refine lv_lstore (lv' := [(4, .long (3000000 : Int64)), (2, .long (0 : Int64)), (0, .long a0)]) hx hb d_M_root_5 hl (by decide) rfl (fun ls hl => ?_)
  exact b7 (23) a0 (0 : Int64) (3000000 : Int64) (⟨by decide, by decide, by decide, by decide, by decide⟩) ls (lv_sub hl [2, 1, 0] rfl) (by rw [s_M_root])

def s_M_reach (S : St) (a1 : Int32) : Int64 := (if 0 ≤ (lg_cmp (((((4 : Int64) * ((((50 : Int64) * ((s_M_teeth S a1).toInt64)) + (100 : Int64)) + ((S.2.1 0 ((17 : Int32) + a1).toNatClampNeg).toInt64))) * ((((50 : Int64) * ((s_M_teeth S a1).toInt64)) + (100 : Int64)) + ((S.2.1 0 ((17 : Int32) + a1).toNatClampNeg).toInt64))) - ((((s_M_teeth S a1).toInt64) * ((s_M_teeth S a1).toInt64)) * ((10000 : Int64) - ((s_M_square S).toInt64)))) * (2500 : Int64)) (0 : Int64)) then (s_M_root (((((4 : Int64) * ((((50 : Int64) * ((s_M_teeth S a1).toInt64)) + (100 : Int64)) + ((S.2.1 0 ((17 : Int32) + a1).toNatClampNeg).toInt64))) * ((((50 : Int64) * ((s_M_teeth S a1).toInt64)) + (100 : Int64)) + ((S.2.1 0 ((17 : Int32) + a1).toNatClampNeg).toInt64))) - ((((s_M_teeth S a1).toInt64) * ((s_M_teeth S a1).toInt64)) * ((10000 : Int64) - ((s_M_square S).toInt64)))) * (2500 : Int64))) else (0 : Int64))
set_option maxRecDepth 20000 in
theorem c_M_reach (l : Launch) (E : Cx) (ad : Nat → Nat) (X : va_W) (S : St) (a1 : Int32) (hG : GI (S.2.1 0)) (hw : w16 a1) : Met l y_M_reach (Cond.code y_M_reach b_M_reach 8 (some .long) :: TB) (rk 1 27) (va_Pc [.ref (ad 0), .int a1] (preR E (wm E ad S ++ X))) (vp_Sl (fun r => r = (s_M_reach S a1))) 0 0 (fun _ => False) := by
  refine w_roL rfl (Nat.le_of_ble_eq_true rfl) ?_
  intro p e s m args below meth c Q ls hx hb hml hts hown hP hK hl hend
  have hl : lv_has ls 8 [(0, .ref (ad 0)), (1, .int a1)] := hl
  have hP : va_P E.1 vwCl (wm E ad S ++ X) s.heap := hP
  have hown : s.vm.findClass R_M = some m.cls := hown
  refine lv_aload_n hx hb d_M_reach_0 rfl (lv_at hl 0 rfl) ?_
  refine lv_iload_n hx hb d_M_reach_1 rfl (lv_at hl 1 rfl) ?_
  refine k_vi (rest := []) (c_M_teeth l E ad X S a1 hw) mi_M_teeth ml_M_50 hx hb hml hts hown hK hP rvM hl ⟨rfl, rfl⟩ ⟨(Nat.le_of_ble_eq_true rfl), (Nat.le_of_ble_eq_true rfl)⟩ ⟨Nat.zero_le _, Nat.zero_le _⟩ rfl (Nat.le_of_ble_eq_true rfl) rfl d_M_reach_2 ?_
  refine lv_i2l hx hb d_M_reach_5 rfl ?_
  refine lv_lstore_n (lv' := [(2, .long ((s_M_teeth S a1).toInt64)), (0, .ref (ad 0)), (1, .int a1)]) hx hb d_M_reach_6 rfl hl (by decide) rfl (fun ls hl => ?_)
  refine lv_ldc2 (v := (50 : Int64)) hx hb hown (hts _ kl_M_140) d_M_reach_7 ?_
  refine lv_lload_n hx hb d_M_reach_10 rfl (lv_at hl 0 rfl) ?_
  refine lv_lmul hx hb d_M_reach_11 ?_
  refine lv_ldc2 (v := (100 : Int64)) hx hb hown (hts _ kl_M_71) d_M_reach_12 ?_
  refine lv_ladd hx hb d_M_reach_15 ?_
  refine lv_aload_n hx hb d_M_reach_16 rfl (lv_at hl 1 rfl) ?_
  refine g_M_g hx hb hts hown hK hP d_M_reach_17 ?_
  refine lv_bipush (v := (17 : Int32)) hx hb d_M_reach_20 rfl ?_
  refine lv_iload_n hx hb d_M_reach_22 rfl (lv_at hl 2 rfl) ?_
  refine lv_iadd hx hb d_M_reach_23 ?_
  refine lm_g hx hb hK hP (k := ((17 : Int32) + a1).toNatClampNeg) (v := (S.2.1 0 ((17 : Int32) + a1).toNatClampNeg)) rfl rfl (ix_add hw (by decide)) d_M_reach_24 ?_
  refine lv_i2l hx hb d_M_reach_25 rfl ?_
  refine lv_ladd hx hb d_M_reach_26 ?_
  refine lv_lstore (lv' := [(4, .long ((((50 : Int64) * ((s_M_teeth S a1).toInt64)) + (100 : Int64)) + ((S.2.1 0 ((17 : Int32) + a1).toNatClampNeg).toInt64))), (2, .long ((s_M_teeth S a1).toInt64)), (0, .ref (ad 0)), (1, .int a1)]) hx hb d_M_reach_27 hl (by decide) rfl (fun ls hl => ?_)
  refine lv_ldc2 (v := (4 : Int64)) hx hb hown (hts _ kl_M_142) d_M_reach_29 ?_
  refine lv_lload hx hb d_M_reach_32 (lv_at hl 0 rfl) ?_
  refine lv_lmul hx hb d_M_reach_34 ?_
  refine lv_lload hx hb d_M_reach_35 (lv_at hl 0 rfl) ?_
  refine lv_lmul hx hb d_M_reach_37 ?_
  refine lv_lload_n hx hb d_M_reach_38 rfl (lv_at hl 1 rfl) ?_
  refine lv_lload_n hx hb d_M_reach_39 rfl (lv_at hl 1 rfl) ?_
  refine lv_lmul hx hb d_M_reach_40 ?_
  refine lv_ldc2 (v := (10000 : Int64)) hx hb hown (hts _ kl_M_144) d_M_reach_41 ?_
  refine lv_aload_n hx hb d_M_reach_44 rfl (lv_at hl 2 rfl) ?_
  refine k_vi (rest := [.long (10000 : Int64), .long (((s_M_teeth S a1).toInt64) * ((s_M_teeth S a1).toInt64)), .long (((4 : Int64) * ((((50 : Int64) * ((s_M_teeth S a1).toInt64)) + (100 : Int64)) + ((S.2.1 0 ((17 : Int32) + a1).toNatClampNeg).toInt64))) * ((((50 : Int64) * ((s_M_teeth S a1).toInt64)) + (100 : Int64)) + ((S.2.1 0 ((17 : Int32) + a1).toNatClampNeg).toInt64)))]) (c_M_square l E ad X S hG) mi_M_square ml_M_79 hx hb hml hts hown hK hP rvM hl ⟨rfl, rfl⟩ ⟨(Nat.le_of_ble_eq_true rfl), (Nat.le_of_ble_eq_true rfl)⟩ ⟨Nat.zero_le _, Nat.zero_le _⟩ rfl (Nat.le_of_ble_eq_true rfl) rfl d_M_reach_45 ?_
  refine lv_i2l hx hb d_M_reach_48 rfl ?_
  refine lv_lsub hx hb d_M_reach_49 ?_
  refine lv_lmul hx hb d_M_reach_50 ?_
  refine lv_lsub hx hb d_M_reach_51 ?_
  refine lv_ldc2 (v := (2500 : Int64)) hx hb hown (hts _ kl_M_146) d_M_reach_52 ?_
  refine lv_lmul hx hb d_M_reach_55 ?_
  refine lv_lstore (lv' := [(6, .long (((((4 : Int64) * ((((50 : Int64) * ((s_M_teeth S a1).toInt64)) + (100 : Int64)) + ((S.2.1 0 ((17 : Int32) + a1).toNatClampNeg).toInt64))) * ((((50 : Int64) * ((s_M_teeth S a1).toInt64)) + (100 : Int64)) + ((S.2.1 0 ((17 : Int32) + a1).toNatClampNeg).toInt64))) - ((((s_M_teeth S a1).toInt64) * ((s_M_teeth S a1).toInt64)) * ((10000 : Int64) - ((s_M_square S).toInt64)))) * (2500 : Int64))), (4, .long ((((50 : Int64) * ((s_M_teeth S a1).toInt64)) + (100 : Int64)) + ((S.2.1 0 ((17 : Int32) + a1).toNatClampNeg).toInt64))), (2, .long ((s_M_teeth S a1).toInt64)), (0, .ref (ad 0)), (1, .int a1)]) hx hb d_M_reach_56 hl (by decide) rfl (fun ls hl => ?_)
  refine lv_lload hx hb d_M_reach_58 (lv_at hl 0 rfl) ?_
  refine lv_lconst (v := (0 : Int64)) hx hb d_M_reach_60 rfl ?_
  refine W.lcmp hx hb d_M_reach_61 ?_
  refine lv_if_ge (tgt := 69) hx hb d_M_reach_62 (by decide) (fun c_62 => ?_) (fun c_62 => ?_)
  · refine lv_lload hx hb d_M_reach_69 (lv_at hl 0 rfl) ?_
    refine k_sl (rest := []) (c_M_root l E (((((4 : Int64) * ((((50 : Int64) * ((s_M_teeth S a1).toInt64)) + (100 : Int64)) + ((S.2.1 0 ((17 : Int32) + a1).toNatClampNeg).toInt64))) * ((((50 : Int64) * ((s_M_teeth S a1).toInt64)) + (100 : Int64)) + ((S.2.1 0 ((17 : Int32) + a1).toNatClampNeg).toInt64))) - ((((s_M_teeth S a1).toInt64) * ((s_M_teeth S a1).toInt64)) * ((10000 : Int64) - ((s_M_square S).toInt64)))) * (2500 : Int64))) mi_M_root ml_M_148 hx hb hml hts hown hK va_nil hl ⟨rfl, rfl⟩ ⟨(Nat.le_of_ble_eq_true rfl), (Nat.le_of_ble_eq_true rfl)⟩ ⟨Nat.zero_le _, Nat.zero_le _⟩ rfl (Nat.le_of_ble_eq_true rfl) rfl d_M_reach_71 ?_
    exact hend _ _ _ (by rw [s_M_reach, if_pos c_62]) d_M_reach_74
  · refine lv_lconst (v := (0 : Int64)) hx hb d_M_reach_65 rfl ?_
    refine lv_goto (tgt := 74) hx hb d_M_reach_66 (by decide) ?_
    exact hend _ _ _ (by rw [s_M_reach, if_neg c_62]) d_M_reach_74

def s_M_distance (S : St) (a1 : Int32) (a2 : Int32) (a3 : Int32) : Int64 × St := (if (s_M_isPair S a1 a2) = 0 then ((-9223372036854775808 : Int64), S) else (if (s_M_in (a3.toInt64) (0 : Int64) (1 : Int64)) = 0 then ((-9223372036854775808 : Int64), S) else (if (s_M_clashes S a1 a2) = 0 then ((s_M_part (s_M_lays S ((s_M_hundredths S a1 a2).toInt64) (100 : Int64)) a3), (s_M_lays S ((s_M_hundredths S a1 a2).toInt64) (100 : Int64))) else ((-9223372036854775807 : Int64), S))))
set_option maxRecDepth 20000 in
theorem c_M_distance (l : Launch) (E : Cx) (ad : Nat → Nat) (X : va_W) (S : St) (A : Nat → Prop) (a1 : Int32) (a2 : Int32) (a3 : Int32) (hG : GI (S.2.1 0)) : Met l y_M_distance (Cond.code y_M_distance b_M_distance 4 (some .long) :: TB) (rk 4 87) (va_Pc [.ref (ad 0), .int a1, .int a2, .int a3] (preM E A (fun S => wm E ad S ++ X) S)) (va_Ql (fun r u => (r, u) = (s_M_distance S a1 a2 a3)) (fun u t => va_P E.1 vwCl ((fun S => wm E ad S ++ X) u) t.heap) A) 0 0 A := by
  refine w_muL rfl (Nat.le_of_ble_eq_true rfl) ?_
  intro p e s m args below meth c Q ls hx hb hml hts hown hP hK hD hS hl hend
  have hl : lv_has ls 4 [(0, .ref (ad 0)), (1, .int a1), (2, .int a2), (3, .int a3)] := hl
  have hP : va_P E.1 vwCl (wm E ad S ++ X) s.heap := hP
  have hown : s.vm.findClass R_M = some m.cls := hown
  have hD : ∀ S' : St, va_D A (wm E ad S' ++ X) := hD
  refine lv_aload_n hx hb d_M_distance_0 rfl (lv_at hl 0 rfl) ?_
  refine lv_iload_n hx hb d_M_distance_1 rfl (lv_at hl 1 rfl) ?_
  refine lv_iload_n hx hb d_M_distance_2 rfl (lv_at hl 2 rfl) ?_
  refine k_vi (rest := []) (c_M_isPair l E ad X S a1 a2 hG) mi_M_isPair ml_M_114 hx hb hml hts hown hK hP rvM hl ⟨rfl, rfl⟩ ⟨(Nat.le_of_ble_eq_true rfl), (Nat.le_of_ble_eq_true rfl)⟩ ⟨Nat.zero_le _, Nat.zero_le _⟩ rfl (Nat.le_of_ble_eq_true rfl) rfl d_M_distance_3 ?_
  refine lv_if_eq (tgt := 19) hx hb d_M_distance_6 (by decide) (fun c_6 => ?_) (fun c_6 => ?_)
  · refine lv_ldc2 (v := (-9223372036854775808 : Int64)) hx hb hown (hts _ kl_M_117) d_M_distance_19 ?_
    exact hend _ _ _ _ _ _ (by rw [s_M_distance, if_pos c_6]) hP hS d_M_distance_22
  · refine lv_iload_n hx hb d_M_distance_9 rfl (lv_at hl 3 rfl) ?_
    refine lv_i2l hx hb d_M_distance_10 rfl ?_
    refine lv_lconst (v := (0 : Int64)) hx hb d_M_distance_11 rfl ?_
    refine lv_lconst (v := (1 : Int64)) hx hb d_M_distance_12 rfl ?_
    refine k_si (rest := []) (c_M_in l E (a3.toInt64) (0 : Int64) (1 : Int64)) mi_M_in ml_M_46 hx hb hml hts hown hK va_nil hl ⟨rfl, rfl⟩ ⟨(Nat.le_of_ble_eq_true rfl), (Nat.le_of_ble_eq_true rfl)⟩ ⟨Nat.zero_le _, Nat.zero_le _⟩ rfl (Nat.le_of_ble_eq_true rfl) rfl d_M_distance_13 ?_
    refine lv_if_ne (tgt := 23) hx hb d_M_distance_16 (by decide) (fun c_16 => ?_) (fun c_16 => ?_)
    · refine lv_aload_n hx hb d_M_distance_23 rfl (lv_at hl 0 rfl) ?_
      refine lv_iload_n hx hb d_M_distance_24 rfl (lv_at hl 1 rfl) ?_
      refine lv_iload_n hx hb d_M_distance_25 rfl (lv_at hl 2 rfl) ?_
      refine k_vi (rest := []) (c_M_clashes l E ad X S a1 a2 (isP1 hG c_6) (isP2 hG c_6)) mi_M_clashes ml_M_119 hx hb hml hts hown hK hP rvM hl ⟨rfl, rfl⟩ ⟨(Nat.le_of_ble_eq_true rfl), (Nat.le_of_ble_eq_true rfl)⟩ ⟨Nat.zero_le _, Nat.zero_le _⟩ rfl (Nat.le_of_ble_eq_true rfl) rfl d_M_distance_26 ?_
      refine lv_if_eq (tgt := 36) hx hb d_M_distance_29 (by decide) (fun c_29 => ?_) (fun c_29 => ?_)
      · refine lv_aload_n hx hb d_M_distance_36 rfl (lv_at hl 0 rfl) ?_
        refine lv_aload_n hx hb d_M_distance_37 rfl (lv_at hl 0 rfl) ?_
        refine lv_iload_n hx hb d_M_distance_38 rfl (lv_at hl 1 rfl) ?_
        refine lv_iload_n hx hb d_M_distance_39 rfl (lv_at hl 2 rfl) ?_
        refine k_vi (rest := [.ref (ad 0)]) (c_M_hundredths l E ad X S a1 a2 (isP1 hG c_6) (isP2 hG c_6)) mi_M_hundredths ml_M_124 hx hb hml hts hown hK hP rvM hl ⟨rfl, rfl⟩ ⟨(Nat.le_of_ble_eq_true rfl), (Nat.le_of_ble_eq_true rfl)⟩ ⟨Nat.zero_le _, Nat.zero_le _⟩ rfl (Nat.le_of_ble_eq_true rfl) rfl d_M_distance_40 ?_
        refine lv_i2l hx hb d_M_distance_43 rfl ?_
        refine lv_ldc2 (v := (100 : Int64)) hx hb hown (hts _ kl_M_71) d_M_distance_44 ?_
        refine k_mvv (rest := []) (c_M_lays l E ad X S A ((s_M_hundredths S a1 a2).toInt64) (100 : Int64) (by decide) (i2l_lo _)) mi_M_lays ml_M_127 hx hb hml hts hown hK hP hD hS rvM hl ⟨rfl, rfl⟩ ⟨(Nat.le_of_ble_eq_true rfl), (Nat.le_of_ble_eq_true rfl)⟩ ⟨Nat.zero_le _, Nat.zero_le _⟩ rfl (Nat.le_of_ble_eq_true rfl) rfl d_M_distance_47 (fun H locs hP hS => ?_)
        have hP : va_P E.1 vwCl (wm E ad (s_M_lays S ((s_M_hundredths S a1 a2).toInt64) (100 : Int64)) ++ X) H := hP
        refine lv_aload_n hx hb d_M_distance_50 rfl (lv_at hl 0 rfl) ?_
        refine lv_iload_n hx hb d_M_distance_51 rfl (lv_at hl 3 rfl) ?_
        refine k_vl (rest := []) (c_M_part l E ad X (s_M_lays S ((s_M_hundredths S a1 a2).toInt64) (100 : Int64)) a3) mi_M_part ml_M_131 hx hb hml hts hown hK hP rvM hl ⟨rfl, rfl⟩ ⟨(Nat.le_of_ble_eq_true rfl), (Nat.le_of_ble_eq_true rfl)⟩ ⟨Nat.zero_le _, Nat.zero_le _⟩ rfl (Nat.le_of_ble_eq_true rfl) rfl d_M_distance_52 ?_
        exact hend _ _ _ _ _ _ (by rw [s_M_distance, if_neg c_6, if_neg c_16, if_pos c_29]) hP hS d_M_distance_55
      · refine lv_ldc2 (v := (-9223372036854775807 : Int64)) hx hb hown (hts _ kl_M_122) d_M_distance_32 ?_
        exact hend _ _ _ _ _ _ (by rw [s_M_distance, if_neg c_6, if_neg c_16, if_neg c_29]) hP hS d_M_distance_35
    · refine lv_ldc2 (v := (-9223372036854775808 : Int64)) hx hb hown (hts _ kl_M_117) d_M_distance_19 ?_
      exact hend _ _ _ _ _ _ (by rw [s_M_distance, if_neg c_6, if_pos c_16]) hP hS d_M_distance_22
