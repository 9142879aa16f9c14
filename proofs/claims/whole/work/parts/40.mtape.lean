/-! by program (wip/whole/mdl.py) -/
/-- the tape's place and length -/
def TI (S : St) : Prop := 0 ≤ (S.1 5).toInt ∧ (S.1 5).toInt ≤ (S.1 4).toInt ∧ (S.1 4).toInt ≤ 80
theorem fd_ix {S : St} (h : 0 ≤ (S.1 4).toInt ∧ (S.1 4).toInt ≤ 80) (c : ¬ S.1 4 = 80) : vp_in (S.1 4) 80 := by
  have : (S.1 4).toInt ≠ 80 := fun e => c (Int32.toInt_inj.mp (by rw [e]; decide))
  exact vin_k ⟨h.1, by omega⟩
theorem hr_ix {S : St} (h : TI S) (c : ¬ S.1 4 ≤ S.1 5) : vp_in (S.1 5) 80 := by
  rw [Int32.le_iff_toInt_le] at c
  exact vin_k ⟨h.1, by have := h.2.2; omega⟩
theorem TI_of {S S' : St} (h4 : S'.1 4 = S.1 4) (h5 : S'.1 5 = S.1 5) (h : TI S) : TI S' := by unfold TI; rw [h4, h5]; exact h
theorem add0 (x : Int32) : x + 0 = x := by simp
theorem TI_n0 {S : St} (h : TI S) : TI (sV S 5 (S.1 5 + 0)) := TI_of (by simp [sV, upd]) (by simp [sV, upd]) h
theorem TI_n1 {S : St} (h : TI S) (c : (S.1 5).toInt < (S.1 4).toInt) : TI (sV S 5 (S.1 5 + 1)) := by
  obtain ⟨h1, h2, h3⟩ := h
  have e5 : (sV S 5 (S.1 5 + 1)).1 5 = S.1 5 + 1 := by simp [sV, upd]
  have e4 : (sV S 5 (S.1 5 + 1)).1 4 = S.1 4 := by simp [sV, upd]
  unfold TI
  rw [e5, e4, i32_suc (by omega)]
  exact ⟨by omega, by omega, h3⟩
theorem TI_g {S : St} {c : Int32} (h : TI S) : TI (sV S 6 c) := TI_of (by simp [sV, upd]) (by simp [sV, upd]) h
theorem w41_ix {k : Int32} (h : w41 k) : vp_in k 41 := vin_k ⟨h.1, by have := h.2; omega⟩

def s_M_feed (S : St) (a1 : Int32) : Int32 × St := (if (s_M_in (a1.toInt64) (32 : Int64) (126 : Int64)) = 0 then ((-1 : Int32), S) else (if (S.1 4) = (80 : Int32) then ((-3 : Int32), S) else (((S.1 4) + (1 : Int32)), (sV (sA S 3 (S.1 4).toNatClampNeg a1) 4 ((S.1 4) + (1 : Int32))))))
set_option maxRecDepth 20000 in
theorem c_M_feed (l : Launch) (E : Cx) (ad : Nat → Nat) (X : va_W) (S : St) (A : Nat → Prop) (a1 : Int32) (hF : 0 ≤ (S.1 4).toInt ∧ (S.1 4).toInt ≤ 80) : Met l y_M_feed (Cond.code y_M_feed b_M_feed 2 (some .int) :: TB) (rk 1 25) (va_Pc [.ref (ad 0), .int a1] (preM E A (fun S => wm E ad S ++ X) S)) (va_Qi (fun r u => (r, u) = (s_M_feed S a1)) (fun u t => va_P E.1 vwCl ((fun S => wm E ad S ++ X) u) t.heap) A) 0 0 A := by
  refine w_muI rfl (Nat.le_of_ble_eq_true rfl) rfl ?_
  intro p e s m args below meth c Q ls hx hb hml hts hown hP hK hD hS hl hend
  have hl : lv_has ls 2 [(0, .ref (ad 0)), (1, .int a1)] := hl
  have hP : va_P E.1 vwCl (wm E ad S ++ X) s.heap := hP
  have hown : s.vm.findClass R_M = some m.cls := hown
  have hD : ∀ S' : St, va_D A (wm E ad S' ++ X) := hD
  refine lv_iload_n hx hb d_M_feed_0 rfl (lv_at hl 1 rfl) ?_
  refine lv_i2l hx hb d_M_feed_1 rfl ?_
  refine lv_ldc2 (v := (32 : Int64)) hx hb hown (hts _ kl_M_206) d_M_feed_2 ?_
  refine lv_ldc2 (v := (126 : Int64)) hx hb hown (hts _ kl_M_208) d_M_feed_5 ?_
  refine k_si (rest := []) (c_M_in l E (a1.toInt64) (32 : Int64) (126 : Int64)) mi_M_in ml_M_46 hx hb hml hts hown hK va_nil hl ⟨rfl, rfl⟩ ⟨(Nat.le_of_ble_eq_true rfl), (Nat.le_of_ble_eq_true rfl)⟩ ⟨Nat.zero_le _, Nat.zero_le _⟩ rfl (Nat.le_of_ble_eq_true rfl) rfl d_M_feed_8 ?_
  refine lv_if_ne (tgt := 16) hx hb d_M_feed_11 (by decide) (fun c_11 => ?_) (fun c_11 => ?_)
  · refine lv_aload_n hx hb d_M_feed_16 rfl (lv_at hl 0 rfl) ?_
    refine g_M_fed hx hb hts hown hK hP d_M_feed_17 ?_
    refine lv_bipush (v := (80 : Int32)) hx hb d_M_feed_20 rfl ?_
    refine lv_icmp_ne (tgt := 28) hx hb d_M_feed_22 (by decide) (fun c_22 => ?_) (fun c_22 => ?_)
    · refine lv_aload_n hx hb d_M_feed_28 rfl (lv_at hl 0 rfl) ?_
      refine g_M_tape hx hb hts hown hK hP d_M_feed_29 ?_
      refine lv_aload_n hx hb d_M_feed_32 rfl (lv_at hl 0 rfl) ?_
      refine g_M_fed hx hb hts hown hK hP d_M_feed_33 ?_
      refine lv_iload_n hx hb d_M_feed_36 rfl (lv_at hl 1 rfl) ?_
      refine am_tape hx hb hK hP hD hS (k := (S.1 4).toNatClampNeg) rfl (fd_ix hF c_22) d_M_feed_37 (fun H locs hP hS => ?_)
      have hP : va_P E.1 vwCl (wm E ad (sA S 3 (S.1 4).toNatClampNeg a1) ++ X) H := hP
      refine lv_aload_n hx hb d_M_feed_38 rfl (lv_at hl 0 rfl) ?_
      refine lv_dup hx hb d_M_feed_39 rfl ?_
      refine g_M_fed hx hb hts hown hK hP d_M_feed_40 ?_
      refine k_topi (y := (S.1 4)) rfl ?_
      refine lv_iconst (v := (1 : Int32)) hx hb d_M_feed_43 rfl ?_
      refine lv_iadd hx hb d_M_feed_44 ?_
      refine p_M_fed hx hb hts hown hK hP hD hS d_M_feed_45 (fun H locs hP hS => ?_)
      have hP : va_P E.1 vwCl (wm E ad (sV (sA S 3 (S.1 4).toNatClampNeg a1) 4 ((S.1 4) + (1 : Int32))) ++ X) H := hP
      refine lv_aload_n hx hb d_M_feed_48 rfl (lv_at hl 0 rfl) ?_
      refine g_M_fed hx hb hts hown hK hP d_M_feed_49 ?_
      refine k_topi (y := ((S.1 4) + (1 : Int32))) rfl ?_
      exact hend _ _ _ _ _ _ (by rw [s_M_feed, if_neg c_11, if_neg c_22]) hP hS d_M_feed_52
    · refine lv_bipush (v := (-3 : Int32)) hx hb d_M_feed_25 rfl ?_
      exact hend _ _ _ _ _ _ (by rw [s_M_feed, if_neg c_11, if_pos c_22]) hP hS d_M_feed_27
  · refine lv_iconst (v := (-1 : Int32)) hx hb d_M_feed_14 rfl ?_
    exact hend _ _ _ _ _ _ (by rw [s_M_feed, if_pos c_11]) hP hS d_M_feed_15

def s_M_here (S : St) : Int32 := (if (S.1 4) ≤ (S.1 5) then (-1 : Int32) else (S.2.1 3 (S.1 5).toNatClampNeg))
set_option maxRecDepth 20000 in
theorem c_M_here (l : Launch) (E : Cx) (ad : Nat → Nat) (X : va_W) (S : St) (hT : TI S) : Met l y_M_here (Cond.code y_M_here b_M_here 1 (some .int) :: TB) (rk 0 0) (va_Pc [.ref (ad 0)] (preR E (wm E ad S ++ X))) (vp_Si (fun r => r = (s_M_here S))) 0 0 (fun _ => False) := by
  refine w_roI rfl (Nat.le_of_ble_eq_true rfl) rfl ?_
  intro p e s m args below meth c Q ls hx hb hml hts hown hP hK hl hend
  have hl : lv_has ls 1 [(0, .ref (ad 0))] := hl
  have hP : va_P E.1 vwCl (wm E ad S ++ X) s.heap := hP
  have hown : s.vm.findClass R_M = some m.cls := hown
  refine lv_aload_n hx hb d_M_here_0 rfl (lv_at hl 0 rfl) ?_
  refine g_M_at hx hb hts hown hK hP d_M_here_1 ?_
  refine lv_aload_n hx hb d_M_here_4 rfl (lv_at hl 0 rfl) ?_
  refine g_M_fed hx hb hts hown hK hP d_M_here_5 ?_
  refine lv_icmp_ge (tgt := 23) hx hb d_M_here_8 (by decide) (fun c_8 => ?_) (fun c_8 => ?_)
  · refine lv_iconst (v := (-1 : Int32)) hx hb d_M_here_23 rfl ?_
    exact hend _ _ _ (by rw [s_M_here, if_pos c_8]) d_M_here_24
  · refine lv_aload_n hx hb d_M_here_11 rfl (lv_at hl 0 rfl) ?_
    refine g_M_tape hx hb hts hown hK hP d_M_here_12 ?_
    refine lv_aload_n hx hb d_M_here_15 rfl (lv_at hl 0 rfl) ?_
    refine g_M_at hx hb hts hown hK hP d_M_here_16 ?_
    refine lm_tape hx hb hK hP (k := (S.1 5).toNatClampNeg) (v := (S.2.1 3 (S.1 5).toNatClampNeg)) rfl rfl (hr_ix hT c_8) d_M_here_19 ?_
    refine lv_goto (tgt := 24) hx hb d_M_here_20 (by decide) ?_
    exact hend _ _ _ (by rw [s_M_here, if_neg c_8]) d_M_here_24
theorem here_lt {S : St} {c : Int32} (h : s_M_here S = c) (hc : ¬ c = -1) : (S.1 5).toInt < (S.1 4).toInt := by
  rw [s_M_here] at h
  by_cases q : S.1 4 ≤ S.1 5
  · rw [if_pos q] at h; exact absurd h.symm hc
  · rw [Int32.le_iff_toInt_le] at q; omega

def s_M_takes (S : St) (a1 : Int32) : St := (if (S.1 6) = 0 then (sV (sV S 6 (0 : Int32)) 5 ((S.1 5) + (0 : Int32))) else (if (s_M_here S) = a1 then (sV (sV S 6 (1 : Int32)) 5 ((S.1 5) + (1 : Int32))) else (sV (sV S 6 (0 : Int32)) 5 ((S.1 5) + (0 : Int32)))))
set_option maxRecDepth 20000 in
theorem c_M_takes (l : Launch) (E : Cx) (ad : Nat → Nat) (X : va_W) (S : St) (A : Nat → Prop) (a1 : Int32) (hT : TI S) : Met l y_M_takes (Cond.code y_M_takes b_M_takes 2 none :: TB) (rk 1 20) (va_Pc [.ref (ad 0), .int a1] (preM E A (fun S => wm E ad S ++ X) S)) (va_Qv (fun u => u = (s_M_takes S a1)) (fun u t => va_P E.1 vwCl ((fun S => wm E ad S ++ X) u) t.heap) A) 0 0 A := by
  refine w_muV rfl (Nat.le_of_ble_eq_true rfl) ?_
  intro p e s m args below meth c Q ls hx hb hml hts hown hP hK hD hS hl hend
  have hl : lv_has ls 2 [(0, .ref (ad 0)), (1, .int a1)] := hl
  have hP : va_P E.1 vwCl (wm E ad S ++ X) s.heap := hP
  have hown : s.vm.findClass R_M = some m.cls := hown
  have hD : ∀ S' : St, va_D A (wm E ad S' ++ X) := hD
  refine lv_aload_n hx hb d_M_takes_0 rfl (lv_at hl 0 rfl) ?_
  refine lv_aload_n hx hb d_M_takes_1 rfl (lv_at hl 0 rfl) ?_
  refine g_M_goes hx hb hts hown hK hP d_M_takes_2 ?_
  refine lv_if_eq (tgt := 20) hx hb d_M_takes_5 (by decide) (fun c_5 => ?_) (fun c_5 => ?_)
  · refine lv_iconst (v := (0 : Int32)) hx hb d_M_takes_20 rfl ?_
    refine p_M_goes hx hb hts hown hK hP hD hS (Or.inl rfl) d_M_takes_21 (fun H locs hP hS => ?_)
    have hP : va_P E.1 vwCl (wm E ad (sV S 6 (0 : Int32)) ++ X) H := hP
    refine lv_aload_n hx hb d_M_takes_24 rfl (lv_at hl 0 rfl) ?_
    refine lv_dup hx hb d_M_takes_25 rfl ?_
    refine g_M_at hx hb hts hown hK hP d_M_takes_26 ?_
    refine k_topi (y := (S.1 5)) rfl ?_
    refine lv_aload_n hx hb d_M_takes_29 rfl (lv_at hl 0 rfl) ?_
    refine g_M_goes hx hb hts hown hK hP d_M_takes_30 ?_
    refine k_topi (y := (0 : Int32)) rfl ?_
    refine lv_if_eq (tgt := 40) hx hb d_M_takes_33 (by decide) (fun c_33 => ?_) (fun c_33 => absurd c_33 (by decide))
    refine lv_iconst (v := (0 : Int32)) hx hb d_M_takes_40 rfl ?_
    refine lv_iadd hx hb d_M_takes_41 ?_
    refine p_M_at hx hb hts hown hK hP hD hS d_M_takes_42 (fun H locs hP hS => ?_)
    have hP : va_P E.1 vwCl (wm E ad (sV (sV S 6 (0 : Int32)) 5 ((S.1 5) + (0 : Int32))) ++ X) H := hP
    exact hend _ _ _ _ _ (by rw [s_M_takes, if_pos c_5]) hP hS d_M_takes_45
  · refine lv_aload_n hx hb d_M_takes_8 rfl (lv_at hl 0 rfl) ?_
    refine k_vi (rest := [.ref (ad 0)]) (c_M_here l E ad X S (by assumption)) mi_M_here ml_M_220 hx hb hml hts hown hK hP rvM hl ⟨rfl, rfl⟩ ⟨(Nat.le_of_ble_eq_true rfl), (Nat.le_of_ble_eq_true rfl)⟩ ⟨Nat.zero_le _, Nat.zero_le _⟩ rfl (Nat.le_of_ble_eq_true rfl) rfl d_M_takes_9 ?_
    refine lv_iload_n hx hb d_M_takes_12 rfl (lv_at hl 1 rfl) ?_
    refine lv_icmp_ne (tgt := 20) hx hb d_M_takes_13 (by decide) (fun c_13 => ?_) (fun c_13 => ?_)
    · refine lv_iconst (v := (0 : Int32)) hx hb d_M_takes_20 rfl ?_
      refine p_M_goes hx hb hts hown hK hP hD hS (Or.inl rfl) d_M_takes_21 (fun H locs hP hS => ?_)
      have hP : va_P E.1 vwCl (wm E ad (sV S 6 (0 : Int32)) ++ X) H := hP
      refine lv_aload_n hx hb d_M_takes_24 rfl (lv_at hl 0 rfl) ?_
      refine lv_dup hx hb d_M_takes_25 rfl ?_
      refine g_M_at hx hb hts hown hK hP d_M_takes_26 ?_
      refine k_topi (y := (S.1 5)) rfl ?_
      refine lv_aload_n hx hb d_M_takes_29 rfl (lv_at hl 0 rfl) ?_
      refine g_M_goes hx hb hts hown hK hP d_M_takes_30 ?_
      refine k_topi (y := (0 : Int32)) rfl ?_
      refine lv_if_eq (tgt := 40) hx hb d_M_takes_33 (by decide) (fun c_33 => ?_) (fun c_33 => absurd c_33 (by decide))
      refine lv_iconst (v := (0 : Int32)) hx hb d_M_takes_40 rfl ?_
      refine lv_iadd hx hb d_M_takes_41 ?_
      refine p_M_at hx hb hts hown hK hP hD hS d_M_takes_42 (fun H locs hP hS => ?_)
      have hP : va_P E.1 vwCl (wm E ad (sV (sV S 6 (0 : Int32)) 5 ((S.1 5) + (0 : Int32))) ++ X) H := hP
      exact hend _ _ _ _ _ (by rw [s_M_takes, if_neg c_5, if_neg c_13]) hP hS d_M_takes_45
    · refine lv_iconst (v := (1 : Int32)) hx hb d_M_takes_16 rfl ?_
      refine lv_goto (tgt := 21) hx hb d_M_takes_17 (by decide) ?_
      refine p_M_goes hx hb hts hown hK hP hD hS (Or.inr rfl) d_M_takes_21 (fun H locs hP hS => ?_)
      have hP : va_P E.1 vwCl (wm E ad (sV S 6 (1 : Int32)) ++ X) H := hP
      refine lv_aload_n hx hb d_M_takes_24 rfl (lv_at hl 0 rfl) ?_
      refine lv_dup hx hb d_M_takes_25 rfl ?_
      refine g_M_at hx hb hts hown hK hP d_M_takes_26 ?_
      refine k_topi (y := (S.1 5)) rfl ?_
      refine lv_aload_n hx hb d_M_takes_29 rfl (lv_at hl 0 rfl) ?_
      refine g_M_goes hx hb hts hown hK hP d_M_takes_30 ?_
      refine k_topi (y := (1 : Int32)) rfl ?_
      refine lv_if_eq (tgt := 40) hx hb d_M_takes_33 (by decide) (fun c_33 => absurd c_33 (by decide)) (fun c_33 => ?_)
      refine lv_iconst (v := (1 : Int32)) hx hb d_M_takes_36 rfl ?_
      refine lv_goto (tgt := 41) hx hb d_M_takes_37 (by decide) ?_
      refine lv_iadd hx hb d_M_takes_41 ?_
      refine p_M_at hx hb hts hown hK hP hD hS d_M_takes_42 (fun H locs hP hS => ?_)
      have hP : va_P E.1 vwCl (wm E ad (sV (sV S 6 (1 : Int32)) 5 ((S.1 5) + (1 : Int32))) ++ X) H := hP
      exact hend _ _ _ _ _ (by rw [s_M_takes, if_neg c_5, if_pos c_13]) hP hS d_M_takes_45
theorem TI_takes {S : St} {c : Int32} (h : TI S) (hc : ¬ c = -1) : TI (s_M_takes S c) := by
  rw [s_M_takes]
  by_cases h1 : S.1 6 = 0
  · rw [if_pos h1]; exact TI_n0 (S := sV S 6 0) (TI_g h)
  · by_cases h2 : s_M_here S = c
    · rw [if_neg h1, if_pos h2]; exact TI_n1 (S := sV S 6 1) (TI_g h) (by have := here_lt h2 hc; exact this)
    · rw [if_neg h1, if_neg h2]; exact TI_n0 (S := sV S 6 0) (TI_g h)

def s_M_isFigure (S : St) : Int32 := (s_M_in ((s_M_here S).toInt64) (48 : Int64) (57 : Int64))
theorem z_M_isFigure (S : St) : (s_M_isFigure S) = 0 ∨ (s_M_isFigure S) = 1 := by rw [s_M_isFigure]; exact (z_M_in ((s_M_here S).toInt64) (48 : Int64) (57 : Int64))
set_option maxRecDepth 20000 in
theorem c_M_isFigure (l : Launch) (E : Cx) (ad : Nat → Nat) (X : va_W) (S : St) (hT : TI S) : Met l y_M_isFigure (Cond.code y_M_isFigure b_M_isFigure 1 (some .boolean) :: TB) (rk 1 25) (va_Pc [.ref (ad 0)] (preR E (wm E ad S ++ X))) (vp_Si (fun r => r = (s_M_isFigure S))) 0 0 (fun _ => False) := by
  refine w_roI rfl (Nat.le_of_ble_eq_true rfl) (k_nb (z_M_isFigure S)) ?_
  intro p e s m args below meth c Q ls hx hb hml hts hown hP hK hl hend
  have hl : lv_has ls 1 [(0, .ref (ad 0))] := hl
  have hP : va_P E.1 vwCl (wm E ad S ++ X) s.heap := hP
  have hown : s.vm.findClass R_M = some m.cls := hown
  refine lv_aload_n hx hb d_M_isFigure_0 rfl (lv_at hl 0 rfl) ?_
  refine k_vi (rest := []) (c_M_here l E ad X S (by assumption)) mi_M_here ml_M_220 hx hb hml hts hown hK hP rvM hl ⟨rfl, rfl⟩ ⟨(Nat.le_of_ble_eq_true rfl), (Nat.le_of_ble_eq_true rfl)⟩ ⟨Nat.zero_le _, Nat.zero_le _⟩ rfl (Nat.le_of_ble_eq_true rfl) rfl d_M_isFigure_1 ?_
  refine lv_i2l hx hb d_M_isFigure_4 rfl ?_
  refine lv_ldc2 (v := (48 : Int64)) hx hb hown (hts _ kl_M_223) d_M_isFigure_5 ?_
  refine lv_ldc2 (v := (57 : Int64)) hx hb hown (hts _ kl_M_225) d_M_isFigure_8 ?_
  refine k_si (rest := []) (c_M_in l E ((s_M_here S).toInt64) (48 : Int64) (57 : Int64)) mi_M_in ml_M_46 hx hb hml hts hown hK va_nil hl ⟨rfl, rfl⟩ ⟨(Nat.le_of_ble_eq_true rfl), (Nat.le_of_ble_eq_true rfl)⟩ ⟨Nat.zero_le _, Nat.zero_le _⟩ rfl (Nat.le_of_ble_eq_true rfl) rfl d_M_isFigure_11 ?_
  exact hend _ _ _ (by rw [s_M_isFigure]) d_M_isFigure_14
theorem fig_lt {S : St} (h : ¬ s_M_isFigure S = 0) : (S.1 5).toInt < (S.1 4).toInt := by
  rw [s_M_isFigure] at h
  have q := (in_1 h).1
  refine here_lt rfl (fun e => ?_)
  rw [i64_of, e] at q
  exact absurd q (by decide)

def s_M_number_b121 (Z : St) (x2 : Int32) (x3 : Int32) : Int32 × St := (if x2 = 0 then (x3, Z) else ((-x3), Z))
def s_M_number_b72 : Nat → St → Int32 → Int32 → Int32 → Int32 × St
  | 0, Z, _, _, _ => (0, Z)
  | n + 1, Z, x2, x3, x4 => (if (3 : Int32) ≤ x4 then (s_M_number_b121 Z x2 x3) else (if (Z.1 6) = 0 then (s_M_number_b121 Z x2 x3) else (if (s_M_isFigure Z) = 0 then (s_M_number_b121 Z x2 x3) else (s_M_number_b72 n (sV Z 5 ((Z.1 5) + (1 : Int32))) x2 ((((10 : Int32) * x3) + (s_M_here Z)) - (48 : Int32)) (x4 + 1)))))
def s_M_number (S : St) (a1 : Int32) : Int32 × St := (if (S.1 6) = 0 then (if (S.1 6) = 0 then (s_M_number_b72 (4) (sV (sV S 5 ((S.1 5) + (0 : Int32))) 6 (0 : Int32)) (0 : Int32) (0 : Int32) (0 : Int32)) else (if (s_M_isFigure (sV S 5 ((S.1 5) + (0 : Int32)))) = 0 then (s_M_number_b72 (4) (sV (sV S 5 ((S.1 5) + (0 : Int32))) 6 (0 : Int32)) (0 : Int32) (0 : Int32) (0 : Int32)) else (s_M_number_b72 (4) (sV (sV S 5 ((S.1 5) + (0 : Int32))) 6 (1 : Int32)) (0 : Int32) (0 : Int32) (0 : Int32)))) else (if a1 = 0 then (if (S.1 6) = 0 then (s_M_number_b72 (4) (sV (sV S 5 ((S.1 5) + (0 : Int32))) 6 (0 : Int32)) (0 : Int32) (0 : Int32) (0 : Int32)) else (if (s_M_isFigure (sV S 5 ((S.1 5) + (0 : Int32)))) = 0 then (s_M_number_b72 (4) (sV (sV S 5 ((S.1 5) + (0 : Int32))) 6 (0 : Int32)) (0 : Int32) (0 : Int32) (0 : Int32)) else (s_M_number_b72 (4) (sV (sV S 5 ((S.1 5) + (0 : Int32))) 6 (1 : Int32)) (0 : Int32) (0 : Int32) (0 : Int32)))) else (if (s_M_here S) = (45 : Int32) then (if (S.1 6) = 0 then (s_M_number_b72 (4) (sV (sV S 5 ((S.1 5) + (1 : Int32))) 6 (0 : Int32)) (1 : Int32) (0 : Int32) (0 : Int32)) else (if (s_M_isFigure (sV S 5 ((S.1 5) + (1 : Int32)))) = 0 then (s_M_number_b72 (4) (sV (sV S 5 ((S.1 5) + (1 : Int32))) 6 (0 : Int32)) (1 : Int32) (0 : Int32) (0 : Int32)) else (s_M_number_b72 (4) (sV (sV S 5 ((S.1 5) + (1 : Int32))) 6 (1 : Int32)) (1 : Int32) (0 : Int32) (0 : Int32)))) else (if (S.1 6) = 0 then (s_M_number_b72 (4) (sV (sV S 5 ((S.1 5) + (0 : Int32))) 6 (0 : Int32)) (0 : Int32) (0 : Int32) (0 : Int32)) else (if (s_M_isFigure (sV S 5 ((S.1 5) + (0 : Int32)))) = 0 then (s_M_number_b72 (4) (sV (sV S 5 ((S.1 5) + (0 : Int32))) 6 (0 : Int32)) (0 : Int32) (0 : Int32) (0 : Int32)) else (s_M_number_b72 (4) (sV (sV S 5 ((S.1 5) + (0 : Int32))) 6 (1 : Int32)) (0 : Int32) (0 : Int32) (0 : Int32)))))))
set_option maxRecDepth 20000 in
theorem c_M_number (l : Launch) (E : Cx) (ad : Nat → Nat) (X : va_W) (S : St) (A : Nat → Prop) (a1 : Int32) (hT : TI S) : Met l y_M_number (Cond.code y_M_number b_M_number 5 (some .int) :: TB) (rk 2 45) (va_Pc [.ref (ad 0), .int a1] (preM E A (fun S => wm E ad S ++ X) S)) (va_Qi (fun r u => (r, u) = (s_M_number S a1)) (fun u t => va_P E.1 vwCl ((fun S => wm E ad S ++ X) u) t.heap) A) 0 0 A := by
  refine w_muI rfl (Nat.le_of_ble_eq_true rfl) rfl ?_
  intro p e s m args below meth c Q ls hx hb hml hts hown hP hK hD hS hl hend
  have hl : lv_has ls 5 [(0, .ref (ad 0)), (1, .int a1)] := hl
  have hP : va_P E.1 vwCl (wm E ad S ++ X) s.heap := hP
  have hown : s.vm.findClass R_M = some m.cls := hown
  have hD : ∀ S' : St, va_D A (wm E ad S' ++ X) := hD
  have b121 : ∀ (Z : St) (x2 : Int32) (x3 : Int32) (H : Heap) (locs : List Loc), va_P E.1 vwCl (wm E ad Z ++ X) H → va_S A s.heap H locs → ∀ (ls : Array Slot), lv_has ls 5 [(2, .int x2), (3, .int x3)] → (s_M_number S a1) = s_M_number_b121 Z x2 x3 → W p l e (rk 2 45) s m args below meth c H locs 0 0 Q (F0 m 121 ls []) := by
    intro Z x2 x3 H locs hP hS ls hl hq
    refine lv_iload_n hx hb d_M_number_121 rfl (lv_at hl 0 rfl) ?_
    refine lv_if_eq (tgt := 130) hx hb d_M_number_122 (by decide) (fun c_122 => ?_) (fun c_122 => ?_)
    · refine lv_iload_n hx hb d_M_number_130 rfl (lv_at hl 1 rfl) ?_
      exact hend _ _ _ _ _ _ (by rw [hq, s_M_number_b121, if_pos c_122]) hP hS d_M_number_131
    · refine lv_iload_n hx hb d_M_number_125 rfl (lv_at hl 1 rfl) ?_
      refine lv_ineg hx hb d_M_number_126 ?_
      refine lv_goto (tgt := 131) hx hb d_M_number_127 (by decide) ?_
      exact hend _ _ _ _ _ _ (by rw [hq, s_M_number_b121, if_neg c_122]) hP hS d_M_number_131
  have b72 : ∀ (n : Nat) (Z : St) (x2 : Int32) (x3 : Int32) (x4 : Int32) (H : Heap) (locs : List Loc), va_P E.1 vwCl (wm E ad Z ++ X) H → va_S A s.heap H locs → (UP n 3 x4) → (TI Z) → ∀ (ls : Array Slot), lv_has ls 5 [(0, .ref (ad 0)), (2, .int x2), (3, .int x3), (4, .int x4)] → (s_M_number S a1) = s_M_number_b72 n Z x2 x3 x4 → W p l e (rk 2 45) s m args below meth c H locs 0 0 Q (F0 m 72 ls []) := by
    intro n72
    induction n72 with
    | zero => intro Z x2 x3 x4 H locs hP hS hv; exact absurd hv (UP_z)
    | succ n72 ih72 =>
      intro Z x2 x3 x4 H locs hP hS hv hT ls hl hq
      refine lv_iload hx hb d_M_number_72 (lv_at hl 3 rfl) ?_
      refine lv_iconst (v := (3 : Int32)) hx hb d_M_number_74 rfl ?_
      refine lv_icmp_ge (tgt := 121) hx hb d_M_number_75 (by decide) (fun c_75 => ?_) (fun c_75 => ?_)
      · exact b121 Z x2 x3 H locs hP hS ls (lv_sub hl [1, 2] rfl) (by rw [hq, s_M_number_b72, if_pos c_75])
      · refine lv_aload_n hx hb d_M_number_78 rfl (lv_at hl 0 rfl) ?_
        refine g_M_goes hx hb hts hown hK hP d_M_number_79 ?_
        refine lv_if_eq (tgt := 121) hx hb d_M_number_82 (by decide) (fun c_82 => ?_) (fun c_82 => ?_)
        · exact b121 Z x2 x3 H locs hP hS ls (lv_sub hl [1, 2] rfl) (by rw [hq, s_M_number_b72, if_neg c_75, if_pos c_82])
        · refine lv_aload_n hx hb d_M_number_85 rfl (lv_at hl 0 rfl) ?_
          refine k_vi (rest := []) (c_M_isFigure l E ad X Z hT) mi_M_isFigure ml_M_227 hx hb hml hts hown hK hP rvM hl ⟨rfl, rfl⟩ ⟨(Nat.le_of_ble_eq_true rfl), (Nat.le_of_ble_eq_true rfl)⟩ ⟨Nat.zero_le _, Nat.zero_le _⟩ rfl (Nat.le_of_ble_eq_true rfl) rfl d_M_number_86 ?_
          refine lv_if_eq (tgt := 121) hx hb d_M_number_89 (by decide) (fun c_89 => ?_) (fun c_89 => ?_)
          · exact b121 Z x2 x3 H locs hP hS ls (lv_sub hl [1, 2] rfl) (by rw [hq, s_M_number_b72, if_neg c_75, if_neg c_82, if_pos c_89])
          · refine lv_bipush (v := (10 : Int32)) hx hb d_M_number_92 rfl ?_
            refine lv_iload_n hx hb d_M_number_94 rfl (lv_at hl 2 rfl) ?_
            refine lv_imul hx hb d_M_number_95 ?_
            refine lv_aload_n hx hb d_M_number_96 rfl (lv_at hl 0 rfl) ?_
            refine k_vi (rest := [.int ((10 : Int32) * x3)]) (c_M_here l E ad X Z hT) mi_M_here ml_M_220 hx hb hml hts hown hK hP rvM hl ⟨rfl, rfl⟩ ⟨(Nat.le_of_ble_eq_true rfl), (Nat.le_of_ble_eq_true rfl)⟩ ⟨Nat.zero_le _, Nat.zero_le _⟩ rfl (Nat.le_of_ble_eq_true rfl) rfl d_M_number_97 ?_
            refine lv_iadd hx hb d_M_number_100 ?_
            refine lv_bipush (v := (48 : Int32)) hx hb d_M_number_101 rfl ?_
            refine lv_isub hx hb d_M_number_103 ?_
            refine lv_istore_n (lv' := [(3, .int ((((10 : Int32) * x3) + (s_M_here Z)) - (48 : Int32))), (0, .ref (ad 0)), (2, .int x2), (4, .int x4)]) hx hb d_M_number_104 rfl hl (by decide) rfl (fun ls hl => ?_)
            refine lv_aload_n hx hb d_M_number_105 rfl (lv_at hl 1 rfl) ?_
            refine lv_dup hx hb d_M_number_106 rfl ?_
            refine g_M_at hx hb hts hown hK hP d_M_number_107 ?_
            refine lv_iconst (v := (1 : Int32)) hx hb d_M_number_110 rfl ?_
            refine lv_iadd hx hb d_M_number_111 ?_
            refine p_M_at hx hb hts hown hK hP hD hS d_M_number_112 (fun H locs hP hS => ?_)
            have hP : va_P E.1 vwCl (wm E ad (sV Z 5 ((Z.1 5) + (1 : Int32))) ++ X) H := hP
            refine lv_iinc (v := (x4 + 1)) (lv' := [(4, .int (x4 + 1)), (3, .int ((((10 : Int32) * x3) + (s_M_here Z)) - (48 : Int32))), (0, .ref (ad 0)), (2, .int x2)]) hx hb d_M_number_115 hl (k := 3) rfl rfl (by decide) rfl (fun ls hl => ?_)
            refine lv_goto (tgt := 72) hx hb d_M_number_118 (by decide) ?_
            exact ih72 (sV Z 5 ((Z.1 5) + (1 : Int32))) x2 ((((10 : Int32) * x3) + (s_M_here Z)) - (48 : Int32)) (x4 + 1) H locs hP hS (UP_up hv c_75) (TI_n1 hT (fig_lt c_89)) ls (lv_sub hl [2, 3, 1, 0] rfl) (by rw [hq, s_M_number_b72, if_neg c_75, if_neg c_82, if_neg c_89])
  refine lv_aload_n hx hb d_M_number_0 rfl (lv_at hl 0 rfl) ?_
  refine g_M_goes hx hb hts hown hK hP d_M_number_1 ?_
  refine lv_if_eq (tgt := 24) hx hb d_M_number_4 (by decide) (fun c_4 => ?_) (fun c_4 => ?_)
  · refine lv_iconst (v := (0 : Int32)) hx hb d_M_number_24 rfl ?_
    refine lv_istore_n (lv' := [(2, .int (0 : Int32)), (0, .ref (ad 0)), (1, .int a1)]) hx hb d_M_number_25 rfl hl (by decide) rfl (fun ls hl => ?_)
    refine lv_aload_n hx hb d_M_number_26 rfl (lv_at hl 1 rfl) ?_
    refine lv_dup hx hb d_M_number_27 rfl ?_
    refine g_M_at hx hb hts hown hK hP d_M_number_28 ?_
    refine lv_iload_n hx hb d_M_number_31 rfl (lv_at hl 0 rfl) ?_
    refine lv_if_eq (tgt := 39) hx hb d_M_number_32 (by decide) (fun c_32 => ?_) (fun c_32 => absurd c_32 (by decide))
    refine lv_iconst (v := (0 : Int32)) hx hb d_M_number_39 rfl ?_
    refine lv_iadd hx hb d_M_number_40 ?_
    refine p_M_at hx hb hts hown hK hP hD hS d_M_number_41 (fun H locs hP hS => ?_)
    have hP : va_P E.1 vwCl (wm E ad (sV S 5 ((S.1 5) + (0 : Int32))) ++ X) H := hP
    refine lv_aload_n hx hb d_M_number_44 rfl (lv_at hl 1 rfl) ?_
    refine lv_aload_n hx hb d_M_number_45 rfl (lv_at hl 1 rfl) ?_
    refine g_M_goes hx hb hts hown hK hP d_M_number_46 ?_
    refine k_topi (y := (S.1 6)) rfl ?_
    refine lv_if_eq (tgt := 63) hx hb d_M_number_49 (by decide) (fun c_49 => ?_) (fun c_49 => ?_)
    · refine lv_iconst (v := (0 : Int32)) hx hb d_M_number_63 rfl ?_
      refine p_M_goes hx hb hts hown hK hP hD hS (Or.inl rfl) d_M_number_64 (fun H locs hP hS => ?_)
      have hP : va_P E.1 vwCl (wm E ad (sV (sV S 5 ((S.1 5) + (0 : Int32))) 6 (0 : Int32)) ++ X) H := hP
      refine lv_iconst (v := (0 : Int32)) hx hb d_M_number_67 rfl ?_
      refine lv_istore_n (lv' := [(3, .int (0 : Int32)), (2, .int (0 : Int32)), (0, .ref (ad 0)), (1, .int a1)]) hx hb d_M_number_68 rfl hl (by decide) rfl (fun ls hl => ?_)
      refine lv_iconst (v := (0 : Int32)) hx hb d_M_number_69 rfl ?_
      refine lv_istore (lv' := [(4, .int (0 : Int32)), (3, .int (0 : Int32)), (2, .int (0 : Int32)), (0, .ref (ad 0)), (1, .int a1)]) hx hb d_M_number_70 hl (by decide) rfl (fun ls hl => ?_)
      exact b72 (4) (sV (sV S 5 ((S.1 5) + (0 : Int32))) 6 (0 : Int32)) (0 : Int32) (0 : Int32) (0 : Int32) H locs hP hS (UP_in' (by decide) (by decide)) (TI_g (by first | with_reducible exact TI_n0 hT | with_reducible exact TI_n1 hT (here_lt c_17 (by decide)))) ls (lv_sub hl [3, 2, 1, 0] rfl) (by rw [s_M_number, if_pos c_4, if_pos c_49])
    · refine lv_aload_n hx hb d_M_number_52 rfl (lv_at hl 1 rfl) ?_
      refine k_vi (rest := [.ref (ad 0)]) (c_M_isFigure l E ad X (sV S 5 ((S.1 5) + (0 : Int32))) (by first | with_reducible exact TI_n0 hT | with_reducible exact TI_n1 hT (here_lt c_17 (by decide)))) mi_M_isFigure ml_M_227 hx hb hml hts hown hK hP rvM hl ⟨rfl, rfl⟩ ⟨(Nat.le_of_ble_eq_true rfl), (Nat.le_of_ble_eq_true rfl)⟩ ⟨Nat.zero_le _, Nat.zero_le _⟩ rfl (Nat.le_of_ble_eq_true rfl) rfl d_M_number_53 ?_
      refine lv_if_eq (tgt := 63) hx hb d_M_number_56 (by decide) (fun c_56 => ?_) (fun c_56 => ?_)
      · refine lv_iconst (v := (0 : Int32)) hx hb d_M_number_63 rfl ?_
        refine p_M_goes hx hb hts hown hK hP hD hS (Or.inl rfl) d_M_number_64 (fun H locs hP hS => ?_)
        have hP : va_P E.1 vwCl (wm E ad (sV (sV S 5 ((S.1 5) + (0 : Int32))) 6 (0 : Int32)) ++ X) H := hP
        refine lv_iconst (v := (0 : Int32)) hx hb d_M_number_67 rfl ?_
        refine lv_istore_n (lv' := [(3, .int (0 : Int32)), (2, .int (0 : Int32)), (0, .ref (ad 0)), (1, .int a1)]) hx hb d_M_number_68 rfl hl (by decide) rfl (fun ls hl => ?_)
        refine lv_iconst (v := (0 : Int32)) hx hb d_M_number_69 rfl ?_
        refine lv_istore (lv' := [(4, .int (0 : Int32)), (3, .int (0 : Int32)), (2, .int (0 : Int32)), (0, .ref (ad 0)), (1, .int a1)]) hx hb d_M_number_70 hl (by decide) rfl (fun ls hl => ?_)
        exact b72 (4) (sV (sV S 5 ((S.1 5) + (0 : Int32))) 6 (0 : Int32)) (0 : Int32) (0 : Int32) (0 : Int32) H locs hP hS (UP_in' (by decide) (by decide)) (TI_g (by first | with_reducible exact TI_n0 hT | with_reducible exact TI_n1 hT (here_lt c_17 (by decide)))) ls (lv_sub hl [3, 2, 1, 0] rfl) (by rw [s_M_number, if_pos c_4, if_neg c_49, if_pos c_56])
      · refine lv_iconst (v := (1 : Int32)) hx hb d_M_number_59 rfl ?_
        refine lv_goto (tgt := 64) hx hb d_M_number_60 (by decide) ?_
        refine p_M_goes hx hb hts hown hK hP hD hS (Or.inr rfl) d_M_number_64 (fun H locs hP hS => ?_)
        have hP : va_P E.1 vwCl (wm E ad (sV (sV S 5 ((S.1 5) + (0 : Int32))) 6 (1 : Int32)) ++ X) H := hP
        refine lv_iconst (v := (0 : Int32)) hx hb d_M_number_67 rfl ?_
        refine lv_istore_n (lv' := [(3, .int (0 : Int32)), (2, .int (0 : Int32)), (0, .ref (ad 0)), (1, .int a1)]) hx hb d_M_number_68 rfl hl (by decide) rfl (fun ls hl => ?_)
        refine lv_iconst (v := (0 : Int32)) hx hb d_M_number_69 rfl ?_
        refine lv_istore (lv' := [(4, .int (0 : Int32)), (3, .int (0 : Int32)), (2, .int (0 : Int32)), (0, .ref (ad 0)), (1, .int a1)]) hx hb d_M_number_70 hl (by decide) rfl (fun ls hl => ?_)
        exact b72 (4) (sV (sV S 5 ((S.1 5) + (0 : Int32))) 6 (1 : Int32)) (0 : Int32) (0 : Int32) (0 : Int32) H locs hP hS (UP_in' (by decide) (by decide)) (TI_g (by first | with_reducible exact TI_n0 hT | with_reducible exact TI_n1 hT (here_lt c_17 (by decide)))) ls (lv_sub hl [3, 2, 1, 0] rfl) (by rw [s_M_number, if_pos c_4, if_neg c_49, if_neg c_56])
  · refine lv_iload_n hx hb d_M_number_7 rfl (lv_at hl 1 rfl) ?_
    refine lv_if_eq (tgt := 24) hx hb d_M_number_8 (by decide) (fun c_8 => ?_) (fun c_8 => ?_)
    · refine lv_iconst (v := (0 : Int32)) hx hb d_M_number_24 rfl ?_
      refine lv_istore_n (lv' := [(2, .int (0 : Int32)), (0, .ref (ad 0)), (1, .int a1)]) hx hb d_M_number_25 rfl hl (by decide) rfl (fun ls hl => ?_)
      refine lv_aload_n hx hb d_M_number_26 rfl (lv_at hl 1 rfl) ?_
      refine lv_dup hx hb d_M_number_27 rfl ?_
      refine g_M_at hx hb hts hown hK hP d_M_number_28 ?_
      refine lv_iload_n hx hb d_M_number_31 rfl (lv_at hl 0 rfl) ?_
      refine lv_if_eq (tgt := 39) hx hb d_M_number_32 (by decide) (fun c_32 => ?_) (fun c_32 => absurd c_32 (by decide))
      refine lv_iconst (v := (0 : Int32)) hx hb d_M_number_39 rfl ?_
      refine lv_iadd hx hb d_M_number_40 ?_
      refine p_M_at hx hb hts hown hK hP hD hS d_M_number_41 (fun H locs hP hS => ?_)
      have hP : va_P E.1 vwCl (wm E ad (sV S 5 ((S.1 5) + (0 : Int32))) ++ X) H := hP
      refine lv_aload_n hx hb d_M_number_44 rfl (lv_at hl 1 rfl) ?_
      refine lv_aload_n hx hb d_M_number_45 rfl (lv_at hl 1 rfl) ?_
      refine g_M_goes hx hb hts hown hK hP d_M_number_46 ?_
      refine k_topi (y := (S.1 6)) rfl ?_
      refine lv_if_eq (tgt := 63) hx hb d_M_number_49 (by decide) (fun c_49 => ?_) (fun c_49 => ?_)
      · refine lv_iconst (v := (0 : Int32)) hx hb d_M_number_63 rfl ?_
        refine p_M_goes hx hb hts hown hK hP hD hS (Or.inl rfl) d_M_number_64 (fun H locs hP hS => ?_)
        have hP : va_P E.1 vwCl (wm E ad (sV (sV S 5 ((S.1 5) + (0 : Int32))) 6 (0 : Int32)) ++ X) H := hP
        refine lv_iconst (v := (0 : Int32)) hx hb d_M_number_67 rfl ?_
        refine lv_istore_n (lv' := [(3, .int (0 : Int32)), (2, .int (0 : Int32)), (0, .ref (ad 0)), (1, .int a1)]) hx hb d_M_number_68 rfl hl (by decide) rfl (fun ls hl => ?_)
        refine lv_iconst (v := (0 : Int32)) hx hb d_M_number_69 rfl ?_
        refine lv_istore (lv' := [(4, .int (0 : Int32)), (3, .int (0 : Int32)), (2, .int (0 : Int32)), (0, .ref (ad 0)), (1, .int a1)]) hx hb d_M_number_70 hl (by decide) rfl (fun ls hl => ?_)
        exact b72 (4) (sV (sV S 5 ((S.1 5) + (0 : Int32))) 6 (0 : Int32)) (0 : Int32) (0 : Int32) (0 : Int32) H locs hP hS (UP_in' (by decide) (by decide)) (TI_g (by first | with_reducible exact TI_n0 hT | with_reducible exact TI_n1 hT (here_lt c_17 (by decide)))) ls (lv_sub hl [3, 2, 1, 0] rfl) (by rw [s_M_number, if_neg c_4, if_pos c_8, if_pos c_49])
      · refine lv_aload_n hx hb d_M_number_52 rfl (lv_at hl 1 rfl) ?_
        refine k_vi (rest := [.ref (ad 0)]) (c_M_isFigure l E ad X (sV S 5 ((S.1 5) + (0 : Int32))) (by first | with_reducible exact TI_n0 hT | with_reducible exact TI_n1 hT (here_lt c_17 (by decide)))) mi_M_isFigure ml_M_227 hx hb hml hts hown hK hP rvM hl ⟨rfl, rfl⟩ ⟨(Nat.le_of_ble_eq_true rfl), (Nat.le_of_ble_eq_true rfl)⟩ ⟨Nat.zero_le _, Nat.zero_le _⟩ rfl (Nat.le_of_ble_eq_true rfl) rfl d_M_number_53 ?_
        refine lv_if_eq (tgt := 63) hx hb d_M_number_56 (by decide) (fun c_56 => ?_) (fun c_56 => ?_)
        · refine lv_iconst (v := (0 : Int32)) hx hb d_M_number_63 rfl ?_
          refine p_M_goes hx hb hts hown hK hP hD hS (Or.inl rfl) d_M_number_64 (fun H locs hP hS => ?_)
          have hP : va_P E.1 vwCl (wm E ad (sV (sV S 5 ((S.1 5) + (0 : Int32))) 6 (0 : Int32)) ++ X) H := hP
          refine lv_iconst (v := (0 : Int32)) hx hb d_M_number_67 rfl ?_
          refine lv_istore_n (lv' := [(3, .int (0 : Int32)), (2, .int (0 : Int32)), (0, .ref (ad 0)), (1, .int a1)]) hx hb d_M_number_68 rfl hl (by decide) rfl (fun ls hl => ?_)
          refine lv_iconst (v := (0 : Int32)) hx hb d_M_number_69 rfl ?_
          refine lv_istore (lv' := [(4, .int (0 : Int32)), (3, .int (0 : Int32)), (2, .int (0 : Int32)), (0, .ref (ad 0)), (1, .int a1)]) hx hb d_M_number_70 hl (by decide) rfl (fun ls hl => ?_)
          exact b72 (4) (sV (sV S 5 ((S.1 5) + (0 : Int32))) 6 (0 : Int32)) (0 : Int32) (0 : Int32) (0 : Int32) H locs hP hS (UP_in' (by decide) (by decide)) (TI_g (by first | with_reducible exact TI_n0 hT | with_reducible exact TI_n1 hT (here_lt c_17 (by decide)))) ls (lv_sub hl [3, 2, 1, 0] rfl) (by rw [s_M_number, if_neg c_4, if_pos c_8, if_neg c_49, if_pos c_56])
        · refine lv_iconst (v := (1 : Int32)) hx hb d_M_number_59 rfl ?_
          refine lv_goto (tgt := 64) hx hb d_M_number_60 (by decide) ?_
          refine p_M_goes hx hb hts hown hK hP hD hS (Or.inr rfl) d_M_number_64 (fun H locs hP hS => ?_)
          have hP : va_P E.1 vwCl (wm E ad (sV (sV S 5 ((S.1 5) + (0 : Int32))) 6 (1 : Int32)) ++ X) H := hP
          refine lv_iconst (v := (0 : Int32)) hx hb d_M_number_67 rfl ?_
          refine lv_istore_n (lv' := [(3, .int (0 : Int32)), (2, .int (0 : Int32)), (0, .ref (ad 0)), (1, .int a1)]) hx hb d_M_number_68 rfl hl (by decide) rfl (fun ls hl => ?_)
          refine lv_iconst (v := (0 : Int32)) hx hb d_M_number_69 rfl ?_
          refine lv_istore (lv' := [(4, .int (0 : Int32)), (3, .int (0 : Int32)), (2, .int (0 : Int32)), (0, .ref (ad 0)), (1, .int a1)]) hx hb d_M_number_70 hl (by decide) rfl (fun ls hl => ?_)
          exact b72 (4) (sV (sV S 5 ((S.1 5) + (0 : Int32))) 6 (1 : Int32)) (0 : Int32) (0 : Int32) (0 : Int32) H locs hP hS (UP_in' (by decide) (by decide)) (TI_g (by first | with_reducible exact TI_n0 hT | with_reducible exact TI_n1 hT (here_lt c_17 (by decide)))) ls (lv_sub hl [3, 2, 1, 0] rfl) (by rw [s_M_number, if_neg c_4, if_pos c_8, if_neg c_49, if_neg c_56])
    · refine lv_aload_n hx hb d_M_number_11 rfl (lv_at hl 0 rfl) ?_
      refine k_vi (rest := []) (c_M_here l E ad X S (by assumption)) mi_M_here ml_M_220 hx hb hml hts hown hK hP rvM hl ⟨rfl, rfl⟩ ⟨(Nat.le_of_ble_eq_true rfl), (Nat.le_of_ble_eq_true rfl)⟩ ⟨Nat.zero_le _, Nat.zero_le _⟩ rfl (Nat.le_of_ble_eq_true rfl) rfl d_M_number_12 ?_
      refine lv_bipush (v := (45 : Int32)) hx hb d_M_number_15 rfl ?_
      refine lv_icmp_ne (tgt := 24) hx hb d_M_number_17 (by decide) (fun c_17 => ?_) (fun c_17 => ?_)
      · refine lv_iconst (v := (0 : Int32)) hx hb d_M_number_24 rfl ?_
        refine lv_istore_n (lv' := [(2, .int (0 : Int32)), (0, .ref (ad 0)), (1, .int a1)]) hx hb d_M_number_25 rfl hl (by decide) rfl (fun ls hl => ?_)
        refine lv_aload_n hx hb d_M_number_26 rfl (lv_at hl 1 rfl) ?_
        refine lv_dup hx hb d_M_number_27 rfl ?_
        refine g_M_at hx hb hts hown hK hP d_M_number_28 ?_
        refine lv_iload_n hx hb d_M_number_31 rfl (lv_at hl 0 rfl) ?_
        refine lv_if_eq (tgt := 39) hx hb d_M_number_32 (by decide) (fun c_32 => ?_) (fun c_32 => absurd c_32 (by decide))
        refine lv_iconst (v := (0 : Int32)) hx hb d_M_number_39 rfl ?_
        refine lv_iadd hx hb d_M_number_40 ?_
        refine p_M_at hx hb hts hown hK hP hD hS d_M_number_41 (fun H locs hP hS => ?_)
        have hP : va_P E.1 vwCl (wm E ad (sV S 5 ((S.1 5) + (0 : Int32))) ++ X) H := hP
        refine lv_aload_n hx hb d_M_number_44 rfl (lv_at hl 1 rfl) ?_
        refine lv_aload_n hx hb d_M_number_45 rfl (lv_at hl 1 rfl) ?_
        refine g_M_goes hx hb hts hown hK hP d_M_number_46 ?_
        refine k_topi (y := (S.1 6)) rfl ?_
        refine lv_if_eq (tgt := 63) hx hb d_M_number_49 (by decide) (fun c_49 => ?_) (fun c_49 => ?_)
        · refine lv_iconst (v := (0 : Int32)) hx hb d_M_number_63 rfl ?_
          refine p_M_goes hx hb hts hown hK hP hD hS (Or.inl rfl) d_M_number_64 (fun H locs hP hS => ?_)
          have hP : va_P E.1 vwCl (wm E ad (sV (sV S 5 ((S.1 5) + (0 : Int32))) 6 (0 : Int32)) ++ X) H := hP
          refine lv_iconst (v := (0 : Int32)) hx hb d_M_number_67 rfl ?_
          refine lv_istore_n (lv' := [(3, .int (0 : Int32)), (2, .int (0 : Int32)), (0, .ref (ad 0)), (1, .int a1)]) hx hb d_M_number_68 rfl hl (by decide) rfl (fun ls hl => ?_)
          refine lv_iconst (v := (0 : Int32)) hx hb d_M_number_69 rfl ?_
          refine lv_istore (lv' := [(4, .int (0 : Int32)), (3, .int (0 : Int32)), (2, .int (0 : Int32)), (0, .ref (ad 0)), (1, .int a1)]) hx hb d_M_number_70 hl (by decide) rfl (fun ls hl => ?_)
          exact b72 (4) (sV (sV S 5 ((S.1 5) + (0 : Int32))) 6 (0 : Int32)) (0 : Int32) (0 : Int32) (0 : Int32) H locs hP hS (UP_in' (by decide) (by decide)) (TI_g (by first | with_reducible exact TI_n0 hT | with_reducible exact TI_n1 hT (here_lt c_17 (by decide)))) ls (lv_sub hl [3, 2, 1, 0] rfl) (by rw [s_M_number, if_neg c_4, if_neg c_8, if_neg c_17, if_pos c_49])
        · refine lv_aload_n hx hb d_M_number_52 rfl (lv_at hl 1 rfl) ?_
          refine k_vi (rest := [.ref (ad 0)]) (c_M_isFigure l E ad X (sV S 5 ((S.1 5) + (0 : Int32))) (by first | with_reducible exact TI_n0 hT | with_reducible exact TI_n1 hT (here_lt c_17 (by decide)))) mi_M_isFigure ml_M_227 hx hb hml hts hown hK hP rvM hl ⟨rfl, rfl⟩ ⟨(Nat.le_of_ble_eq_true rfl), (Nat.le_of_ble_eq_true rfl)⟩ ⟨Nat.zero_le _, Nat.zero_le _⟩ rfl (Nat.le_of_ble_eq_true rfl) rfl d_M_number_53 ?_
          refine lv_if_eq (tgt := 63) hx hb d_M_number_56 (by decide) (fun c_56 => ?_) (fun c_56 => ?_)
          · refine lv_iconst (v := (0 : Int32)) hx hb d_M_number_63 rfl ?_
            refine p_M_goes hx hb hts hown hK hP hD hS (Or.inl rfl) d_M_number_64 (fun H locs hP hS => ?_)
            have hP : va_P E.1 vwCl (wm E ad (sV (sV S 5 ((S.1 5) + (0 : Int32))) 6 (0 : Int32)) ++ X) H := hP
            refine lv_iconst (v := (0 : Int32)) hx hb d_M_number_67 rfl ?_
            refine lv_istore_n (lv' := [(3, .int (0 : Int32)), (2, .int (0 : Int32)), (0, .ref (ad 0)), (1, .int a1)]) hx hb d_M_number_68 rfl hl (by decide) rfl (fun ls hl => ?_)
            refine lv_iconst (v := (0 : Int32)) hx hb d_M_number_69 rfl ?_
            refine lv_istore (lv' := [(4, .int (0 : Int32)), (3, .int (0 : Int32)), (2, .int (0 : Int32)), (0, .ref (ad 0)), (1, .int a1)]) hx hb d_M_number_70 hl (by decide) rfl (fun ls hl => ?_)
            exact b72 (4) (sV (sV S 5 ((S.1 5) + (0 : Int32))) 6 (0 : Int32)) (0 : Int32) (0 : Int32) (0 : Int32) H locs hP hS (UP_in' (by decide) (by decide)) (TI_g (by first | with_reducible exact TI_n0 hT | with_reducible exact TI_n1 hT (here_lt c_17 (by decide)))) ls (lv_sub hl [3, 2, 1, 0] rfl) (by rw [s_M_number, if_neg c_4, if_neg c_8, if_neg c_17, if_neg c_49, if_pos c_56])
          · refine lv_iconst (v := (1 : Int32)) hx hb d_M_number_59 rfl ?_
            refine lv_goto (tgt := 64) hx hb d_M_number_60 (by decide) ?_
            refine p_M_goes hx hb hts hown hK hP hD hS (Or.inr rfl) d_M_number_64 (fun H locs hP hS => ?_)
            have hP : va_P E.1 vwCl (wm E ad (sV (sV S 5 ((S.1 5) + (0 : Int32))) 6 (1 : Int32)) ++ X) H := hP
            refine lv_iconst (v := (0 : Int32)) hx hb d_M_number_67 rfl ?_
            refine lv_istore_n (lv' := [(3, .int (0 : Int32)), (2, .int (0 : Int32)), (0, .ref (ad 0)), (1, .int a1)]) hx hb d_M_number_68 rfl hl (by decide) rfl (fun ls hl => ?_)
            refine lv_iconst (v := (0 : Int32)) hx hb d_M_number_69 rfl ?_
            refine lv_istore (lv' := [(4, .int (0 : Int32)), (3, .int (0 : Int32)), (2, .int (0 : Int32)), (0, .ref (ad 0)), (1, .int a1)]) hx hb d_M_number_70 hl (by decide) rfl (fun ls hl => ?_)
            exact b72 (4) (sV (sV S 5 ((S.1 5) + (0 : Int32))) 6 (1 : Int32)) (0 : Int32) (0 : Int32) (0 : Int32) H locs hP hS (UP_in' (by decide) (by decide)) (TI_g (by first | with_reducible exact TI_n0 hT | with_reducible exact TI_n1 hT (here_lt c_17 (by decide)))) ls (lv_sub hl [3, 2, 1, 0] rfl) (by rw [s_M_number, if_neg c_4, if_neg c_8, if_neg c_17, if_neg c_49, if_neg c_56])
      · refine lv_iconst (v := (1 : Int32)) hx hb d_M_number_20 rfl ?_
        refine lv_goto (tgt := 25) hx hb d_M_number_21 (by decide) ?_
        refine lv_istore_n (lv' := [(2, .int (1 : Int32)), (0, .ref (ad 0)), (1, .int a1)]) hx hb d_M_number_25 rfl hl (by decide) rfl (fun ls hl => ?_)
        refine lv_aload_n hx hb d_M_number_26 rfl (lv_at hl 1 rfl) ?_
        refine lv_dup hx hb d_M_number_27 rfl ?_
        refine g_M_at hx hb hts hown hK hP d_M_number_28 ?_
        refine lv_iload_n hx hb d_M_number_31 rfl (lv_at hl 0 rfl) ?_
        refine lv_if_eq (tgt := 39) hx hb d_M_number_32 (by decide) (fun c_32 => absurd c_32 (by decide)) (fun c_32 => ?_)
        refine lv_iconst (v := (1 : Int32)) hx hb d_M_number_35 rfl ?_
        refine lv_goto (tgt := 40) hx hb d_M_number_36 (by decide) ?_
        refine lv_iadd hx hb d_M_number_40 ?_
        refine p_M_at hx hb hts hown hK hP hD hS d_M_number_41 (fun H locs hP hS => ?_)
        have hP : va_P E.1 vwCl (wm E ad (sV S 5 ((S.1 5) + (1 : Int32))) ++ X) H := hP
        refine lv_aload_n hx hb d_M_number_44 rfl (lv_at hl 1 rfl) ?_
        refine lv_aload_n hx hb d_M_number_45 rfl (lv_at hl 1 rfl) ?_
        refine g_M_goes hx hb hts hown hK hP d_M_number_46 ?_
        refine k_topi (y := (S.1 6)) rfl ?_
        refine lv_if_eq (tgt := 63) hx hb d_M_number_49 (by decide) (fun c_49 => ?_) (fun c_49 => ?_)
        · refine lv_iconst (v := (0 : Int32)) hx hb d_M_number_63 rfl ?_
          refine p_M_goes hx hb hts hown hK hP hD hS (Or.inl rfl) d_M_number_64 (fun H locs hP hS => ?_)
          have hP : va_P E.1 vwCl (wm E ad (sV (sV S 5 ((S.1 5) + (1 : Int32))) 6 (0 : Int32)) ++ X) H := hP
          refine lv_iconst (v := (0 : Int32)) hx hb d_M_number_67 rfl ?_
          refine lv_istore_n (lv' := [(3, .int (0 : Int32)), (2, .int (1 : Int32)), (0, .ref (ad 0)), (1, .int a1)]) hx hb d_M_number_68 rfl hl (by decide) rfl (fun ls hl => ?_)
          refine lv_iconst (v := (0 : Int32)) hx hb d_M_number_69 rfl ?_
          refine lv_istore (lv' := [(4, .int (0 : Int32)), (3, .int (0 : Int32)), (2, .int (1 : Int32)), (0, .ref (ad 0)), (1, .int a1)]) hx hb d_M_number_70 hl (by decide) rfl (fun ls hl => ?_)
          exact b72 (4) (sV (sV S 5 ((S.1 5) + (1 : Int32))) 6 (0 : Int32)) (1 : Int32) (0 : Int32) (0 : Int32) H locs hP hS (UP_in' (by decide) (by decide)) (TI_g (by first | with_reducible exact TI_n0 hT | with_reducible exact TI_n1 hT (here_lt c_17 (by decide)))) ls (lv_sub hl [3, 2, 1, 0] rfl) (by rw [s_M_number, if_neg c_4, if_neg c_8, if_pos c_17, if_pos c_49])
        · refine lv_aload_n hx hb d_M_number_52 rfl (lv_at hl 1 rfl) ?_
          refine k_vi (rest := [.ref (ad 0)]) (c_M_isFigure l E ad X (sV S 5 ((S.1 5) + (1 : Int32))) (by first | with_reducible exact TI_n0 hT | with_reducible exact TI_n1 hT (here_lt c_17 (by decide)))) mi_M_isFigure ml_M_227 hx hb hml hts hown hK hP rvM hl ⟨rfl, rfl⟩ ⟨(Nat.le_of_ble_eq_true rfl), (Nat.le_of_ble_eq_true rfl)⟩ ⟨Nat.zero_le _, Nat.zero_le _⟩ rfl (Nat.le_of_ble_eq_true rfl) rfl d_M_number_53 ?_
          refine lv_if_eq (tgt := 63) hx hb d_M_number_56 (by decide) (fun c_56 => ?_) (fun c_56 => ?_)
          · refine lv_iconst (v := (0 : Int32)) hx hb d_M_number_63 rfl ?_
            refine p_M_goes hx hb hts hown hK hP hD hS (Or.inl rfl) d_M_number_64 (fun H locs hP hS => ?_)
            have hP : va_P E.1 vwCl (wm E ad (sV (sV S 5 ((S.1 5) + (1 : Int32))) 6 (0 : Int32)) ++ X) H := hP
            refine lv_iconst (v := (0 : Int32)) hx hb d_M_number_67 rfl ?_
            refine lv_istore_n (lv' := [(3, .int (0 : Int32)), (2, .int (1 : Int32)), (0, .ref (ad 0)), (1, .int a1)]) hx hb d_M_number_68 rfl hl (by decide) rfl (fun ls hl => ?_)
            refine lv_iconst (v := (0 : Int32)) hx hb d_M_number_69 rfl ?_
            refine lv_istore (lv' := [(4, .int (0 : Int32)), (3, .int (0 : Int32)), (2, .int (1 : Int32)), (0, .ref (ad 0)), (1, .int a1)]) hx hb d_M_number_70 hl (by decide) rfl (fun ls hl => ?_)
            exact b72 (4) (sV (sV S 5 ((S.1 5) + (1 : Int32))) 6 (0 : Int32)) (1 : Int32) (0 : Int32) (0 : Int32) H locs hP hS (UP_in' (by decide) (by decide)) (TI_g (by first | with_reducible exact TI_n0 hT | with_reducible exact TI_n1 hT (here_lt c_17 (by decide)))) ls (lv_sub hl [3, 2, 1, 0] rfl) (by rw [s_M_number, if_neg c_4, if_neg c_8, if_pos c_17, if_neg c_49, if_pos c_56])
          · refine lv_iconst (v := (1 : Int32)) hx hb d_M_number_59 rfl ?_
            refine lv_goto (tgt := 64) hx hb d_M_number_60 (by decide) ?_
            refine p_M_goes hx hb hts hown hK hP hD hS (Or.inr rfl) d_M_number_64 (fun H locs hP hS => ?_)
            have hP : va_P E.1 vwCl (wm E ad (sV (sV S 5 ((S.1 5) + (1 : Int32))) 6 (1 : Int32)) ++ X) H := hP
            refine lv_iconst (v := (0 : Int32)) hx hb d_M_number_67 rfl ?_
            refine lv_istore_n (lv' := [(3, .int (0 : Int32)), (2, .int (1 : Int32)), (0, .ref (ad 0)), (1, .int a1)]) hx hb d_M_number_68 rfl hl (by decide) rfl (fun ls hl => ?_)
            refine lv_iconst (v := (0 : Int32)) hx hb d_M_number_69 rfl ?_
            refine lv_istore (lv' := [(4, .int (0 : Int32)), (3, .int (0 : Int32)), (2, .int (1 : Int32)), (0, .ref (ad 0)), (1, .int a1)]) hx hb d_M_number_70 hl (by decide) rfl (fun ls hl => ?_)
            exact b72 (4) (sV (sV S 5 ((S.1 5) + (1 : Int32))) 6 (1 : Int32)) (1 : Int32) (0 : Int32) (0 : Int32) H locs hP hS (UP_in' (by decide) (by decide)) (TI_g (by first | with_reducible exact TI_n0 hT | with_reducible exact TI_n1 hT (here_lt c_17 (by decide)))) ls (lv_sub hl [3, 2, 1, 0] rfl) (by rw [s_M_number, if_neg c_4, if_neg c_8, if_pos c_17, if_neg c_49, if_neg c_56])
