/-! by program (wip/whole/mdl.py) -/
def s_M_in (a0 : Int64) (a2 : Int64) (a4 : Int64) : Int32 := (if (lg_cmp a0 a2) < 0 then (0 : Int32) else (if 0 < (lg_cmp a0 a4) then (0 : Int32) else (1 : Int32)))
theorem z_M_in (a0 : Int64) (a2 : Int64) (a4 : Int64) : (s_M_in a0 a2 a4) = 0 ∨ (s_M_in a0 a2 a4) = 1 := by rw [s_M_in]; exact (ite_z (Or.inl rfl) (ite_z (Or.inl rfl) (Or.inr rfl)))
set_option maxRecDepth 20000 in
theorem c_M_in (l : Launch) (E : Cx) (a0 : Int64) (a2 : Int64) (a4 : Int64) : Met l y_M_in (Cond.code y_M_in b_M_in 6 (some .boolean) :: TB) (rk 0 0) (va_Pc [.long a0, .long a2, .long a4] (preR E [])) (vp_Si (fun r => r = (s_M_in a0 a2 a4))) 0 0 (fun _ => False) := by
  refine w_roI rfl (Nat.le_of_ble_eq_true rfl) (k_nb (z_M_in a0 a2 a4)) ?_
  intro p e s m args below meth c Q ls hx hb hml hts hown hP hK hl hend
  have hl : lv_has ls 6 [(0, .long a0), (2, .long a2), (4, .long a4)] := hl
  have hown : s.vm.findClass R_M = some m.cls := hown
  refine lv_lload_n hx hb d_M_in_0 rfl (lv_at hl 0 rfl) ?_
  refine lv_lload_n hx hb d_M_in_1 rfl (lv_at hl 1 rfl) ?_
  refine W.lcmp hx hb d_M_in_2 ?_
  refine lv_if_lt (tgt := 17) hx hb d_M_in_3 (by decide) (fun c_3 => ?_) (fun c_3 => ?_)
  · refine lv_iconst (v := (0 : Int32)) hx hb d_M_in_17 rfl ?_
    exact hend _ _ _ (by rw [s_M_in, if_pos c_3]) d_M_in_18
  · refine lv_lload_n hx hb d_M_in_6 rfl (lv_at hl 0 rfl) ?_
    refine lv_lload hx hb d_M_in_7 (lv_at hl 2 rfl) ?_
    refine W.lcmp hx hb d_M_in_9 ?_
    refine lv_if_gt (tgt := 17) hx hb d_M_in_10 (by decide) (fun c_10 => ?_) (fun c_10 => ?_)
    · refine lv_iconst (v := (0 : Int32)) hx hb d_M_in_17 rfl ?_
      exact hend _ _ _ (by rw [s_M_in, if_neg c_3, if_pos c_10]) d_M_in_18
    · refine lv_iconst (v := (1 : Int32)) hx hb d_M_in_13 rfl ?_
      refine lv_goto (tgt := 18) hx hb d_M_in_14 (by decide) ?_
      exact hend _ _ _ (by rw [s_M_in, if_neg c_3, if_neg c_10]) d_M_in_18
theorem in_1 {a b c : Int64} (h : ¬ s_M_in a b c = 0) : b.toInt ≤ a.toInt ∧ a.toInt ≤ c.toInt := by
  rw [s_M_in] at h
  by_cases h1 : lg_cmp a b < 0
  · rw [if_pos h1] at h; exact absurd rfl h
  · by_cases h2 : 0 < lg_cmp a c
    · rw [if_neg h1, if_pos h2] at h; exact absurd rfl h
    · rw [lcmp_lt, Int64.lt_iff_toInt_lt] at h1
      rw [lcmp_gt, Int64.lt_iff_toInt_lt] at h2
      exact ⟨by omega, by omega⟩
theorem in_0 {a b c : Int64} (h : s_M_in a b c = 0) : ¬ (b.toInt ≤ a.toInt ∧ a.toInt ≤ c.toInt) := by
  rw [s_M_in] at h
  by_cases h1 : lg_cmp a b < 0
  · rw [lcmp_lt, Int64.lt_iff_toInt_lt] at h1; omega
  · by_cases h2 : 0 < lg_cmp a c
    · rw [lcmp_gt, Int64.lt_iff_toInt_lt] at h2; omega
    · rw [if_neg h1, if_neg h2] at h; exact absurd h (by decide)

def s_M_copies_g_kept_b2 : Nat → St → Int32 → St
  | 0, Z, _ => Z
  | n + 1, Z, x2 => (if (53 : Int32) ≤ x2 then Z else (s_M_copies_g_kept_b2 n (sA Z 1 x2.toNatClampNeg (Z.2.1 0 x2.toNatClampNeg)) (x2 + 1)))
def s_M_copies_g_kept (S : St) : St := (s_M_copies_g_kept_b2 (54) S (0 : Int32))
set_option maxRecDepth 20000 in
theorem c_M_copies_g_kept (l : Launch) (E : Cx) (ad : Nat → Nat) (X : va_W) (S : St) (A : Nat → Prop) : Met l y_M_copies (Cond.code y_M_copies b_M_copies 3 none :: TB) (rk 0 0) (va_Pc [.ref (ad 1), .ref (ad 2)] (preM E A (fun S => wm E ad S ++ X) S)) (va_Qv (fun u => u = (s_M_copies_g_kept S)) (fun u t => va_P E.1 vwCl ((fun S => wm E ad S ++ X) u) t.heap) A) 0 0 A := by
  refine w_muV rfl (Nat.le_of_ble_eq_true rfl) ?_
  intro p e s m args below meth c Q ls hx hb hml hts hown hP hK hD hS hl hend
  have hl : lv_has ls 3 [(0, .ref (ad 1)), (1, .ref (ad 2))] := hl
  have hP : va_P E.1 vwCl (wm E ad S ++ X) s.heap := hP
  have hown : s.vm.findClass R_M = some m.cls := hown
  have hD : ∀ S' : St, va_D A (wm E ad S' ++ X) := hD
  have b2 : ∀ (n : Nat) (Z : St) (x2 : Int32) (H : Heap) (locs : List Loc), va_P E.1 vwCl (wm E ad Z ++ X) H → va_S A s.heap H locs → (UP n 53 x2) → ∀ (ls : Array Slot), lv_has ls 3 [(0, .ref (ad 1)), (1, .ref (ad 2)), (2, .int x2)] → (s_M_copies_g_kept S) = s_M_copies_g_kept_b2 n Z x2 → W p l e (rk 0 0) s m args below meth c H locs 0 0 Q (F0 m 2 ls []) := by
    intro n2
    induction n2 with
    | zero => intro Z x2 H locs hP hS hv; exact absurd hv (UP_z)
    | succ n2 ih2 =>
      intro Z x2 H locs hP hS hv ls hl hq
      refine lv_iload_n hx hb d_M_copies_2 rfl (lv_at hl 2 rfl) ?_
      refine lv_bipush (v := (53 : Int32)) hx hb d_M_copies_3 rfl ?_
      refine lv_icmp_ge (tgt := 20) hx hb d_M_copies_5 (by decide) (fun c_5 => ?_) (fun c_5 => ?_)
      · exact hend _ _ _ _ _ (by rw [hq, s_M_copies_g_kept_b2, if_pos c_5]) hP hS d_M_copies_20
      · refine lv_aload_n hx hb d_M_copies_8 rfl (lv_at hl 1 rfl) ?_
        refine lv_iload_n hx hb d_M_copies_9 rfl (lv_at hl 2 rfl) ?_
        refine lv_aload_n hx hb d_M_copies_10 rfl (lv_at hl 0 rfl) ?_
        refine lv_iload_n hx hb d_M_copies_11 rfl (lv_at hl 2 rfl) ?_
        refine lm_g hx hb hK hP (k := x2.toNatClampNeg) (v := (Z.2.1 0 x2.toNatClampNeg)) rfl rfl (vin_p (M := 53) (by decide) hv.2.2 c_5) d_M_copies_12 ?_
        refine am_kept hx hb hK hP hD hS (k := x2.toNatClampNeg) rfl (vin_p (M := 53) (by decide) hv.2.2 c_5) d_M_copies_13 (fun H locs hP hS => ?_)
        have hP : va_P E.1 vwCl (wm E ad (sA Z 1 x2.toNatClampNeg (Z.2.1 0 x2.toNatClampNeg)) ++ X) H := hP
        refine lv_iinc (v := (x2 + 1)) (lv' := [(2, .int (x2 + 1)), (0, .ref (ad 1)), (1, .ref (ad 2))]) hx hb d_M_copies_14 hl (k := 2) rfl rfl (by decide) rfl (fun ls hl => ?_)
        refine lv_goto (tgt := 2) hx hb d_M_copies_17 (by decide) ?_
        exact ih2 (sA Z 1 x2.toNatClampNeg (Z.2.1 0 x2.toNatClampNeg)) (x2 + 1) H locs hP hS (UP_up hv c_5) ls (lv_sub hl [1, 2, 0] rfl) (by rw [hq, s_M_copies_g_kept_b2, if_neg c_5])
  refine lv_iconst (v := (0 : Int32)) hx hb d_M_copies_0 rfl ?_
  refine lv_istore_n (lv' := [(2, .int (0 : Int32)), (0, .ref (ad 1)), (1, .ref (ad 2))]) hx hb d_M_copies_1 rfl hl (by decide) rfl (fun ls hl => ?_)
  exact b2 (54) S (0 : Int32) s.heap [] hP hS (UP_in' (by decide) (by decide)) ls (lv_sub hl [1, 2, 0] rfl) (by rw [s_M_copies_g_kept])

def s_M_copies_kept_g_b2 : Nat → St → Int32 → St
  | 0, Z, _ => Z
  | n + 1, Z, x2 => (if (53 : Int32) ≤ x2 then Z else (s_M_copies_kept_g_b2 n (sA Z 0 x2.toNatClampNeg (Z.2.1 1 x2.toNatClampNeg)) (x2 + 1)))
def s_M_copies_kept_g (S : St) : St := (s_M_copies_kept_g_b2 (54) S (0 : Int32))
set_option maxRecDepth 20000 in
theorem c_M_copies_kept_g (l : Launch) (E : Cx) (ad : Nat → Nat) (X : va_W) (S : St) (A : Nat → Prop) : Met l y_M_copies (Cond.code y_M_copies b_M_copies 3 none :: TB) (rk 0 0) (va_Pc [.ref (ad 2), .ref (ad 1)] (preM E A (fun S => wm E ad S ++ X) S)) (va_Qv (fun u => u = (s_M_copies_kept_g S)) (fun u t => va_P E.1 vwCl ((fun S => wm E ad S ++ X) u) t.heap) A) 0 0 A := by
  refine w_muV rfl (Nat.le_of_ble_eq_true rfl) ?_
  intro p e s m args below meth c Q ls hx hb hml hts hown hP hK hD hS hl hend
  have hl : lv_has ls 3 [(0, .ref (ad 2)), (1, .ref (ad 1))] := hl
  have hP : va_P E.1 vwCl (wm E ad S ++ X) s.heap := hP
  have hown : s.vm.findClass R_M = some m.cls := hown
  have hD : ∀ S' : St, va_D A (wm E ad S' ++ X) := hD
  have b2 : ∀ (n : Nat) (Z : St) (x2 : Int32) (H : Heap) (locs : List Loc), va_P E.1 vwCl (wm E ad Z ++ X) H → va_S A s.heap H locs → (UP n 53 x2) → ∀ (ls : Array Slot), lv_has ls 3 [(0, .ref (ad 2)), (1, .ref (ad 1)), (2, .int x2)] → (s_M_copies_kept_g S) = s_M_copies_kept_g_b2 n Z x2 → W p l e (rk 0 0) s m args below meth c H locs 0 0 Q (F0 m 2 ls []) := by
    intro n2
    induction n2 with
    | zero => intro Z x2 H locs hP hS hv; exact absurd hv (UP_z)
    | succ n2 ih2 =>
      intro Z x2 H locs hP hS hv ls hl hq
      refine lv_iload_n hx hb d_M_copies_2 rfl (lv_at hl 2 rfl) ?_
      refine lv_bipush (v := (53 : Int32)) hx hb d_M_copies_3 rfl ?_
      refine lv_icmp_ge (tgt := 20) hx hb d_M_copies_5 (by decide) (fun c_5 => ?_) (fun c_5 => ?_)
      · exact hend _ _ _ _ _ (by rw [hq, s_M_copies_kept_g_b2, if_pos c_5]) hP hS d_M_copies_20
      · refine lv_aload_n hx hb d_M_copies_8 rfl (lv_at hl 1 rfl) ?_
        refine lv_iload_n hx hb d_M_copies_9 rfl (lv_at hl 2 rfl) ?_
        refine lv_aload_n hx hb d_M_copies_10 rfl (lv_at hl 0 rfl) ?_
        refine lv_iload_n hx hb d_M_copies_11 rfl (lv_at hl 2 rfl) ?_
        refine lm_kept hx hb hK hP (k := x2.toNatClampNeg) (v := (Z.2.1 1 x2.toNatClampNeg)) rfl rfl (vin_p (M := 53) (by decide) hv.2.2 c_5) d_M_copies_12 ?_
        refine am_g hx hb hK hP hD hS (k := x2.toNatClampNeg) rfl (vin_p (M := 53) (by decide) hv.2.2 c_5) d_M_copies_13 (fun H locs hP hS => ?_)
        have hP : va_P E.1 vwCl (wm E ad (sA Z 0 x2.toNatClampNeg (Z.2.1 1 x2.toNatClampNeg)) ++ X) H := hP
        refine lv_iinc (v := (x2 + 1)) (lv' := [(2, .int (x2 + 1)), (0, .ref (ad 2)), (1, .ref (ad 1))]) hx hb d_M_copies_14 hl (k := 2) rfl rfl (by decide) rfl (fun ls hl => ?_)
        refine lv_goto (tgt := 2) hx hb d_M_copies_17 (by decide) ?_
        exact ih2 (sA Z 0 x2.toNatClampNeg (Z.2.1 1 x2.toNatClampNeg)) (x2 + 1) H locs hP hS (UP_up hv c_5) ls (lv_sub hl [1, 2, 0] rfl) (by rw [hq, s_M_copies_kept_g_b2, if_neg c_5])
  refine lv_iconst (v := (0 : Int32)) hx hb d_M_copies_0 rfl ?_
  refine lv_istore_n (lv' := [(2, .int (0 : Int32)), (0, .ref (ad 2)), (1, .ref (ad 1))]) hx hb d_M_copies_1 rfl hl (by decide) rfl (fun ls hl => ?_)
  exact b2 (54) S (0 : Int32) s.heap [] hP hS (UP_in' (by decide) (by decide)) ls (lv_sub hl [1, 2, 0] rfl) (by rw [s_M_copies_kept_g])

def s_M_copies_g_ahead_b2 : Nat → St → Int32 → St
  | 0, Z, _ => Z
  | n + 1, Z, x2 => (if (53 : Int32) ≤ x2 then Z else (s_M_copies_g_ahead_b2 n (sA Z 2 x2.toNatClampNeg (Z.2.1 0 x2.toNatClampNeg)) (x2 + 1)))
def s_M_copies_g_ahead (S : St) : St := (s_M_copies_g_ahead_b2 (54) S (0 : Int32))
set_option maxRecDepth 20000 in
theorem c_M_copies_g_ahead (l : Launch) (E : Cx) (ad : Nat → Nat) (X : va_W) (S : St) (A : Nat → Prop) : Met l y_M_copies (Cond.code y_M_copies b_M_copies 3 none :: TB) (rk 0 0) (va_Pc [.ref (ad 1), .ref (ad 3)] (preM E A (fun S => wm E ad S ++ X) S)) (va_Qv (fun u => u = (s_M_copies_g_ahead S)) (fun u t => va_P E.1 vwCl ((fun S => wm E ad S ++ X) u) t.heap) A) 0 0 A := by
  refine w_muV rfl (Nat.le_of_ble_eq_true rfl) ?_
  intro p e s m args below meth c Q ls hx hb hml hts hown hP hK hD hS hl hend
  have hl : lv_has ls 3 [(0, .ref (ad 1)), (1, .ref (ad 3))] := hl
  have hP : va_P E.1 vwCl (wm E ad S ++ X) s.heap := hP
  have hown : s.vm.findClass R_M = some m.cls := hown
  have hD : ∀ S' : St, va_D A (wm E ad S' ++ X) := hD
  have b2 : ∀ (n : Nat) (Z : St) (x2 : Int32) (H : Heap) (locs : List Loc), va_P E.1 vwCl (wm E ad Z ++ X) H → va_S A s.heap H locs → (UP n 53 x2) → ∀ (ls : Array Slot), lv_has ls 3 [(0, .ref (ad 1)), (1, .ref (ad 3)), (2, .int x2)] → (s_M_copies_g_ahead S) = s_M_copies_g_ahead_b2 n Z x2 → W p l e (rk 0 0) s m args below meth c H locs 0 0 Q (F0 m 2 ls []) := by
    intro n2
    induction n2 with
    | zero => intro Z x2 H locs hP hS hv; exact absurd hv (UP_z)
    | succ n2 ih2 =>
      intro Z x2 H locs hP hS hv ls hl hq
      refine lv_iload_n hx hb d_M_copies_2 rfl (lv_at hl 2 rfl) ?_
      refine lv_bipush (v := (53 : Int32)) hx hb d_M_copies_3 rfl ?_
      refine lv_icmp_ge (tgt := 20) hx hb d_M_copies_5 (by decide) (fun c_5 => ?_) (fun c_5 => ?_)
      · exact hend _ _ _ _ _ (by rw [hq, s_M_copies_g_ahead_b2, if_pos c_5]) hP hS d_M_copies_20
      · refine lv_aload_n hx hb d_M_copies_8 rfl (lv_at hl 1 rfl) ?_
        refine lv_iload_n hx hb d_M_copies_9 rfl (lv_at hl 2 rfl) ?_
        refine lv_aload_n hx hb d_M_copies_10 rfl (lv_at hl 0 rfl) ?_
        refine lv_iload_n hx hb d_M_copies_11 rfl (lv_at hl 2 rfl) ?_
        refine lm_g hx hb hK hP (k := x2.toNatClampNeg) (v := (Z.2.1 0 x2.toNatClampNeg)) rfl rfl (vin_p (M := 53) (by decide) hv.2.2 c_5) d_M_copies_12 ?_
        refine am_ahead hx hb hK hP hD hS (k := x2.toNatClampNeg) rfl (vin_p (M := 53) (by decide) hv.2.2 c_5) d_M_copies_13 (fun H locs hP hS => ?_)
        have hP : va_P E.1 vwCl (wm E ad (sA Z 2 x2.toNatClampNeg (Z.2.1 0 x2.toNatClampNeg)) ++ X) H := hP
        refine lv_iinc (v := (x2 + 1)) (lv' := [(2, .int (x2 + 1)), (0, .ref (ad 1)), (1, .ref (ad 3))]) hx hb d_M_copies_14 hl (k := 2) rfl rfl (by decide) rfl (fun ls hl => ?_)
        refine lv_goto (tgt := 2) hx hb d_M_copies_17 (by decide) ?_
        exact ih2 (sA Z 2 x2.toNatClampNeg (Z.2.1 0 x2.toNatClampNeg)) (x2 + 1) H locs hP hS (UP_up hv c_5) ls (lv_sub hl [1, 2, 0] rfl) (by rw [hq, s_M_copies_g_ahead_b2, if_neg c_5])
  refine lv_iconst (v := (0 : Int32)) hx hb d_M_copies_0 rfl ?_
  refine lv_istore_n (lv' := [(2, .int (0 : Int32)), (0, .ref (ad 1)), (1, .ref (ad 3))]) hx hb d_M_copies_1 rfl hl (by decide) rfl (fun ls hl => ?_)
  exact b2 (54) S (0 : Int32) s.heap [] hP hS (UP_in' (by decide) (by decide)) ls (lv_sub hl [1, 2, 0] rfl) (by rw [s_M_copies_g_ahead])

def s_M_copies_ahead_g_b2 : Nat → St → Int32 → St
  | 0, Z, _ => Z
  | n + 1, Z, x2 => (if (53 : Int32) ≤ x2 then Z else (s_M_copies_ahead_g_b2 n (sA Z 0 x2.toNatClampNeg (Z.2.1 2 x2.toNatClampNeg)) (x2 + 1)))
def s_M_copies_ahead_g (S : St) : St := (s_M_copies_ahead_g_b2 (54) S (0 : Int32))
set_option maxRecDepth 20000 in
theorem c_M_copies_ahead_g (l : Launch) (E : Cx) (ad : Nat → Nat) (X : va_W) (S : St) (A : Nat → Prop) : Met l y_M_copies (Cond.code y_M_copies b_M_copies 3 none :: TB) (rk 0 0) (va_Pc [.ref (ad 3), .ref (ad 1)] (preM E A (fun S => wm E ad S ++ X) S)) (va_Qv (fun u => u = (s_M_copies_ahead_g S)) (fun u t => va_P E.1 vwCl ((fun S => wm E ad S ++ X) u) t.heap) A) 0 0 A := by
  refine w_muV rfl (Nat.le_of_ble_eq_true rfl) ?_
  intro p e s m args below meth c Q ls hx hb hml hts hown hP hK hD hS hl hend
  have hl : lv_has ls 3 [(0, .ref (ad 3)), (1, .ref (ad 1))] := hl
  have hP : va_P E.1 vwCl (wm E ad S ++ X) s.heap := hP
  have hown : s.vm.findClass R_M = some m.cls := hown
  have hD : ∀ S' : St, va_D A (wm E ad S' ++ X) := hD
  have b2 : ∀ (n : Nat) (Z : St) (x2 : Int32) (H : Heap) (locs : List Loc), va_P E.1 vwCl (wm E ad Z ++ X) H → va_S A s.heap H locs → (UP n 53 x2) → ∀ (ls : Array Slot), lv_has ls 3 [(0, .ref (ad 3)), (1, .ref (ad 1)), (2, .int x2)] → (s_M_copies_ahead_g S) = s_M_copies_ahead_g_b2 n Z x2 → W p l e (rk 0 0) s m args below meth c H locs 0 0 Q (F0 m 2 ls []) := by
    intro n2
    induction n2 with
    | zero => intro Z x2 H locs hP hS hv; exact absurd hv (UP_z)
    | succ n2 ih2 =>
      intro Z x2 H locs hP hS hv ls hl hq
      refine lv_iload_n hx hb d_M_copies_2 rfl (lv_at hl 2 rfl) ?_
      refine lv_bipush (v := (53 : Int32)) hx hb d_M_copies_3 rfl ?_
      refine lv_icmp_ge (tgt := 20) hx hb d_M_copies_5 (by decide) (fun c_5 => ?_) (fun c_5 => ?_)
      · exact hend _ _ _ _ _ (by rw [hq, s_M_copies_ahead_g_b2, if_pos c_5]) hP hS d_M_copies_20
      · refine lv_aload_n hx hb d_M_copies_8 rfl (lv_at hl 1 rfl) ?_
        refine lv_iload_n hx hb d_M_copies_9 rfl (lv_at hl 2 rfl) ?_
        refine lv_aload_n hx hb d_M_copies_10 rfl (lv_at hl 0 rfl) ?_
        refine lv_iload_n hx hb d_M_copies_11 rfl (lv_at hl 2 rfl) ?_
        refine lm_ahead hx hb hK hP (k := x2.toNatClampNeg) (v := (Z.2.1 2 x2.toNatClampNeg)) rfl rfl (vin_p (M := 53) (by decide) hv.2.2 c_5) d_M_copies_12 ?_
        refine am_g hx hb hK hP hD hS (k := x2.toNatClampNeg) rfl (vin_p (M := 53) (by decide) hv.2.2 c_5) d_M_copies_13 (fun H locs hP hS => ?_)
        have hP : va_P E.1 vwCl (wm E ad (sA Z 0 x2.toNatClampNeg (Z.2.1 2 x2.toNatClampNeg)) ++ X) H := hP
        refine lv_iinc (v := (x2 + 1)) (lv' := [(2, .int (x2 + 1)), (0, .ref (ad 3)), (1, .ref (ad 1))]) hx hb d_M_copies_14 hl (k := 2) rfl rfl (by decide) rfl (fun ls hl => ?_)
        refine lv_goto (tgt := 2) hx hb d_M_copies_17 (by decide) ?_
        exact ih2 (sA Z 0 x2.toNatClampNeg (Z.2.1 2 x2.toNatClampNeg)) (x2 + 1) H locs hP hS (UP_up hv c_5) ls (lv_sub hl [1, 2, 0] rfl) (by rw [hq, s_M_copies_ahead_g_b2, if_neg c_5])
  refine lv_iconst (v := (0 : Int32)) hx hb d_M_copies_0 rfl ?_
  refine lv_istore_n (lv' := [(2, .int (0 : Int32)), (0, .ref (ad 3)), (1, .ref (ad 1))]) hx hb d_M_copies_1 rfl hl (by decide) rfl (fun ls hl => ?_)
  exact b2 (54) S (0 : Int32) s.heap [] hP hS (UP_in' (by decide) (by decide)) ls (lv_sub hl [1, 2, 0] rfl) (by rw [s_M_copies_ahead_g])

def s_M_isWheel (S : St) (a1 : Int32) : Int32 := (s_M_in (a1.toInt64) (0 : Int64) (((S.2.1 0 0) - (1 : Int32)).toInt64))
theorem z_M_isWheel (S : St) (a1 : Int32) : (s_M_isWheel S a1) = 0 ∨ (s_M_isWheel S a1) = 1 := by rw [s_M_isWheel]; exact (z_M_in (a1.toInt64) (0 : Int64) (((S.2.1 0 0) - (1 : Int32)).toInt64))
set_option maxRecDepth 20000 in
theorem c_M_isWheel (l : Launch) (E : Cx) (ad : Nat → Nat) (X : va_W) (S : St) (a1 : Int32) : Met l y_M_isWheel (Cond.code y_M_isWheel b_M_isWheel 2 (some .boolean) :: TB) (rk 1 25) (va_Pc [.ref (ad 0), .int a1] (preR E (wm E ad S ++ X))) (vp_Si (fun r => r = (s_M_isWheel S a1))) 0 0 (fun _ => False) := by
  refine w_roI rfl (Nat.le_of_ble_eq_true rfl) (k_nb (z_M_isWheel S a1)) ?_
  intro p e s m args below meth c Q ls hx hb hml hts hown hP hK hl hend
  have hl : lv_has ls 2 [(0, .ref (ad 0)), (1, .int a1)] := hl
  have hP : va_P E.1 vwCl (wm E ad S ++ X) s.heap := hP
  have hown : s.vm.findClass R_M = some m.cls := hown
  refine lv_iload_n hx hb d_M_isWheel_0 rfl (lv_at hl 1 rfl) ?_
  refine lv_i2l hx hb d_M_isWheel_1 rfl ?_
  refine lv_lconst (v := (0 : Int64)) hx hb d_M_isWheel_2 rfl ?_
  refine lv_aload_n hx hb d_M_isWheel_3 rfl (lv_at hl 0 rfl) ?_
  refine g_M_g hx hb hts hown hK hP d_M_isWheel_4 ?_
  refine lv_iconst (v := (0 : Int32)) hx hb d_M_isWheel_7 rfl ?_
  refine lm_g hx hb hK hP (k := 0) (v := (S.2.1 0 0)) rfl rfl (vin_k (by decide)) d_M_isWheel_8 ?_
  refine lv_iconst (v := (1 : Int32)) hx hb d_M_isWheel_9 rfl ?_
  refine lv_isub hx hb d_M_isWheel_10 ?_
  refine lv_i2l hx hb d_M_isWheel_11 rfl ?_
  refine k_si (rest := []) (c_M_in l E (a1.toInt64) (0 : Int64) (((S.2.1 0 0) - (1 : Int32)).toInt64)) mi_M_in ml_M_46 hx hb hml hts hown hK va_nil hl ⟨rfl, rfl⟩ ⟨(Nat.le_of_ble_eq_true rfl), (Nat.le_of_ble_eq_true rfl)⟩ ⟨Nat.zero_le _, Nat.zero_le _⟩ rfl (Nat.le_of_ble_eq_true rfl) rfl d_M_isWheel_12 ?_
  exact hend _ _ _ (by rw [s_M_isWheel]) d_M_isWheel_15
theorem isW {S : St} {w : Int32} (hG : GI (S.2.1 0)) (h : ¬ s_M_isWheel S w = 0) : wl (S.2.1 0) w := by
  rw [s_M_isWheel] at h
  have h1 := in_1 h
  have h2 := hG.1
  have e : (S.2.1 0 0 - 1).toInt = (S.2.1 0 0).toInt - 1 := by
    have o : (1 : Int32).toInt = 1 := by decide
    rw [Int32.toInt_sub, o]
    exact Int.bmod_eq_of_le (by omega) (by omega)
  rw [i64_of, i64_of, e, z64] at h1
  exact ⟨h1.1, by omega⟩
theorem isW16 {S : St} {w : Int32} (hG : GI (S.2.1 0)) (h : ¬ s_M_isWheel S w = 0) : w16 w := wl_w16 hG (isW hG h)

def s_M_teeth (S : St) (a1 : Int32) : Int32 := (S.2.1 0 ((1 : Int32) + a1).toNatClampNeg)
set_option maxRecDepth 20000 in
theorem c_M_teeth (l : Launch) (E : Cx) (ad : Nat → Nat) (X : va_W) (S : St) (a1 : Int32) (hw : w16 a1) : Met l y_M_teeth (Cond.code y_M_teeth b_M_teeth 2 (some .int) :: TB) (rk 0 0) (va_Pc [.ref (ad 0), .int a1] (preR E (wm E ad S ++ X))) (vp_Si (fun r => r = (s_M_teeth S a1))) 0 0 (fun _ => False) := by
  refine w_roI rfl (Nat.le_of_ble_eq_true rfl) rfl ?_
  intro p e s m args below meth c Q ls hx hb hml hts hown hP hK hl hend
  have hl : lv_has ls 2 [(0, .ref (ad 0)), (1, .int a1)] := hl
  have hP : va_P E.1 vwCl (wm E ad S ++ X) s.heap := hP
  have hown : s.vm.findClass R_M = some m.cls := hown
  refine lv_aload_n hx hb d_M_teeth_0 rfl (lv_at hl 0 rfl) ?_
  refine g_M_g hx hb hts hown hK hP d_M_teeth_1 ?_
  refine lv_iconst (v := (1 : Int32)) hx hb d_M_teeth_4 rfl ?_
  refine lv_iload_n hx hb d_M_teeth_5 rfl (lv_at hl 1 rfl) ?_
  refine lv_iadd hx hb d_M_teeth_6 ?_
  refine lm_g hx hb hK hP (k := ((1 : Int32) + a1).toNatClampNeg) (v := (S.2.1 0 ((1 : Int32) + a1).toNatClampNeg)) rfl rfl (ix_add hw (by decide)) d_M_teeth_7 ?_
  exact hend _ _ _ (by rw [s_M_teeth]) d_M_teeth_8

def s_M_isRing (S : St) (a1 : Int32) : Int32 := (if 0 ≤ (s_M_teeth S a1) then (0 : Int32) else (1 : Int32))
theorem z_M_isRing (S : St) (a1 : Int32) : (s_M_isRing S a1) = 0 ∨ (s_M_isRing S a1) = 1 := by rw [s_M_isRing]; exact (ite_z (Or.inl rfl) (Or.inr rfl))
set_option maxRecDepth 20000 in
theorem c_M_isRing (l : Launch) (E : Cx) (ad : Nat → Nat) (X : va_W) (S : St) (a1 : Int32) (hw : w16 a1) : Met l y_M_isRing (Cond.code y_M_isRing b_M_isRing 2 (some .boolean) :: TB) (rk 1 21) (va_Pc [.ref (ad 0), .int a1] (preR E (wm E ad S ++ X))) (vp_Si (fun r => r = (s_M_isRing S a1))) 0 0 (fun _ => False) := by
  refine w_roI rfl (Nat.le_of_ble_eq_true rfl) (k_nb (z_M_isRing S a1)) ?_
  intro p e s m args below meth c Q ls hx hb hml hts hown hP hK hl hend
  have hl : lv_has ls 2 [(0, .ref (ad 0)), (1, .int a1)] := hl
  have hP : va_P E.1 vwCl (wm E ad S ++ X) s.heap := hP
  have hown : s.vm.findClass R_M = some m.cls := hown
  refine lv_aload_n hx hb d_M_isRing_0 rfl (lv_at hl 0 rfl) ?_
  refine lv_iload_n hx hb d_M_isRing_1 rfl (lv_at hl 1 rfl) ?_
  refine k_vi (rest := []) (c_M_teeth l E ad X S a1 hw) mi_M_teeth ml_M_50 hx hb hml hts hown hK hP rvM hl ⟨rfl, rfl⟩ ⟨(Nat.le_of_ble_eq_true rfl), (Nat.le_of_ble_eq_true rfl)⟩ ⟨Nat.zero_le _, Nat.zero_le _⟩ rfl (Nat.le_of_ble_eq_true rfl) rfl d_M_isRing_2 ?_
  refine lv_if_ge (tgt := 12) hx hb d_M_isRing_5 (by decide) (fun c_5 => ?_) (fun c_5 => ?_)
  · refine lv_iconst (v := (0 : Int32)) hx hb d_M_isRing_12 rfl ?_
    exact hend _ _ _ (by rw [s_M_isRing, if_pos c_5]) d_M_isRing_13
  · refine lv_iconst (v := (1 : Int32)) hx hb d_M_isRing_8 rfl ?_
    refine lv_goto (tgt := 13) hx hb d_M_isRing_9 (by decide) ?_
    exact hend _ _ _ (by rw [s_M_isRing, if_neg c_5]) d_M_isRing_13

def s_M_size (S : St) (a1 : Int32) : Int32 := (if (s_M_isRing S a1) = 0 then (s_M_teeth S a1) else (-(s_M_teeth S a1)))
set_option maxRecDepth 20000 in
theorem c_M_size (l : Launch) (E : Cx) (ad : Nat → Nat) (X : va_W) (S : St) (a1 : Int32) (hw : w16 a1) : Met l y_M_size (Cond.code y_M_size b_M_size 2 (some .int) :: TB) (rk 2 42) (va_Pc [.ref (ad 0), .int a1] (preR E (wm E ad S ++ X))) (vp_Si (fun r => r = (s_M_size S a1))) 0 0 (fun _ => False) := by
  refine w_roI rfl (Nat.le_of_ble_eq_true rfl) rfl ?_
  intro p e s m args below meth c Q ls hx hb hml hts hown hP hK hl hend
  have hl : lv_has ls 2 [(0, .ref (ad 0)), (1, .int a1)] := hl
  have hP : va_P E.1 vwCl (wm E ad S ++ X) s.heap := hP
  have hown : s.vm.findClass R_M = some m.cls := hown
  refine lv_aload_n hx hb d_M_size_0 rfl (lv_at hl 0 rfl) ?_
  refine lv_iload_n hx hb d_M_size_1 rfl (lv_at hl 1 rfl) ?_
  refine k_vi (rest := []) (c_M_isRing l E ad X S a1 hw) mi_M_isRing ml_M_54 hx hb hml hts hown hK hP rvM hl ⟨rfl, rfl⟩ ⟨(Nat.le_of_ble_eq_true rfl), (Nat.le_of_ble_eq_true rfl)⟩ ⟨Nat.zero_le _, Nat.zero_le _⟩ rfl (Nat.le_of_ble_eq_true rfl) rfl d_M_size_2 ?_
  refine lv_if_eq (tgt := 17) hx hb d_M_size_5 (by decide) (fun c_5 => ?_) (fun c_5 => ?_)
  · refine lv_aload_n hx hb d_M_size_17 rfl (lv_at hl 0 rfl) ?_
    refine lv_iload_n hx hb d_M_size_18 rfl (lv_at hl 1 rfl) ?_
    refine k_vi (rest := []) (c_M_teeth l E ad X S a1 hw) mi_M_teeth ml_M_50 hx hb hml hts hown hK hP rvM hl ⟨rfl, rfl⟩ ⟨(Nat.le_of_ble_eq_true rfl), (Nat.le_of_ble_eq_true rfl)⟩ ⟨Nat.zero_le _, Nat.zero_le _⟩ rfl (Nat.le_of_ble_eq_true rfl) rfl d_M_size_19 ?_
    exact hend _ _ _ (by rw [s_M_size, if_pos c_5]) d_M_size_22
  · refine lv_aload_n hx hb d_M_size_8 rfl (lv_at hl 0 rfl) ?_
    refine lv_iload_n hx hb d_M_size_9 rfl (lv_at hl 1 rfl) ?_
    refine k_vi (rest := []) (c_M_teeth l E ad X S a1 hw) mi_M_teeth ml_M_50 hx hb hml hts hown hK hP rvM hl ⟨rfl, rfl⟩ ⟨(Nat.le_of_ble_eq_true rfl), (Nat.le_of_ble_eq_true rfl)⟩ ⟨Nat.zero_le _, Nat.zero_le _⟩ rfl (Nat.le_of_ble_eq_true rfl) rfl d_M_size_10 ?_
    refine lv_ineg hx hb d_M_size_13 ?_
    refine lv_goto (tgt := 22) hx hb d_M_size_14 (by decide) ?_
    exact hend _ _ _ (by rw [s_M_size, if_neg c_5]) d_M_size_22

def s_M_becomes (S : St) (a1 : Int32) (a2 : Int32) : Int32 × St := ((S.2.1 0 a1.toNatClampNeg), (sA S 0 a1.toNatClampNeg a2))
set_option maxRecDepth 20000 in
theorem c_M_becomes (l : Launch) (E : Cx) (ad : Nat → Nat) (X : va_W) (S : St) (A : Nat → Prop) (a1 : Int32) (a2 : Int32) (hp : vp_in a1 53) : Met l y_M_becomes (Cond.code y_M_becomes b_M_becomes 4 (some .int) :: TB) (rk 0 0) (va_Pc [.ref (ad 0), .int a1, .int a2] (preM E A (fun S => wm E ad S ++ X) S)) (va_Qi (fun r u => (r, u) = (s_M_becomes S a1 a2)) (fun u t => va_P E.1 vwCl ((fun S => wm E ad S ++ X) u) t.heap) A) 0 0 A := by
  refine w_muI rfl (Nat.le_of_ble_eq_true rfl) rfl ?_
  intro p e s m args below meth c Q ls hx hb hml hts hown hP hK hD hS hl hend
  have hl : lv_has ls 4 [(0, .ref (ad 0)), (1, .int a1), (2, .int a2)] := hl
  have hP : va_P E.1 vwCl (wm E ad S ++ X) s.heap := hP
  have hown : s.vm.findClass R_M = some m.cls := hown
  have hD : ∀ S' : St, va_D A (wm E ad S' ++ X) := hD
  refine lv_aload_n hx hb d_M_becomes_0 rfl (lv_at hl 0 rfl) ?_
  refine g_M_g hx hb hts hown hK hP d_M_becomes_1 ?_
  refine lv_iload_n hx hb d_M_becomes_4 rfl (lv_at hl 1 rfl) ?_
  refine lm_g hx hb hK hP (k := a1.toNatClampNeg) (v := (S.2.1 0 a1.toNatClampNeg)) rfl rfl hp d_M_becomes_5 ?_
  refine lv_istore_n (lv' := [(3, .int (S.2.1 0 a1.toNatClampNeg)), (0, .ref (ad 0)), (1, .int a1), (2, .int a2)]) hx hb d_M_becomes_6 rfl hl (by decide) rfl (fun ls hl => ?_)
  refine lv_aload_n hx hb d_M_becomes_7 rfl (lv_at hl 1 rfl) ?_
  refine g_M_g hx hb hts hown hK hP d_M_becomes_8 ?_
  refine lv_iload_n hx hb d_M_becomes_11 rfl (lv_at hl 2 rfl) ?_
  refine lv_iload_n hx hb d_M_becomes_12 rfl (lv_at hl 3 rfl) ?_
  refine am_g hx hb hK hP hD hS (k := a1.toNatClampNeg) rfl hp d_M_becomes_13 (fun H locs hP hS => ?_)
  have hP : va_P E.1 vwCl (wm E ad (sA S 0 a1.toNatClampNeg a2) ++ X) H := hP
  refine lv_iload_n hx hb d_M_becomes_14 rfl (lv_at hl 0 rfl) ?_
  exact hend _ _ _ _ _ _ (by rw [s_M_becomes]) hP hS d_M_becomes_15
