/-! by program (wip/p32/cls.py) -/
def s_P_searched (S : St) (a1 : Int32) (a2 : Int32) (a3 : Int32) (a4 : Int32) (a5 : Int32) : Int32 × St := (if (s_H_isAsked a1 a2 a3 a4) = 0 then ((-1 : Int32), S) else (if a5 < 0 then ((-1 : Int32), S) else (if a5 ≤ (3 : Int32) then ((s_H_told (s_H_run S a1 a2 a3 a4) a5), (s_H_run S a1 a2 a3 a4)) else ((-1 : Int32), S))))
set_option maxRecDepth 20000 in
theorem c_P_searched (l : Launch) (E : Cx) (ad : Nat → Nat) (X : va_W) (S : St) (A : Nat → Prop) (a1 : Int32) (a2 : Int32) (a3 : Int32) (a4 : Int32) (a5 : Int32) : Met l y_P_searched (Cond.code y_P_searched b_P_searched 6 (some .int) :: TB) (rk 5 119) (va_Pc [.ref (ad 39), .int a1, .int a2, .int a3, .int a4, .int a5] (preM E A (fun S => wb E ad S ++ X) S)) (va_Qi (fun r u => (r, u) = (s_P_searched S a1 a2 a3 a4 a5)) (fun u t => va_P E.1 vwCl ((fun S => wb E ad S ++ X) u) t.heap) A) 0 0 A := by
  refine w_muI rfl (Nat.le_of_ble_eq_true rfl) rfl ?_
  intro p e s m args below meth c Q ls hx hb hml hts hown hP hK hD hS hl hend
  have hl : lv_has ls 6 [(0, .ref (ad 39)), (1, .int a1), (2, .int a2), (3, .int a3), (4, .int a4), (5, .int a5)] := hl
  have hP : va_P E.1 vwCl (wb E ad S ++ X) s.heap := hP
  have hown : s.vm.findClass R_P = some m.cls := hown
  have hD : ∀ S' : St, va_D A (wb E ad S' ++ X) := hD
  refine lv_iload_n hx hb d_P_searched_0 rfl (lv_at hl 1 rfl) ?_
  refine lv_iload_n hx hb d_P_searched_1 rfl (lv_at hl 2 rfl) ?_
  refine lv_iload_n hx hb d_P_searched_2 rfl (lv_at hl 3 rfl) ?_
  refine lv_iload hx hb d_P_searched_3 (lv_at hl 4 rfl) ?_
  refine k_si (rest := []) (c_H_isAsked l E a1 a2 a3 a4) mi_H_isAsked ml_P_161 hx hb hml hts hown hK va_nil hl ⟨rfl, rfl⟩ ⟨(Nat.le_of_ble_eq_true rfl), (Nat.le_of_ble_eq_true rfl)⟩ ⟨Nat.zero_le _, Nat.zero_le _⟩ rfl (Nat.le_of_ble_eq_true rfl) rfl d_P_searched_5 ?_
  refine lv_if_eq (tgt := 22) hx hb d_P_searched_8 (by decide) (fun c_8 => ?_) (fun c_8 => ?_)
  · refine lv_iconst (v := (-1 : Int32)) hx hb d_P_searched_22 rfl ?_
    exact hend _ _ _ _ _ _ (by rw [s_P_searched, if_pos c_8]) hP hS d_P_searched_23
  · refine lv_iload hx hb d_P_searched_11 (lv_at hl 5 rfl) ?_
    refine lv_if_lt (tgt := 22) hx hb d_P_searched_13 (by decide) (fun c_13 => ?_) (fun c_13 => ?_)
    · refine lv_iconst (v := (-1 : Int32)) hx hb d_P_searched_22 rfl ?_
      exact hend _ _ _ _ _ _ (by rw [s_P_searched, if_neg c_8, if_pos c_13]) hP hS d_P_searched_23
    · refine lv_iload hx hb d_P_searched_16 (lv_at hl 5 rfl) ?_
      refine lv_iconst (v := (3 : Int32)) hx hb d_P_searched_18 rfl ?_
      refine lv_icmp_le (tgt := 24) hx hb d_P_searched_19 (by decide) (fun c_19 => ?_) (fun c_19 => ?_)
      · refine lv_aload_n hx hb d_P_searched_24 rfl (lv_at hl 0 rfl) ?_
        refine g_P_search hx hb hts hown hK hP d_P_searched_25 ?_
        refine lv_iload_n hx hb d_P_searched_28 rfl (lv_at hl 1 rfl) ?_
        refine lv_iload_n hx hb d_P_searched_29 rfl (lv_at hl 2 rfl) ?_
        refine lv_iload_n hx hb d_P_searched_30 rfl (lv_at hl 3 rfl) ?_
        refine lv_iload hx hb d_P_searched_31 (lv_at hl 4 rfl) ?_
        refine k_mvv (rest := []) (c_H_run l E ad X S A a1 a2 a3 a4) mi_H_run ml_P_165 hx hb hml hts hown hK hP hD hS rvH hl ⟨rfl, rfl⟩ ⟨(Nat.le_of_ble_eq_true rfl), (Nat.le_of_ble_eq_true rfl)⟩ ⟨Nat.zero_le _, Nat.zero_le _⟩ rfl (Nat.le_of_ble_eq_true rfl) rfl d_P_searched_33 (fun H locs hP hS => ?_)
        have hP : va_P E.1 vwCl (wb E ad (s_H_run S a1 a2 a3 a4) ++ X) H := hP
        refine lv_aload_n hx hb d_P_searched_36 rfl (lv_at hl 0 rfl) ?_
        refine g_P_search hx hb hts hown hK hP d_P_searched_37 ?_
        refine lv_iload hx hb d_P_searched_40 (lv_at hl 5 rfl) ?_
        refine k_vi (rest := []) (c_H_told l E ad X (s_H_run S a1 a2 a3 a4) a5) mi_H_told ml_P_169 hx hb hml hts hown hK hP rvH hl ⟨rfl, rfl⟩ ⟨(Nat.le_of_ble_eq_true rfl), (Nat.le_of_ble_eq_true rfl)⟩ ⟨Nat.zero_le _, Nat.zero_le _⟩ rfl (Nat.le_of_ble_eq_true rfl) rfl d_P_searched_42 ?_
        exact hend _ _ _ _ _ _ (by rw [s_P_searched, if_neg c_8, if_neg c_13, if_pos c_19]) hP hS d_P_searched_45
      · refine lv_iconst (v := (-1 : Int32)) hx hb d_P_searched_22 rfl ?_
        exact hend _ _ _ _ _ _ (by rw [s_P_searched, if_neg c_8, if_neg c_13, if_neg c_19]) hP hS d_P_searched_23

def s_P_doActs_b13 : Nat → St → Int32 → Int32 × St
  | 0, Z, _ => (0, Z)
  | n + 1, Z, x1 => (if (s_X_acts Z) ≤ x1 then ((s_X_acts Z), Z) else (if (s_B_does Z (s_X_letterOf Z x1) (s_X_firstOf Z x1) (s_X_secondOf Z x1)).1 = 0 then (((-200 : Int32) - x1), (s_B_become_02 (s_B_does Z (s_X_letterOf Z x1) (s_X_firstOf Z x1) (s_X_secondOf Z x1)).2)) else (s_P_doActs_b13 n (s_B_does Z (s_X_letterOf Z x1) (s_X_firstOf Z x1) (s_X_secondOf Z x1)).2 (x1 + 1))))
def s_P_doActs (S : St) : Int32 × St := (s_P_doActs_b13 (((s_B_become_20 S).1 13).toInt.toNat + 1) (s_B_become_20 S) (0 : Int32))
set_option maxRecDepth 20000 in
theorem c_P_doActs (l : Launch) (E : Cx) (ad : Nat → Nat) (X : va_W) (S : St) (A : Nat → Prop) : Met l y_P_doActs (Cond.code y_P_doActs b_P_doActs 2 (some .int) :: TB) (rk 5 109) (va_Pc [.ref (ad 39)] (preM E A (fun S => wb E ad S ++ X) S)) (va_Qi (fun r u => (r, u) = (s_P_doActs S)) (fun u t => va_P E.1 vwCl ((fun S => wb E ad S ++ X) u) t.heap) A) 0 0 A := by
  refine w_muI rfl (Nat.le_of_ble_eq_true rfl) rfl ?_
  intro p e s m args below meth c Q ls hx hb hml hts hown hP hK hD hS hl hend
  have hl : lv_has ls 2 [(0, .ref (ad 39))] := hl
  have hP : va_P E.1 vwCl (wb E ad S ++ X) s.heap := hP
  have hown : s.vm.findClass R_P = some m.cls := hown
  have hD : ∀ S' : St, va_D A (wb E ad S' ++ X) := hD
  have b13 : ∀ (n : Nat) (Z : St) (x1 : Int32) (H : Heap) (locs : List Loc), va_P E.1 vwCl (wb E ad Z ++ X) H → va_S A s.heap H locs → (UP n (Z.1 13) x1) → ∀ (ls : Array Slot), lv_has ls 2 [(0, .ref (ad 39)), (1, .int x1)] → (s_P_doActs S) = s_P_doActs_b13 n Z x1 → W p l e (rk 5 109) s m args below meth c H locs 0 0 Q (F0 m 13 ls []) := by
    intro n13
    induction n13 with
    | zero => intro Z x1 H locs hP hS hv; exact absurd hv (UP_z)
    | succ n13 ih13 =>
      intro Z x1 H locs hP hS hv ls hl hq
      refine lv_iload_n hx hb d_P_doActs_13 rfl (lv_at hl 1 rfl) ?_
      refine lv_aload_n hx hb d_P_doActs_14 rfl (lv_at hl 0 rfl) ?_
      refine g_P_tape hx hb hts hown hK hP d_P_doActs_15 ?_
      refine k_vi (rest := [.int x1]) (c_X_acts l E ad X Z) mi_X_acts ml_P_187 hx hb hml hts hown hK hP rvX hl ⟨rfl, rfl⟩ ⟨(Nat.le_of_ble_eq_true rfl), (Nat.le_of_ble_eq_true rfl)⟩ ⟨Nat.zero_le _, Nat.zero_le _⟩ rfl (Nat.le_of_ble_eq_true rfl) rfl d_P_doActs_18 ?_
      refine lv_icmp_ge (tgt := 81) hx hb d_P_doActs_21 (by decide) (fun c_21 => ?_) (fun c_21 => ?_)
      · refine lv_aload_n hx hb d_P_doActs_81 rfl (lv_at hl 0 rfl) ?_
        refine g_P_tape hx hb hts hown hK hP d_P_doActs_82 ?_
        refine k_vi (rest := []) (c_X_acts l E ad X Z) mi_X_acts ml_P_187 hx hb hml hts hown hK hP rvX hl ⟨rfl, rfl⟩ ⟨(Nat.le_of_ble_eq_true rfl), (Nat.le_of_ble_eq_true rfl)⟩ ⟨Nat.zero_le _, Nat.zero_le _⟩ rfl (Nat.le_of_ble_eq_true rfl) rfl d_P_doActs_85 ?_
        exact hend _ _ _ _ _ _ (by rw [hq, s_P_doActs_b13, if_pos c_21]) hP hS d_P_doActs_88
      · refine lv_aload_n hx hb d_P_doActs_24 rfl (lv_at hl 0 rfl) ?_
        refine g_P_now hx hb hts hown hK hP d_P_doActs_25 ?_
        refine lv_aload_n hx hb d_P_doActs_28 rfl (lv_at hl 0 rfl) ?_
        refine g_P_tape hx hb hts hown hK hP d_P_doActs_29 ?_
        refine lv_iload_n hx hb d_P_doActs_32 rfl (lv_at hl 1 rfl) ?_
        refine k_vi (rest := [.ref (ad 40)]) (c_X_letterOf l E ad X Z x1) mi_X_letterOf ml_P_190 hx hb hml hts hown hK hP rvX hl ⟨rfl, rfl⟩ ⟨(Nat.le_of_ble_eq_true rfl), (Nat.le_of_ble_eq_true rfl)⟩ ⟨Nat.zero_le _, Nat.zero_le _⟩ rfl (Nat.le_of_ble_eq_true rfl) rfl d_P_doActs_33 ?_
        refine lv_aload_n hx hb d_P_doActs_36 rfl (lv_at hl 0 rfl) ?_
        refine g_P_tape hx hb hts hown hK hP d_P_doActs_37 ?_
        refine lv_iload_n hx hb d_P_doActs_40 rfl (lv_at hl 1 rfl) ?_
        refine k_vi (rest := [.int (s_X_letterOf Z x1), .ref (ad 40)]) (c_X_firstOf l E ad X Z x1) mi_X_firstOf ml_P_193 hx hb hml hts hown hK hP rvX hl ⟨rfl, rfl⟩ ⟨(Nat.le_of_ble_eq_true rfl), (Nat.le_of_ble_eq_true rfl)⟩ ⟨Nat.zero_le _, Nat.zero_le _⟩ rfl (Nat.le_of_ble_eq_true rfl) rfl d_P_doActs_41 ?_
        refine lv_aload_n hx hb d_P_doActs_44 rfl (lv_at hl 0 rfl) ?_
        refine g_P_tape hx hb hts hown hK hP d_P_doActs_45 ?_
        refine lv_iload_n hx hb d_P_doActs_48 rfl (lv_at hl 1 rfl) ?_
        refine k_vi (rest := [.int (s_X_firstOf Z x1), .int (s_X_letterOf Z x1), .ref (ad 40)]) (c_X_secondOf l E ad X Z x1) mi_X_secondOf ml_P_196 hx hb hml hts hown hK hP rvX hl ⟨rfl, rfl⟩ ⟨(Nat.le_of_ble_eq_true rfl), (Nat.le_of_ble_eq_true rfl)⟩ ⟨Nat.zero_le _, Nat.zero_le _⟩ rfl (Nat.le_of_ble_eq_true rfl) rfl d_P_doActs_49 ?_
        refine k_mvi (rest := []) (c_B_does l E ad X Z A (s_X_letterOf Z x1) (s_X_firstOf Z x1) (s_X_secondOf Z x1)) mi_B_does ml_P_199 hx hb hml hts hown hK hP hD hS rvB0 hl ⟨rfl, rfl⟩ ⟨(Nat.le_of_ble_eq_true rfl), (Nat.le_of_ble_eq_true rfl)⟩ ⟨Nat.zero_le _, Nat.zero_le _⟩ rfl (Nat.le_of_ble_eq_true rfl) rfl d_P_doActs_52 (fun H locs hP hS => ?_)
        have hP : va_P E.1 vwCl (wb E ad (s_B_does Z (s_X_letterOf Z x1) (s_X_firstOf Z x1) (s_X_secondOf Z x1)).2 ++ X) H := hP
        refine lv_if_ne (tgt := 75) hx hb d_P_doActs_55 (by decide) (fun c_55 => ?_) (fun c_55 => ?_)
        · refine lv_iinc (v := (x1 + 1)) (lv' := [(1, .int (x1 + 1)), (0, .ref (ad 39))]) hx hb d_P_doActs_75 hl (k := 1) rfl rfl (by decide) rfl (fun ls hl => ?_)
          refine lv_goto (tgt := 13) hx hb d_P_doActs_78 (by decide) ?_
          exact ih13 (s_B_does Z (s_X_letterOf Z x1) (s_X_firstOf Z x1) (s_X_secondOf Z x1)).2 (x1 + 1) H locs hP hS (by rw [does_13]; exact UP_up hv c_21) ls (lv_sub hl [1, 0] rfl) (by rw [hq, s_P_doActs_b13, if_neg c_21, if_neg c_55])
        · refine lv_aload_n hx hb d_P_doActs_58 rfl (lv_at hl 0 rfl) ?_
          refine g_P_now hx hb hts hown hK hP d_P_doActs_59 ?_
          refine lv_aload_n hx hb d_P_doActs_62 rfl (lv_at hl 0 rfl) ?_
          refine g_P_ahead hx hb hts hown hK hP d_P_doActs_63 ?_
          refine k_mvv (rest := []) (c_B_become_02 l E ad X (s_B_does Z (s_X_letterOf Z x1) (s_X_firstOf Z x1) (s_X_secondOf Z x1)).2 A) mi_B_become ml_P_183 hx hb hml hts hown hK hP hD hS rvB0 hl ⟨rfl, rfl⟩ ⟨(Nat.le_of_ble_eq_true rfl), (Nat.le_of_ble_eq_true rfl)⟩ ⟨Nat.zero_le _, Nat.zero_le _⟩ rfl (Nat.le_of_ble_eq_true rfl) rfl d_P_doActs_66 (fun H locs hP hS => ?_)
          have hP : va_P E.1 vwCl (wb E ad (s_B_become_02 (s_B_does Z (s_X_letterOf Z x1) (s_X_firstOf Z x1) (s_X_secondOf Z x1)).2) ++ X) H := hP
          refine lv_sipush (v := (-200 : Int32)) hx hb d_P_doActs_69 rfl ?_
          refine lv_iload_n hx hb d_P_doActs_72 rfl (lv_at hl 1 rfl) ?_
          refine lv_isub hx hb d_P_doActs_73 ?_
          exact hend _ _ _ _ _ _ (by rw [hq, s_P_doActs_b13, if_neg c_21, if_pos c_55]) hP hS d_P_doActs_74
  refine lv_aload_n hx hb d_P_doActs_0 rfl (lv_at hl 0 rfl) ?_
  refine g_P_ahead hx hb hts hown hK hP d_P_doActs_1 ?_
  refine lv_aload_n hx hb d_P_doActs_4 rfl (lv_at hl 0 rfl) ?_
  refine g_P_now hx hb hts hown hK hP d_P_doActs_5 ?_
  refine k_mvv (rest := []) (c_B_become_20 l E ad X S A) mi_B_become ml_P_183 hx hb hml hts hown hK hP hD hS rvB2 hl ⟨rfl, rfl⟩ ⟨(Nat.le_of_ble_eq_true rfl), (Nat.le_of_ble_eq_true rfl)⟩ ⟨Nat.zero_le _, Nat.zero_le _⟩ rfl (Nat.le_of_ble_eq_true rfl) rfl d_P_doActs_8 (fun H locs hP hS => ?_)
  have hP : va_P E.1 vwCl (wb E ad (s_B_become_20 S) ++ X) H := hP
  refine lv_iconst (v := (0 : Int32)) hx hb d_P_doActs_11 rfl ?_
  refine lv_istore_n (lv' := [(1, .int (0 : Int32)), (0, .ref (ad 39))]) hx hb d_P_doActs_12 rfl hl (by decide) rfl (fun ls hl => ?_)
  exact b13 (((s_B_become_20 S).1 13).toInt.toNat + 1) (s_B_become_20 S) (0 : Int32) H locs hP hS (UP_in (by decide)) ls (lv_sub hl [1, 0] rfl) (by rw [s_P_doActs])

def s_P_read (S : St) : Int32 × St := (if (s_X_parse S).1 < 0 then ((s_P_doActs (s_X_empty (s_X_parse S).2)).1, (s_P_doActs (s_X_empty (s_X_parse S).2)).2) else (((-100 : Int32) - (s_X_parse S).1), (s_X_empty (s_X_parse S).2)))
set_option maxRecDepth 20000 in
theorem c_P_read (l : Launch) (E : Cx) (ad : Nat → Nat) (X : va_W) (S : St) (A : Nat → Prop) : Met l y_P_read (Cond.code y_P_read b_P_read 2 (some .int) :: TB) (rk 6 131) (va_Pc [.ref (ad 39)] (preM E A (fun S => wb E ad S ++ X) S)) (va_Qi (fun r u => (r, u) = (s_P_read S)) (fun u t => va_P E.1 vwCl ((fun S => wb E ad S ++ X) u) t.heap) A) 0 0 A := by
  refine w_muI rfl (Nat.le_of_ble_eq_true rfl) rfl ?_
  intro p e s m args below meth c Q ls hx hb hml hts hown hP hK hD hS hl hend
  have hl : lv_has ls 2 [(0, .ref (ad 39))] := hl
  have hP : va_P E.1 vwCl (wb E ad S ++ X) s.heap := hP
  have hown : s.vm.findClass R_P = some m.cls := hown
  have hD : ∀ S' : St, va_D A (wb E ad S' ++ X) := hD
  refine lv_aload_n hx hb d_P_read_0 rfl (lv_at hl 0 rfl) ?_
  refine g_P_tape hx hb hts hown hK hP d_P_read_1 ?_
  refine k_mvi (rest := []) (c_X_parse l E ad X S A) mi_X_parse ml_P_174 hx hb hml hts hown hK hP hD hS rvX hl ⟨rfl, rfl⟩ ⟨(Nat.le_of_ble_eq_true rfl), (Nat.le_of_ble_eq_true rfl)⟩ ⟨Nat.zero_le _, Nat.zero_le _⟩ rfl (Nat.le_of_ble_eq_true rfl) rfl d_P_read_4 (fun H locs hP hS => ?_)
  have hP : va_P E.1 vwCl (wb E ad (s_X_parse S).2 ++ X) H := hP
  refine lv_istore_n (lv' := [(1, .int (s_X_parse S).1), (0, .ref (ad 39))]) hx hb d_P_read_7 rfl hl (by decide) rfl (fun ls hl => ?_)
  refine lv_aload_n hx hb d_P_read_8 rfl (lv_at hl 1 rfl) ?_
  refine g_P_tape hx hb hts hown hK hP d_P_read_9 ?_
  refine k_mvv (rest := []) (c_X_empty l E ad X (s_X_parse S).2 A) mi_X_empty ml_P_177 hx hb hml hts hown hK hP hD hS rvX hl ⟨rfl, rfl⟩ ⟨(Nat.le_of_ble_eq_true rfl), (Nat.le_of_ble_eq_true rfl)⟩ ⟨Nat.zero_le _, Nat.zero_le _⟩ rfl (Nat.le_of_ble_eq_true rfl) rfl d_P_read_12 (fun H locs hP hS => ?_)
  have hP : va_P E.1 vwCl (wb E ad (s_X_empty (s_X_parse S).2) ++ X) H := hP
  refine lv_iload_n hx hb d_P_read_15 rfl (lv_at hl 0 rfl) ?_
  refine lv_if_lt (tgt := 26) hx hb d_P_read_16 (by decide) (fun c_16 => ?_) (fun c_16 => ?_)
  · refine lv_aload_n hx hb d_P_read_26 rfl (lv_at hl 1 rfl) ?_
    refine k_mvi (rest := []) (c_P_doActs l E ad X (s_X_empty (s_X_parse S).2) A) mi_P_doActs ml_P_180 hx hb hml hts hown hK hP hD hS rvP hl ⟨rfl, rfl⟩ ⟨(Nat.le_of_ble_eq_true rfl), (Nat.le_of_ble_eq_true rfl)⟩ ⟨Nat.zero_le _, Nat.zero_le _⟩ rfl (Nat.le_of_ble_eq_true rfl) rfl d_P_read_27 (fun H locs hP hS => ?_)
    have hP : va_P E.1 vwCl (wb E ad (s_P_doActs (s_X_empty (s_X_parse S).2)).2 ++ X) H := hP
    exact hend _ _ _ _ _ _ (by rw [s_P_read, if_pos c_16]) hP hS d_P_read_30
  · refine lv_bipush (v := (-100 : Int32)) hx hb d_P_read_19 rfl ?_
    refine lv_iload_n hx hb d_P_read_21 rfl (lv_at hl 0 rfl) ?_
    refine lv_isub hx hb d_P_read_22 ?_
    refine lv_goto (tgt := 30) hx hb d_P_read_23 (by decide) ?_
    exact hend _ _ _ _ _ _ (by rw [s_P_read, if_neg c_16]) hP hS d_P_read_30

def s_P_rowAt (S : St) (a1 : Int32) : Option Nat := (if a1 < 0 then none else (if (3 : Int32) ≤ a1 then none else some ((32 + 2 * a1.toNatClampNeg))))
set_option maxRecDepth 20000 in
theorem c_P_rowAt (l : Launch) (E : Cx) (ad : Nat → Nat) (X : va_W) (S : St) (a1 : Int32) : Met l y_P_rowAt (Cond.code y_P_rowAt b_P_rowAt 2 (some (.object "PinionBench$Row")) :: TB) (rk 0 0) (va_Pc [.ref (ad 39), .int a1] (preR E (wb E ad S ++ X))) (va_Sq (fun r => r = (s_P_rowAt S a1).map ad)) 0 0 (fun _ => False) := by
  refine w_roQ rfl (Nat.le_of_ble_eq_true rfl) (Or.inl ⟨_, rfl⟩) ?_
  intro p e s m args below meth c Q ls hx hb hml hts hown hP hK hl hend
  have hl : lv_has ls 2 [(0, .ref (ad 39)), (1, .int a1)] := hl
  have hP : va_P E.1 vwCl (wb E ad S ++ X) s.heap := hP
  have hown : s.vm.findClass R_P = some m.cls := hown
  refine lv_iload_n hx hb d_P_rowAt_0 rfl (lv_at hl 1 rfl) ?_
  refine lv_if_lt (tgt := 22) hx hb d_P_rowAt_1 (by decide) (fun c_1 => ?_) (fun c_1 => ?_)
  · refine lv_null hx hb d_P_rowAt_22 ?_
    exact hend _ _ _ (by rw [s_P_rowAt, if_pos c_1]; rfl) d_P_rowAt_23
  · refine lv_iload_n hx hb d_P_rowAt_4 rfl (lv_at hl 1 rfl) ?_
    refine lv_aload_n hx hb d_P_rowAt_5 rfl (lv_at hl 0 rfl) ?_
    refine g_P_rows hx hb hts hown hK hP d_P_rowAt_6 ?_
    refine n_P_rows hx hb hK hP d_P_rowAt_9 ?_
    refine lv_icmp_ge (tgt := 22) hx hb d_P_rowAt_10 (by decide) (fun c_10 => ?_) (fun c_10 => ?_)
    · refine lv_null hx hb d_P_rowAt_22 ?_
      exact hend _ _ _ (by rw [s_P_rowAt, if_neg c_1, if_pos c_10]; rfl) d_P_rowAt_23
    · refine lv_aload_n hx hb d_P_rowAt_13 rfl (lv_at hl 0 rfl) ?_
      refine g_P_rows hx hb hts hown hK hP d_P_rowAt_14 ?_
      refine lv_iload_n hx hb d_P_rowAt_17 rfl (lv_at hl 1 rfl) ?_
      refine l_P_rows hx hb hK hP (vin_c (M := 3) (by decide) c_1 c_10) d_P_rowAt_18 ?_
      refine lv_goto (tgt := 23) hx hb d_P_rowAt_19 (by decide) ?_
      exact hend _ _ _ (by rw [s_P_rowAt, if_neg c_1, if_neg c_10]; rfl) d_P_rowAt_23
theorem ra_pos {S : St} {ad : Nat → Nat} {x : Int32} (h : 0 ≤ x ∧ x < 3) : va_rf ((s_P_rowAt S x).map ad) = .ref (ad (32 + 2 * x.toNatClampNeg)) := by
  have h1 : ¬ x < 0 := Int32.not_lt.mpr h.1
  have h2 : ¬ (3 : Int32) ≤ x := Int32.not_le.mpr h.2
  unfold s_P_rowAt
  rw [if_neg h1, if_neg h2]
  rfl
theorem ra_neg {S : St} {ad : Nat → Nat} {x : Int32} (h : ¬ (0 ≤ x ∧ x < 3)) : va_rf ((s_P_rowAt S x).map ad) = .null := by
  unfold s_P_rowAt
  by_cases h1 : x < 0
  · rw [if_pos h1]; rfl
  · by_cases h2 : (3 : Int32) ≤ x
    · rw [if_neg h1, if_pos h2]; rfl
    · exact absurd ⟨Int32.not_lt.mp h1, Int32.not_le.mp h2⟩ h

def s_P_row (S : St) (a1 : Int32) (a2 : Int32) : Int32 × St := (if 0 ≤ a1 ∧ a1 < 3 then (if a2 ≤ (20 : Int32) then (if (s_O_resize S a1.toNatClampNeg a2).1 = 0 then ((-14 : Int32), (s_O_resize S a1.toNatClampNeg a2).2) else ((1 : Int32), (s_O_resize S a1.toNatClampNeg a2).2)) else ((-1 : Int32), S)) else ((-1 : Int32), S))
set_option maxRecDepth 20000 in
theorem c_P_row (l : Launch) (E : Cx) (ad : Nat → Nat) (X : va_W) (S : St) (A : Nat → Prop) (a1 : Int32) (a2 : Int32) : Met l y_P_row (Cond.code y_P_row b_P_row 4 (some .int) :: TB) (rk 1 22) (va_Pc [.ref (ad 39), .int a1, .int a2] (preM E A (fun S => wb E ad S ++ X) S)) (va_Qi (fun r u => (r, u) = (s_P_row S a1 a2)) (fun u t => va_P E.1 vwCl ((fun S => wb E ad S ++ X) u) t.heap) A) 0 0 A := by
  refine w_muI rfl (Nat.le_of_ble_eq_true rfl) rfl ?_
  intro p e s m args below meth c Q ls hx hb hml hts hown hP hK hD hS hl hend
  have hl : lv_has ls 4 [(0, .ref (ad 39)), (1, .int a1), (2, .int a2)] := hl
  have hP : va_P E.1 vwCl (wb E ad S ++ X) s.heap := hP
  have hown : s.vm.findClass R_P = some m.cls := hown
  have hD : ∀ S' : St, va_D A (wb E ad S' ++ X) := hD
  refine lv_aload_n hx hb d_P_row_0 rfl (lv_at hl 0 rfl) ?_
  refine lv_iload_n hx hb d_P_row_1 rfl (lv_at hl 1 rfl) ?_
  refine k_vq (rest := []) (c_P_rowAt l E ad X S a1) mi_P_rowAt ml_P_202 hx hb hml hts hown hK hP rvP hl ⟨rfl, rfl⟩ ⟨(Nat.le_of_ble_eq_true rfl), (Nat.le_of_ble_eq_true rfl)⟩ ⟨Nat.zero_le _, Nat.zero_le _⟩ rfl (Nat.le_of_ble_eq_true rfl) rfl d_P_row_2 ?_
  by_cases hr : 0 ≤ a1 ∧ a1 < 3
  · rw [ra_pos hr]
    refine lv_astore_n (lv' := [(3, .ref (ad (32 + 2 * a1.toNatClampNeg))), (0, .ref (ad 39)), (1, .int a1), (2, .int a2)]) hx hb d_P_row_5 rfl hl (by decide) rfl (fun ls hl => ?_)
    refine lv_aload_n hx hb d_P_row_6 rfl (lv_at hl 0 rfl) ?_
    refine lv_ifnull hx hb d_P_row_7 ?_
    refine lv_iload_n hx hb d_P_row_10 rfl (lv_at hl 3 rfl) ?_
    refine lv_bipush (v := (20 : Int32)) hx hb d_P_row_11 rfl ?_
    refine lv_icmp_le (tgt := 18) hx hb d_P_row_13 (by decide) (fun c_13 => ?_) (fun c_13 => ?_)
    · refine lv_aload_n hx hb d_P_row_18 rfl (lv_at hl 0 rfl) ?_
      refine lv_iload_n hx hb d_P_row_19 rfl (lv_at hl 3 rfl) ?_
      refine k_mvi (rest := []) (c_O_resize l E ad X S A a1.toNatClampNeg (ra_lt hr) a2) mi_O_resize ml_P_206 hx hb hml hts hown hK hP hD hS (rvO (ra_lt hr)) hl ⟨rfl, rfl⟩ ⟨(Nat.le_of_ble_eq_true rfl), (Nat.le_of_ble_eq_true rfl)⟩ ⟨Nat.zero_le _, Nat.zero_le _⟩ rfl (Nat.le_of_ble_eq_true rfl) rfl d_P_row_20 (fun H locs hP hS => ?_)
      have hP : va_P E.1 vwCl (wb E ad (s_O_resize S a1.toNatClampNeg a2).2 ++ X) H := hP
      refine lv_if_eq (tgt := 30) hx hb d_P_row_23 (by decide) (fun c_23 => ?_) (fun c_23 => ?_)
      · refine lv_bipush (v := (-14 : Int32)) hx hb d_P_row_30 rfl ?_
        exact hend _ _ _ _ _ _ (by rw [s_P_row, if_pos hr, if_pos c_13, if_pos c_23]) hP hS d_P_row_32
      · refine lv_iconst (v := (1 : Int32)) hx hb d_P_row_26 rfl ?_
        refine lv_goto (tgt := 32) hx hb d_P_row_27 (by decide) ?_
        exact hend _ _ _ _ _ _ (by rw [s_P_row, if_pos hr, if_pos c_13, if_neg c_23]) hP hS d_P_row_32
    · refine lv_iconst (v := (-1 : Int32)) hx hb d_P_row_16 rfl ?_
      exact hend _ _ _ _ _ _ (by rw [s_P_row, if_pos hr, if_neg c_13]) hP hS d_P_row_17
  · rw [ra_neg hr]
    refine lv_astore_nN (lv' := [(3, .null), (0, .ref (ad 39)), (1, .int a1), (2, .int a2)]) hx hb d_P_row_5 rfl hl (by decide) rfl (fun ls hl => ?_)
    refine lv_aload_nN hx hb d_P_row_6 rfl (lv_at hl 0 rfl) ?_
    refine lv_ifnullN (tgt := 16) hx hb d_P_row_7 (by decide) ?_
    refine lv_iconst (v := (-1 : Int32)) hx hb d_P_row_16 rfl ?_
    exact hend _ _ _ _ _ _ (by rw [s_P_row, if_neg hr]) hP hS d_P_row_17

def s_P_put (S : St) (a1 : Int32) (a2 : Int32) (a3 : Int64) : Int32 × St := (if 0 ≤ a1 ∧ a1 < 3 then (if (s_O_isMissing S a1.toNatClampNeg) = 0 then (if (s_O_set S a1.toNatClampNeg a2 a3).1 = 0 then ((-13 : Int32), (s_O_set S a1.toNatClampNeg a2 a3).2) else ((1 : Int32), (s_O_set S a1.toNatClampNeg a2 a3).2)) else ((-11 : Int32), S)) else ((-1 : Int32), S))
set_option maxRecDepth 20000 in
theorem c_P_put (l : Launch) (E : Cx) (ad : Nat → Nat) (X : va_W) (S : St) (A : Nat → Prop) (a1 : Int32) (a2 : Int32) (a3 : Int64) : Met l y_P_put (Cond.code y_P_put b_P_put 6 (some .int) :: TB) (rk 2 45) (va_Pc [.ref (ad 39), .int a1, .int a2, .long a3] (preM E A (fun S => wb E ad S ++ X) S)) (va_Qi (fun r u => (r, u) = (s_P_put S a1 a2 a3)) (fun u t => va_P E.1 vwCl ((fun S => wb E ad S ++ X) u) t.heap) A) 0 0 A := by
  refine w_muI rfl (Nat.le_of_ble_eq_true rfl) rfl ?_
  intro p e s m args below meth c Q ls hx hb hml hts hown hP hK hD hS hl hend
  have hl : lv_has ls 6 [(0, .ref (ad 39)), (1, .int a1), (2, .int a2), (3, .long a3)] := hl
  have hP : va_P E.1 vwCl (wb E ad S ++ X) s.heap := hP
  have hown : s.vm.findClass R_P = some m.cls := hown
  have hD : ∀ S' : St, va_D A (wb E ad S' ++ X) := hD
  refine lv_aload_n hx hb d_P_put_0 rfl (lv_at hl 0 rfl) ?_
  refine lv_iload_n hx hb d_P_put_1 rfl (lv_at hl 1 rfl) ?_
  refine k_vq (rest := []) (c_P_rowAt l E ad X S a1) mi_P_rowAt ml_P_202 hx hb hml hts hown hK hP rvP hl ⟨rfl, rfl⟩ ⟨(Nat.le_of_ble_eq_true rfl), (Nat.le_of_ble_eq_true rfl)⟩ ⟨Nat.zero_le _, Nat.zero_le _⟩ rfl (Nat.le_of_ble_eq_true rfl) rfl d_P_put_2 ?_
  by_cases hr : 0 ≤ a1 ∧ a1 < 3
  · rw [ra_pos hr]
    refine lv_astore (lv' := [(5, .ref (ad (32 + 2 * a1.toNatClampNeg))), (0, .ref (ad 39)), (1, .int a1), (2, .int a2), (3, .long a3)]) hx hb d_P_put_5 hl (by decide) rfl (fun ls hl => ?_)
    refine lv_aload hx hb d_P_put_7 (lv_at hl 0 rfl) ?_
    refine lv_ifnonnull (tgt := 14) hx hb d_P_put_9 (by decide) ?_
    refine lv_aload hx hb d_P_put_14 (lv_at hl 0 rfl) ?_
    refine k_vi (rest := []) (c_O_isMissing l E ad X S a1.toNatClampNeg (ra_lt hr)) mi_O_isMissing ml_P_209 hx hb hml hts hown hK hP (rvO (ra_lt hr)) hl ⟨rfl, rfl⟩ ⟨(Nat.le_of_ble_eq_true rfl), (Nat.le_of_ble_eq_true rfl)⟩ ⟨Nat.zero_le _, Nat.zero_le _⟩ rfl (Nat.le_of_ble_eq_true rfl) rfl d_P_put_16 ?_
    refine lv_if_eq (tgt := 25) hx hb d_P_put_19 (by decide) (fun c_19 => ?_) (fun c_19 => ?_)
    · refine lv_aload hx hb d_P_put_25 (lv_at hl 0 rfl) ?_
      refine lv_iload_n hx hb d_P_put_27 rfl (lv_at hl 3 rfl) ?_
      refine lv_lload_n hx hb d_P_put_28 rfl (lv_at hl 4 rfl) ?_
      refine k_mvi (rest := []) (c_O_set l E ad X S A a1.toNatClampNeg (ra_lt hr) a2 a3) mi_O_set ml_P_213 hx hb hml hts hown hK hP hD hS (rvO (ra_lt hr)) hl ⟨rfl, rfl⟩ ⟨(Nat.le_of_ble_eq_true rfl), (Nat.le_of_ble_eq_true rfl)⟩ ⟨Nat.zero_le _, Nat.zero_le _⟩ rfl (Nat.le_of_ble_eq_true rfl) rfl d_P_put_29 (fun H locs hP hS => ?_)
      have hP : va_P E.1 vwCl (wb E ad (s_O_set S a1.toNatClampNeg a2 a3).2 ++ X) H := hP
      refine lv_if_eq (tgt := 39) hx hb d_P_put_32 (by decide) (fun c_32 => ?_) (fun c_32 => ?_)
      · refine lv_bipush (v := (-13 : Int32)) hx hb d_P_put_39 rfl ?_
        exact hend _ _ _ _ _ _ (by rw [s_P_put, if_pos hr, if_pos c_19, if_pos c_32]) hP hS d_P_put_41
      · refine lv_iconst (v := (1 : Int32)) hx hb d_P_put_35 rfl ?_
        refine lv_goto (tgt := 41) hx hb d_P_put_36 (by decide) ?_
        exact hend _ _ _ _ _ _ (by rw [s_P_put, if_pos hr, if_pos c_19, if_neg c_32]) hP hS d_P_put_41
    · refine lv_bipush (v := (-11 : Int32)) hx hb d_P_put_22 rfl ?_
      exact hend _ _ _ _ _ _ (by rw [s_P_put, if_pos hr, if_neg c_19]) hP hS d_P_put_24
  · rw [ra_neg hr]
    refine lv_astoreN (lv' := [(5, .null), (0, .ref (ad 39)), (1, .int a1), (2, .int a2), (3, .long a3)]) hx hb d_P_put_5 hl (by decide) rfl (fun ls hl => ?_)
    refine lv_aloadN hx hb d_P_put_7 (lv_at hl 0 rfl) ?_
    refine lv_ifnonnullN hx hb d_P_put_9 ?_
    refine lv_iconst (v := (-1 : Int32)) hx hb d_P_put_12 rfl ?_
    exact hend _ _ _ _ _ _ (by rw [s_P_put, if_neg hr]) hP hS d_P_put_13

def s_P_lay_b40 : Nat → St → Nat → Int32 → Int32 → Int32 × St
  | 0, Z, _, _, _ => (0, Z)
  | n + 1, Z, r2, x3, x4 => (if x3 ≤ x4 then (x3, Z) else (s_P_lay_b40 n (s_O_set Z r2 x4 ((s_B_teethOf Z x4).toInt64)).2 r2 x3 (x4 + 1)))
def s_P_lay (S : St) (a1 : Int32) : Int32 × St := (if 0 ≤ a1 ∧ a1 < 3 then (if (s_O_isMissing S a1.toNatClampNeg) = 0 then (s_P_lay_b40 (((if (s_B_size S) < (s_O_size S a1.toNatClampNeg) then (s_B_size S) else (s_O_size S a1.toNatClampNeg))).toInt.toNat + 1) S a1.toNatClampNeg (if (s_B_size S) < (s_O_size S a1.toNatClampNeg) then (s_B_size S) else (s_O_size S a1.toNatClampNeg)) (0 : Int32)) else ((-11 : Int32), S)) else ((-1 : Int32), S))
set_option maxRecDepth 20000 in
theorem c_P_lay (l : Launch) (E : Cx) (ad : Nat → Nat) (X : va_W) (S : St) (A : Nat → Prop) (a1 : Int32) : Met l y_P_lay (Cond.code y_P_lay b_P_lay 5 (some .int) :: TB) (rk 2 45) (va_Pc [.ref (ad 39), .int a1] (preM E A (fun S => wb E ad S ++ X) S)) (va_Qi (fun r u => (r, u) = (s_P_lay S a1)) (fun u t => va_P E.1 vwCl ((fun S => wb E ad S ++ X) u) t.heap) A) 0 0 A := by
  refine w_muI rfl (Nat.le_of_ble_eq_true rfl) rfl ?_
  intro p e s m args below meth c Q ls hx hb hml hts hown hP hK hD hS hl hend
  have hl : lv_has ls 5 [(0, .ref (ad 39)), (1, .int a1)] := hl
  have hP : va_P E.1 vwCl (wb E ad S ++ X) s.heap := hP
  have hown : s.vm.findClass R_P = some m.cls := hown
  have hD : ∀ S' : St, va_D A (wb E ad S' ++ X) := hD
  have b40 : ∀ (n : Nat) (Z : St) (r2 : Nat) (x3 : Int32) (x4 : Int32) (H : Heap) (locs : List Loc), va_P E.1 vwCl (wb E ad Z ++ X) H → va_S A s.heap H locs → (UP n x3 x4) → (r2 < 3) → ∀ (ls : Array Slot), lv_has ls 5 [(0, .ref (ad 39)), (2, .ref (ad (32 + 2 * r2))), (3, .int x3), (4, .int x4)] → (s_P_lay S a1) = s_P_lay_b40 n Z r2 x3 x4 → W p l e (rk 2 45) s m args below meth c H locs 0 0 Q (F0 m 40 ls []) := by
    intro n40
    induction n40 with
    | zero => intro Z r2 x3 x4 H locs hP hS hv; exact absurd hv (UP_z)
    | succ n40 ih40 =>
      intro Z r2 x3 x4 H locs hP hS hv hr2 ls hl hq
      refine lv_iload hx hb d_P_lay_40 (lv_at hl 3 rfl) ?_
      refine lv_iload_n hx hb d_P_lay_42 rfl (lv_at hl 2 rfl) ?_
      refine lv_icmp_ge (tgt := 69) hx hb d_P_lay_43 (by decide) (fun c_43 => ?_) (fun c_43 => ?_)
      · refine lv_iload_n hx hb d_P_lay_69 rfl (lv_at hl 2 rfl) ?_
        exact hend _ _ _ _ _ _ (by rw [hq, s_P_lay_b40, if_pos c_43]) hP hS d_P_lay_70
      · refine lv_aload_n hx hb d_P_lay_46 rfl (lv_at hl 1 rfl) ?_
        refine lv_iload hx hb d_P_lay_47 (lv_at hl 3 rfl) ?_
        refine lv_aload_n hx hb d_P_lay_49 rfl (lv_at hl 0 rfl) ?_
        refine g_P_now hx hb hts hown hK hP d_P_lay_50 ?_
        refine lv_iload hx hb d_P_lay_53 (lv_at hl 3 rfl) ?_
        refine k_vi (rest := [.int x4, .ref (ad (32 + 2 * r2))]) (c_B_teethOf l E ad X Z x4) mi_B_teethOf ml_P_232 hx hb hml hts hown hK hP rvB0 hl ⟨rfl, rfl⟩ ⟨(Nat.le_of_ble_eq_true rfl), (Nat.le_of_ble_eq_true rfl)⟩ ⟨Nat.zero_le _, Nat.zero_le _⟩ rfl (Nat.le_of_ble_eq_true rfl) rfl d_P_lay_55 ?_
        refine lv_i2l hx hb d_P_lay_58 rfl ?_
        refine k_mvi (rest := []) (c_O_set l E ad X Z A r2 hr2 x4 ((s_B_teethOf Z x4).toInt64)) mi_O_set ml_P_213 hx hb hml hts hown hK hP hD hS (rvO hr2) hl ⟨rfl, rfl⟩ ⟨(Nat.le_of_ble_eq_true rfl), (Nat.le_of_ble_eq_true rfl)⟩ ⟨Nat.zero_le _, Nat.zero_le _⟩ rfl (Nat.le_of_ble_eq_true rfl) rfl d_P_lay_59 (fun H locs hP hS => ?_)
        have hP : va_P E.1 vwCl (wb E ad (s_O_set Z r2 x4 ((s_B_teethOf Z x4).toInt64)).2 ++ X) H := hP
        refine lv_pop hx hb d_P_lay_62 rfl ?_
        refine lv_iinc (v := (x4 + 1)) (lv' := [(4, .int (x4 + 1)), (0, .ref (ad 39)), (2, .ref (ad (32 + 2 * r2))), (3, .int x3)]) hx hb d_P_lay_63 hl (k := 3) rfl rfl (by decide) rfl (fun ls hl => ?_)
        refine lv_goto (tgt := 40) hx hb d_P_lay_66 (by decide) ?_
        exact ih40 (s_O_set Z r2 x4 ((s_B_teethOf Z x4).toInt64)).2 r2 x3 (x4 + 1) H locs hP hS (UP_up hv c_43) hr2 ls (lv_sub hl [1, 2, 3, 0] rfl) (by rw [hq, s_P_lay_b40, if_neg c_43])
  refine lv_aload_n hx hb d_P_lay_0 rfl (lv_at hl 0 rfl) ?_
  refine lv_iload_n hx hb d_P_lay_1 rfl (lv_at hl 1 rfl) ?_
  refine k_vq (rest := []) (c_P_rowAt l E ad X S a1) mi_P_rowAt ml_P_202 hx hb hml hts hown hK hP rvP hl ⟨rfl, rfl⟩ ⟨(Nat.le_of_ble_eq_true rfl), (Nat.le_of_ble_eq_true rfl)⟩ ⟨Nat.zero_le _, Nat.zero_le _⟩ rfl (Nat.le_of_ble_eq_true rfl) rfl d_P_lay_2 ?_
  by_cases hr : 0 ≤ a1 ∧ a1 < 3
  · rw [ra_pos hr]
    refine lv_astore_n (lv' := [(2, .ref (ad (32 + 2 * a1.toNatClampNeg))), (0, .ref (ad 39)), (1, .int a1)]) hx hb d_P_lay_5 rfl hl (by decide) rfl (fun ls hl => ?_)
    refine lv_aload_n hx hb d_P_lay_6 rfl (lv_at hl 0 rfl) ?_
    refine lv_ifnonnull (tgt := 12) hx hb d_P_lay_7 (by decide) ?_
    refine lv_aload_n hx hb d_P_lay_12 rfl (lv_at hl 0 rfl) ?_
    refine k_vi (rest := []) (c_O_isMissing l E ad X S a1.toNatClampNeg (ra_lt hr)) mi_O_isMissing ml_P_209 hx hb hml hts hown hK hP (rvO (ra_lt hr)) hl ⟨rfl, rfl⟩ ⟨(Nat.le_of_ble_eq_true rfl), (Nat.le_of_ble_eq_true rfl)⟩ ⟨Nat.zero_le _, Nat.zero_le _⟩ rfl (Nat.le_of_ble_eq_true rfl) rfl d_P_lay_13 ?_
    refine lv_if_eq (tgt := 22) hx hb d_P_lay_16 (by decide) (fun c_16 => ?_) (fun c_16 => ?_)
    · refine lv_aload_n hx hb d_P_lay_22 rfl (lv_at hl 0 rfl) ?_
      refine k_vi (rest := []) (c_O_size l E ad X S a1.toNatClampNeg (ra_lt hr)) mi_O_size ml_P_223 hx hb hml hts hown hK hP (rvO (ra_lt hr)) hl ⟨rfl, rfl⟩ ⟨(Nat.le_of_ble_eq_true rfl), (Nat.le_of_ble_eq_true rfl)⟩ ⟨Nat.zero_le _, Nat.zero_le _⟩ rfl (Nat.le_of_ble_eq_true rfl) rfl d_P_lay_23 ?_
      refine lv_aload_n hx hb d_P_lay_26 rfl (lv_at hl 1 rfl) ?_
      refine g_P_now hx hb hts hown hK hP d_P_lay_27 ?_
      refine k_vi (rest := [.int (s_O_size S a1.toNatClampNeg)]) (c_B_size l E ad X S) mi_B_size ml_P_226 hx hb hml hts hown hK hP rvB0 hl ⟨rfl, rfl⟩ ⟨(Nat.le_of_ble_eq_true rfl), (Nat.le_of_ble_eq_true rfl)⟩ ⟨Nat.zero_le _, Nat.zero_le _⟩ rfl (Nat.le_of_ble_eq_true rfl) rfl d_P_lay_30 ?_
      refine va_mmin hx hb (hml.trans hl.1.symm) hown (hts _ ml_P_227) (hts _ st_mmin) (hts _ iz_Math) (hts _ co_mmin) (Nat.le_of_ble_eq_true rfl) (Nat.le_of_ble_eq_true rfl) (Nat.zero_le _) (Nat.zero_le _) d_P_lay_33 ?_
      refine lv_istore_n (lv' := [(3, .int (if (s_B_size S) < (s_O_size S a1.toNatClampNeg) then (s_B_size S) else (s_O_size S a1.toNatClampNeg))), (2, .ref (ad (32 + 2 * a1.toNatClampNeg))), (0, .ref (ad 39)), (1, .int a1)]) hx hb d_P_lay_36 rfl hl (by decide) rfl (fun ls hl => ?_)
      refine lv_iconst (v := (0 : Int32)) hx hb d_P_lay_37 rfl ?_
      refine lv_istore (lv' := [(4, .int (0 : Int32)), (3, .int (if (s_B_size S) < (s_O_size S a1.toNatClampNeg) then (s_B_size S) else (s_O_size S a1.toNatClampNeg))), (2, .ref (ad (32 + 2 * a1.toNatClampNeg))), (0, .ref (ad 39)), (1, .int a1)]) hx hb d_P_lay_38 hl (by decide) rfl (fun ls hl => ?_)
      exact b40 (((if (s_B_size S) < (s_O_size S a1.toNatClampNeg) then (s_B_size S) else (s_O_size S a1.toNatClampNeg))).toInt.toNat + 1) S a1.toNatClampNeg (if (s_B_size S) < (s_O_size S a1.toNatClampNeg) then (s_B_size S) else (s_O_size S a1.toNatClampNeg)) (0 : Int32) s.heap [] hP hS (UP_in (by decide)) (ra_lt hr) ls (lv_sub hl [3, 2, 1, 0] rfl) (by rw [s_P_lay, if_pos hr, if_pos c_16])
    · refine lv_bipush (v := (-11 : Int32)) hx hb d_P_lay_19 rfl ?_
      exact hend _ _ _ _ _ _ (by rw [s_P_lay, if_pos hr, if_neg c_16]) hP hS d_P_lay_21
  · rw [ra_neg hr]
    refine lv_astore_nN (lv' := [(2, .null), (0, .ref (ad 39)), (1, .int a1)]) hx hb d_P_lay_5 rfl hl (by decide) rfl (fun ls hl => ?_)
    refine lv_aload_nN hx hb d_P_lay_6 rfl (lv_at hl 0 rfl) ?_
    refine lv_ifnonnullN hx hb d_P_lay_7 ?_
    refine lv_iconst (v := (-1 : Int32)) hx hb d_P_lay_10 rfl ?_
    exact hend _ _ _ _ _ _ (by rw [s_P_lay, if_neg hr]) hP hS d_P_lay_11

def s_P_judge_b24 (S : St) : Nat → Nat → Int32 → Int32
  | 0, _, _ => 0
  | n + 1, r2, x3 => (if (s_O_size S r2) ≤ x3 then (-2 : Int32) else (if (s_B_hasWheel S x3) = 0 then x3 else (if (lg_cmp (s_O_at S r2 x3) ((s_B_teethOf S x3).toInt64)) = 0 then (s_P_judge_b24 S n r2 (x3 + 1)) else x3)))
def s_P_judge (S : St) (a1 : Int32) : Int32 := (if 0 ≤ a1 ∧ a1 < 3 then (if (s_O_isMissing S a1.toNatClampNeg) = 0 then (s_P_judge_b24 S ((S.1 (16 + a1.toNatClampNeg)).toInt.toNat + 1) a1.toNatClampNeg (0 : Int32)) else (-11 : Int32)) else (-1 : Int32))
set_option maxRecDepth 20000 in
theorem c_P_judge (l : Launch) (E : Cx) (ad : Nat → Nat) (X : va_W) (S : St) (a1 : Int32) : Met l y_P_judge (Cond.code y_P_judge b_P_judge 4 (some .int) :: TB) (rk 2 42) (va_Pc [.ref (ad 39), .int a1] (preR E (wb E ad S ++ X))) (vp_Si (fun r => r = (s_P_judge S a1))) 0 0 (fun _ => False) := by
  refine w_roI rfl (Nat.le_of_ble_eq_true rfl) rfl ?_
  intro p e s m args below meth c Q ls hx hb hml hts hown hP hK hl hend
  have hl : lv_has ls 4 [(0, .ref (ad 39)), (1, .int a1)] := hl
  have hP : va_P E.1 vwCl (wb E ad S ++ X) s.heap := hP
  have hown : s.vm.findClass R_P = some m.cls := hown
  have b24 : ∀ (n : Nat) (r2 : Nat) (x3 : Int32), (UP n (S.1 (16 + r2)) x3) → (r2 < 3) → ∀ (ls : Array Slot), lv_has ls 4 [(0, .ref (ad 39)), (2, .ref (ad (32 + 2 * r2))), (3, .int x3)] → (s_P_judge S a1) = s_P_judge_b24 S n r2 x3 → W p l e (rk 2 42) s m args below meth c s.heap [] 0 0 Q (F0 m 24 ls []) := by
    intro n24
    induction n24 with
    | zero => intro r2 x3 hv; exact absurd hv (UP_z)
    | succ n24 ih24 =>
      intro r2 x3 hv hr2 ls hl hq
      refine lv_iload_n hx hb d_P_judge_24 rfl (lv_at hl 2 rfl) ?_
      refine lv_aload_n hx hb d_P_judge_25 rfl (lv_at hl 1 rfl) ?_
      refine k_vi (rest := [.int x3]) (c_O_size l E ad X S r2 hr2) mi_O_size ml_P_223 hx hb hml hts hown hK hP (rvO hr2) hl ⟨rfl, rfl⟩ ⟨(Nat.le_of_ble_eq_true rfl), (Nat.le_of_ble_eq_true rfl)⟩ ⟨Nat.zero_le _, Nat.zero_le _⟩ rfl (Nat.le_of_ble_eq_true rfl) rfl d_P_judge_26 ?_
      refine lv_icmp_ge (tgt := 69) hx hb d_P_judge_29 (by decide) (fun c_29 => ?_) (fun c_29 => ?_)
      · refine lv_bipush (v := (-2 : Int32)) hx hb d_P_judge_69 rfl ?_
        exact hend _ _ _ (by rw [hq, s_P_judge_b24, if_pos c_29]) d_P_judge_71
      · refine lv_aload_n hx hb d_P_judge_32 rfl (lv_at hl 0 rfl) ?_
        refine g_P_now hx hb hts hown hK hP d_P_judge_33 ?_
        refine lv_iload_n hx hb d_P_judge_36 rfl (lv_at hl 2 rfl) ?_
        refine k_vi (rest := []) (c_B_hasWheel l E ad X S x3) mi_B_hasWheel ml_P_60 hx hb hml hts hown hK hP rvB0 hl ⟨rfl, rfl⟩ ⟨(Nat.le_of_ble_eq_true rfl), (Nat.le_of_ble_eq_true rfl)⟩ ⟨Nat.zero_le _, Nat.zero_le _⟩ rfl (Nat.le_of_ble_eq_true rfl) rfl d_P_judge_37 ?_
        refine lv_if_eq (tgt := 61) hx hb d_P_judge_40 (by decide) (fun c_40 => ?_) (fun c_40 => ?_)
        · refine lv_iload_n hx hb d_P_judge_61 rfl (lv_at hl 2 rfl) ?_
          exact hend _ _ _ (by rw [hq, s_P_judge_b24, if_neg c_29, if_pos c_40]) d_P_judge_62
        · refine lv_aload_n hx hb d_P_judge_43 rfl (lv_at hl 1 rfl) ?_
          refine lv_iload_n hx hb d_P_judge_44 rfl (lv_at hl 2 rfl) ?_
          refine k_vl (rest := []) (c_O_at l E ad X S r2 hr2 x3) mi_O_at ml_P_220 hx hb hml hts hown hK hP (rvO hr2) hl ⟨rfl, rfl⟩ ⟨(Nat.le_of_ble_eq_true rfl), (Nat.le_of_ble_eq_true rfl)⟩ ⟨Nat.zero_le _, Nat.zero_le _⟩ rfl (Nat.le_of_ble_eq_true rfl) rfl d_P_judge_45 ?_
          refine lv_aload_n hx hb d_P_judge_48 rfl (lv_at hl 0 rfl) ?_
          refine g_P_now hx hb hts hown hK hP d_P_judge_49 ?_
          refine lv_iload_n hx hb d_P_judge_52 rfl (lv_at hl 2 rfl) ?_
          refine k_vi (rest := [.long (s_O_at S r2 x3)]) (c_B_teethOf l E ad X S x3) mi_B_teethOf ml_P_232 hx hb hml hts hown hK hP rvB0 hl ⟨rfl, rfl⟩ ⟨(Nat.le_of_ble_eq_true rfl), (Nat.le_of_ble_eq_true rfl)⟩ ⟨Nat.zero_le _, Nat.zero_le _⟩ rfl (Nat.le_of_ble_eq_true rfl) rfl d_P_judge_53 ?_
          refine lv_i2l hx hb d_P_judge_56 rfl ?_
          refine W.lcmp hx hb d_P_judge_57 ?_
          refine lv_if_eq (tgt := 63) hx hb d_P_judge_58 (by decide) (fun c_58 => ?_) (fun c_58 => ?_)
          · refine lv_iinc (v := (x3 + 1)) (lv' := [(3, .int (x3 + 1)), (0, .ref (ad 39)), (2, .ref (ad (32 + 2 * r2)))]) hx hb d_P_judge_63 hl (k := 2) rfl rfl (by decide) rfl (fun ls hl => ?_)
            refine lv_goto (tgt := 24) hx hb d_P_judge_66 (by decide) ?_
            exact ih24 r2 (x3 + 1) (UP_up hv c_29) hr2 ls (lv_sub hl [1, 2, 0] rfl) (by rw [hq, s_P_judge_b24, if_neg c_29, if_neg c_40, if_pos c_58])
          · refine lv_iload_n hx hb d_P_judge_61 rfl (lv_at hl 2 rfl) ?_
            exact hend _ _ _ (by rw [hq, s_P_judge_b24, if_neg c_29, if_neg c_40, if_neg c_58]) d_P_judge_62
  refine lv_aload_n hx hb d_P_judge_0 rfl (lv_at hl 0 rfl) ?_
  refine lv_iload_n hx hb d_P_judge_1 rfl (lv_at hl 1 rfl) ?_
  refine k_vq (rest := []) (c_P_rowAt l E ad X S a1) mi_P_rowAt ml_P_202 hx hb hml hts hown hK hP rvP hl ⟨rfl, rfl⟩ ⟨(Nat.le_of_ble_eq_true rfl), (Nat.le_of_ble_eq_true rfl)⟩ ⟨Nat.zero_le _, Nat.zero_le _⟩ rfl (Nat.le_of_ble_eq_true rfl) rfl d_P_judge_2 ?_
  by_cases hr : 0 ≤ a1 ∧ a1 < 3
  · rw [ra_pos hr]
    refine lv_astore_n (lv' := [(2, .ref (ad (32 + 2 * a1.toNatClampNeg))), (0, .ref (ad 39)), (1, .int a1)]) hx hb d_P_judge_5 rfl hl (by decide) rfl (fun ls hl => ?_)
    refine lv_aload_n hx hb d_P_judge_6 rfl (lv_at hl 0 rfl) ?_
    refine lv_ifnonnull (tgt := 12) hx hb d_P_judge_7 (by decide) ?_
    refine lv_aload_n hx hb d_P_judge_12 rfl (lv_at hl 0 rfl) ?_
    refine k_vi (rest := []) (c_O_isMissing l E ad X S a1.toNatClampNeg (ra_lt hr)) mi_O_isMissing ml_P_209 hx hb hml hts hown hK hP (rvO (ra_lt hr)) hl ⟨rfl, rfl⟩ ⟨(Nat.le_of_ble_eq_true rfl), (Nat.le_of_ble_eq_true rfl)⟩ ⟨Nat.zero_le _, Nat.zero_le _⟩ rfl (Nat.le_of_ble_eq_true rfl) rfl d_P_judge_13 ?_
    refine lv_if_eq (tgt := 22) hx hb d_P_judge_16 (by decide) (fun c_16 => ?_) (fun c_16 => ?_)
    · refine lv_iconst (v := (0 : Int32)) hx hb d_P_judge_22 rfl ?_
      refine lv_istore_n (lv' := [(3, .int (0 : Int32)), (2, .ref (ad (32 + 2 * a1.toNatClampNeg))), (0, .ref (ad 39)), (1, .int a1)]) hx hb d_P_judge_23 rfl hl (by decide) rfl (fun ls hl => ?_)
      exact b24 ((S.1 (16 + a1.toNatClampNeg)).toInt.toNat + 1) a1.toNatClampNeg (0 : Int32) (UP_in (by decide)) (ra_lt hr) ls (lv_sub hl [2, 1, 0] rfl) (by rw [s_P_judge, if_pos hr, if_pos c_16])
    · refine lv_bipush (v := (-11 : Int32)) hx hb d_P_judge_19 rfl ?_
      exact hend _ _ _ (by rw [s_P_judge, if_pos hr, if_neg c_16]) d_P_judge_21
  · rw [ra_neg hr]
    refine lv_astore_nN (lv' := [(2, .null), (0, .ref (ad 39)), (1, .int a1)]) hx hb d_P_judge_5 rfl hl (by decide) rfl (fun ls hl => ?_)
    refine lv_aload_nN hx hb d_P_judge_6 rfl (lv_at hl 0 rfl) ?_
    refine lv_ifnonnullN hx hb d_P_judge_7 ?_
    refine lv_iconst (v := (-1 : Int32)) hx hb d_P_judge_10 rfl ?_
    exact hend _ _ _ (by rw [s_P_judge, if_neg hr]) d_P_judge_11

def s_P_image (S : St) : Int32 × St := ((s_B_size (sV (s_B_become_10 S) 22 (1 : Int32))), (sV (s_B_become_10 S) 22 (1 : Int32)))
set_option maxRecDepth 20000 in
theorem c_P_image (l : Launch) (E : Cx) (ad : Nat → Nat) (X : va_W) (S : St) (A : Nat → Prop) : Met l y_P_image (Cond.code y_P_image b_P_image 1 (some .int) :: TB) (rk 3 64) (va_Pc [.ref (ad 39)] (preM E A (fun S => wb E ad S ++ X) S)) (va_Qi (fun r u => (r, u) = (s_P_image S)) (fun u t => va_P E.1 vwCl ((fun S => wb E ad S ++ X) u) t.heap) A) 0 0 A := by
  refine w_muI rfl (Nat.le_of_ble_eq_true rfl) rfl ?_
  intro p e s m args below meth c Q ls hx hb hml hts hown hP hK hD hS hl hend
  have hl : lv_has ls 1 [(0, .ref (ad 39))] := hl
  have hP : va_P E.1 vwCl (wb E ad S ++ X) s.heap := hP
  have hown : s.vm.findClass R_P = some m.cls := hown
  have hD : ∀ S' : St, va_D A (wb E ad S' ++ X) := hD
  refine lv_aload_n hx hb d_P_image_0 rfl (lv_at hl 0 rfl) ?_
  refine g_P_kept hx hb hts hown hK hP d_P_image_1 ?_
  refine lv_aload_n hx hb d_P_image_4 rfl (lv_at hl 0 rfl) ?_
  refine g_P_now hx hb hts hown hK hP d_P_image_5 ?_
  refine k_mvv (rest := []) (c_B_become_10 l E ad X S A) mi_B_become ml_P_183 hx hb hml hts hown hK hP hD hS rvB1 hl ⟨rfl, rfl⟩ ⟨(Nat.le_of_ble_eq_true rfl), (Nat.le_of_ble_eq_true rfl)⟩ ⟨Nat.zero_le _, Nat.zero_le _⟩ rfl (Nat.le_of_ble_eq_true rfl) rfl d_P_image_8 (fun H locs hP hS => ?_)
  have hP : va_P E.1 vwCl (wb E ad (s_B_become_10 S) ++ X) H := hP
  refine lv_aload_n hx hb d_P_image_11 rfl (lv_at hl 0 rfl) ?_
  refine lv_iconst (v := (1 : Int32)) hx hb d_P_image_12 rfl ?_
  refine p_P_isKept hx hb hts hown hK hP hD hS (Or.inr rfl) d_P_image_13 (fun H locs hP hS => ?_)
  have hP : va_P E.1 vwCl (wb E ad (sV (s_B_become_10 S) 22 (1 : Int32)) ++ X) H := hP
  refine lv_aload_n hx hb d_P_image_16 rfl (lv_at hl 0 rfl) ?_
  refine g_P_now hx hb hts hown hK hP d_P_image_17 ?_
  refine k_vi (rest := []) (c_B_size l E ad X (sV (s_B_become_10 S) 22 (1 : Int32))) mi_B_size ml_P_226 hx hb hml hts hown hK hP rvB0 hl ⟨rfl, rfl⟩ ⟨(Nat.le_of_ble_eq_true rfl), (Nat.le_of_ble_eq_true rfl)⟩ ⟨Nat.zero_le _, Nat.zero_le _⟩ rfl (Nat.le_of_ble_eq_true rfl) rfl d_P_image_20 ?_
  exact hend _ _ _ _ _ _ (by rw [s_P_image]) hP hS d_P_image_23

def s_P_undo (S : St) : Int32 × St := (if (S.1 22) = 0 then ((-5 : Int32), S) else ((s_B_size (s_B_become_01 S)), (s_B_become_01 S)))
set_option maxRecDepth 20000 in
theorem c_P_undo (l : Launch) (E : Cx) (ad : Nat → Nat) (X : va_W) (S : St) (A : Nat → Prop) : Met l y_P_undo (Cond.code y_P_undo b_P_undo 1 (some .int) :: TB) (rk 3 64) (va_Pc [.ref (ad 39)] (preM E A (fun S => wb E ad S ++ X) S)) (va_Qi (fun r u => (r, u) = (s_P_undo S)) (fun u t => va_P E.1 vwCl ((fun S => wb E ad S ++ X) u) t.heap) A) 0 0 A := by
  refine w_muI rfl (Nat.le_of_ble_eq_true rfl) rfl ?_
  intro p e s m args below meth c Q ls hx hb hml hts hown hP hK hD hS hl hend
  have hl : lv_has ls 1 [(0, .ref (ad 39))] := hl
  have hP : va_P E.1 vwCl (wb E ad S ++ X) s.heap := hP
  have hown : s.vm.findClass R_P = some m.cls := hown
  have hD : ∀ S' : St, va_D A (wb E ad S' ++ X) := hD
  refine lv_aload_n hx hb d_P_undo_0 rfl (lv_at hl 0 rfl) ?_
  refine g_P_isKept hx hb hts hown hK hP d_P_undo_1 ?_
  refine lv_if_ne (tgt := 10) hx hb d_P_undo_4 (by decide) (fun c_4 => ?_) (fun c_4 => ?_)
  · refine lv_aload_n hx hb d_P_undo_10 rfl (lv_at hl 0 rfl) ?_
    refine g_P_now hx hb hts hown hK hP d_P_undo_11 ?_
    refine lv_aload_n hx hb d_P_undo_14 rfl (lv_at hl 0 rfl) ?_
    refine g_P_kept hx hb hts hown hK hP d_P_undo_15 ?_
    refine k_mvv (rest := []) (c_B_become_01 l E ad X S A) mi_B_become ml_P_183 hx hb hml hts hown hK hP hD hS rvB0 hl ⟨rfl, rfl⟩ ⟨(Nat.le_of_ble_eq_true rfl), (Nat.le_of_ble_eq_true rfl)⟩ ⟨Nat.zero_le _, Nat.zero_le _⟩ rfl (Nat.le_of_ble_eq_true rfl) rfl d_P_undo_18 (fun H locs hP hS => ?_)
    have hP : va_P E.1 vwCl (wb E ad (s_B_become_01 S) ++ X) H := hP
    refine lv_aload_n hx hb d_P_undo_21 rfl (lv_at hl 0 rfl) ?_
    refine g_P_now hx hb hts hown hK hP d_P_undo_22 ?_
    refine k_vi (rest := []) (c_B_size l E ad X (s_B_become_01 S)) mi_B_size ml_P_226 hx hb hml hts hown hK hP rvB0 hl ⟨rfl, rfl⟩ ⟨(Nat.le_of_ble_eq_true rfl), (Nat.le_of_ble_eq_true rfl)⟩ ⟨Nat.zero_le _, Nat.zero_le _⟩ rfl (Nat.le_of_ble_eq_true rfl) rfl d_P_undo_25 ?_
    exact hend _ _ _ _ _ _ (by rw [s_P_undo, if_neg c_4]) hP hS d_P_undo_28
  · refine lv_bipush (v := (-5 : Int32)) hx hb d_P_undo_7 rfl ?_
    exact hend _ _ _ _ _ _ (by rw [s_P_undo, if_pos c_4]) hP hS d_P_undo_9
