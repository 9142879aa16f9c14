/-! the law: its calls, by program (wip/whole/law.py) -/
section LAWC
variable {p : Program} {l : Launch} {e : Env} {s : State} {m : MethodId} {below : List Frame} {meth : Method} {c : Code} {b L : Nat} {xs : Nat → Int32} {E : Cx} {ad ae : Nat → Nat} {S M : St} {H : Heap} {locs : List Loc} {ls : Array Slot} {i : Int32} {Q : State → Prop}
set_option maxRecDepth 20000 in
theorem lc_0 (C : LC p s m c b L xs E ad ae) (hi : LX i L) (hR : Rel S M) (hP : va_P E.1 vwCl (wb E ad S ++ wm E ae M) H) (hS : va_S (LA s) s.heap H locs) (hl : lv_has ls 4 [(0, .ref b), (1, .ref (ad 39)), (2, .ref (ae 0)), (3, .int i)]) (kk : ∀ (S' M' : St) (H' : Heap) (locs' : List Loc), Rel S' M' → va_P E.1 vwCl (wb E ad S' ++ wm E ae M') H' → va_S (LA s) s.heap H' locs' → W p l e room_1 s m #[Value.ref b] below meth c H' locs' 600000 7302249 Q (F0 m 1088 ls [])) : W p l e room_1 s m #[Value.ref b] below meth c H locs 600000 7302249 Q (F0 m 164 ls []) := by
  obtain ⟨hx, hb, hml, hown, hts, hX, hbl, hK, hDD⟩ := C
  have hbA : ¬ LA s b := Nat.not_le.mpr hbl
  have q : (s_P_wheel S (xs (i + (1 : Int32)).toNatClampNeg)).1 = (s_M_wheel M (xs (i + (1 : Int32)).toNatClampNeg)).1 ∧ Rel (s_P_wheel S (xs (i + (1 : Int32)).toNatClampNeg)).2 (s_M_wheel M (xs (i + (1 : Int32)).toNatClampNeg)).2 := q_wheel hR
  refine lv_aload_n hx hb d_L_law_164 rfl (lv_at hl 1 rfl) ?_
  refine lv_aload_n hx hb d_L_law_165 rfl (lv_at hl 0 rfl) ?_
  refine lv_iload_n hx hb d_L_law_166 rfl (lv_at hl 3 rfl) ?_
  refine lv_iconst (v := (1 : Int32)) hx hb d_L_law_167 rfl ?_
  refine lv_iadd hx hb d_L_law_168 ?_
  refine va_sld hx hb hX hbl hbA hS (lx_1 hi) d_L_law_169 ?_
  refine k_mvi (rest := []) (c_P_wheel l E ad (wm E ae M) S (LA s) (xs (i + (1 : Int32)).toNatClampNeg)) mi_P_wheel ml_L_13 hx hb hml hts hown hK hP (fun S' => hDD S' M) hS rvP hl ⟨rfl, rfl⟩ ⟨(Nat.le_of_ble_eq_true rfl), (Nat.le_of_ble_eq_true rfl)⟩ ⟨Nat.le_refl _, Nat.le_refl _⟩ rfl (Nat.le_of_ble_eq_true rfl) rfl d_L_law_170 (fun H locs hP hS => ?_)
  have hP : va_P E.1 vwCl (wb E ad (s_P_wheel S (xs (i + (1 : Int32)).toNatClampNeg)).2 ++ wm E ae M) H := hP
  refine lv_aload_n hx hb d_L_law_173 rfl (lv_at hl 2 rfl) ?_
  refine lv_aload_n hx hb d_L_law_174 rfl (lv_at hl 0 rfl) ?_
  refine lv_iload_n hx hb d_L_law_175 rfl (lv_at hl 3 rfl) ?_
  refine lv_iconst (v := (1 : Int32)) hx hb d_L_law_176 rfl ?_
  refine lv_iadd hx hb d_L_law_177 ?_
  refine va_sld hx hb hX hbl hbA hS (lx_1 hi) d_L_law_178 ?_
  have hQ : va_P E.1 vwCl (wm E ae M ++ wb E ad (s_P_wheel S (xs (i + (1 : Int32)).toNatClampNeg)).2) H := va_P.swap (a := []) (b := wb E ad (s_P_wheel S (xs (i + (1 : Int32)).toNatClampNeg)).2) (c := wm E ae M) hP
  refine k_mvi (rest := [.int (s_P_wheel S (xs (i + (1 : Int32)).toNatClampNeg)).1]) (c_M_wheel l E ae (wb E ad (s_P_wheel S (xs (i + (1 : Int32)).toNatClampNeg)).2) M (LA s) (xs (i + (1 : Int32)).toNatClampNeg) hR.G) mi_M_wheel ml_L_17 hx hb hml hts hown hK hQ (fun M' => va_D.swap (a := []) (b := wb E ad (s_P_wheel S (xs (i + (1 : Int32)).toNatClampNeg)).2) (c := wm E ae M') (hDD (s_P_wheel S (xs (i + (1 : Int32)).toNatClampNeg)).2 M')) hS rvM hl ⟨rfl, rfl⟩ ⟨(Nat.le_of_ble_eq_true rfl), (Nat.le_of_ble_eq_true rfl)⟩ ⟨Nat.le_refl _, Nat.le_refl _⟩ rfl (Nat.le_of_ble_eq_true rfl) rfl d_L_law_179 (fun H locs hP hS => ?_)
  have hP : va_P E.1 vwCl (wb E ad (s_P_wheel S (xs (i + (1 : Int32)).toNatClampNeg)).2 ++ wm E ae (s_M_wheel M (xs (i + (1 : Int32)).toNatClampNeg)).2) H := va_P.swap (a := []) (b := wm E ae (s_M_wheel M (xs (i + (1 : Int32)).toNatClampNeg)).2) (c := wb E ad (s_P_wheel S (xs (i + (1 : Int32)).toNatClampNeg)).2) hP
  refine lv_icmp_eq (tgt := 1088) hx hb d_L_law_182 (by decide) (fun _ => ?_) (fun c_e => absurd q.1 c_e)
  exact kk _ _ _ _ q.2 hP hS
set_option maxRecDepth 20000 in
theorem lc_1 (C : LC p s m c b L xs E ad ae) (hi : LX i L) (hR : Rel S M) (hP : va_P E.1 vwCl (wb E ad S ++ wm E ae M) H) (hS : va_S (LA s) s.heap H locs) (hl : lv_has ls 4 [(0, .ref b), (1, .ref (ad 39)), (2, .ref (ae 0)), (3, .int i)]) (kk : ∀ (S' M' : St) (H' : Heap) (locs' : List Loc), Rel S' M' → va_P E.1 vwCl (wb E ad S' ++ wm E ae M') H' → va_S (LA s) s.heap H' locs' → W p l e room_1 s m #[Value.ref b] below meth c H' locs' 600000 7302249 Q (F0 m 1088 ls [])) : W p l e room_1 s m #[Value.ref b] below meth c H locs 600000 7302249 Q (F0 m 187 ls []) := by
  obtain ⟨hx, hb, hml, hown, hts, hX, hbl, hK, hDD⟩ := C
  have hbA : ¬ LA s b := Nat.not_le.mpr hbl
  have q : (s_P_shift S (xs (i + (1 : Int32)).toNatClampNeg) (xs (i + (2 : Int32)).toNatClampNeg)).1 = (s_M_shift M (xs (i + (1 : Int32)).toNatClampNeg) (xs (i + (2 : Int32)).toNatClampNeg)).1 ∧ Rel (s_P_shift S (xs (i + (1 : Int32)).toNatClampNeg) (xs (i + (2 : Int32)).toNatClampNeg)).2 (s_M_shift M (xs (i + (1 : Int32)).toNatClampNeg) (xs (i + (2 : Int32)).toNatClampNeg)).2 := q_shift hR
  refine lv_aload_n hx hb d_L_law_187 rfl (lv_at hl 1 rfl) ?_
  refine lv_aload_n hx hb d_L_law_188 rfl (lv_at hl 0 rfl) ?_
  refine lv_iload_n hx hb d_L_law_189 rfl (lv_at hl 3 rfl) ?_
  refine lv_iconst (v := (1 : Int32)) hx hb d_L_law_190 rfl ?_
  refine lv_iadd hx hb d_L_law_191 ?_
  refine va_sld hx hb hX hbl hbA hS (lx_1 hi) d_L_law_192 ?_
  refine lv_aload_n hx hb d_L_law_193 rfl (lv_at hl 0 rfl) ?_
  refine lv_iload_n hx hb d_L_law_194 rfl (lv_at hl 3 rfl) ?_
  refine lv_iconst (v := (2 : Int32)) hx hb d_L_law_195 rfl ?_
  refine lv_iadd hx hb d_L_law_196 ?_
  refine va_sld hx hb hX hbl hbA hS (lx_2 hi) d_L_law_197 ?_
  refine k_mvi (rest := []) (c_P_shift l E ad (wm E ae M) S (LA s) (xs (i + (1 : Int32)).toNatClampNeg) (xs (i + (2 : Int32)).toNatClampNeg)) mi_P_shift ml_L_18 hx hb hml hts hown hK hP (fun S' => hDD S' M) hS rvP hl ⟨rfl, rfl⟩ ⟨(Nat.le_of_ble_eq_true rfl), (Nat.le_of_ble_eq_true rfl)⟩ ⟨Nat.le_refl _, Nat.le_refl _⟩ rfl (Nat.le_of_ble_eq_true rfl) rfl d_L_law_198 (fun H locs hP hS => ?_)
  have hP : va_P E.1 vwCl (wb E ad (s_P_shift S (xs (i + (1 : Int32)).toNatClampNeg) (xs (i + (2 : Int32)).toNatClampNeg)).2 ++ wm E ae M) H := hP
  refine lv_aload_n hx hb d_L_law_201 rfl (lv_at hl 2 rfl) ?_
  refine lv_aload_n hx hb d_L_law_202 rfl (lv_at hl 0 rfl) ?_
  refine lv_iload_n hx hb d_L_law_203 rfl (lv_at hl 3 rfl) ?_
  refine lv_iconst (v := (1 : Int32)) hx hb d_L_law_204 rfl ?_
  refine lv_iadd hx hb d_L_law_205 ?_
  refine va_sld hx hb hX hbl hbA hS (lx_1 hi) d_L_law_206 ?_
  refine lv_aload_n hx hb d_L_law_207 rfl (lv_at hl 0 rfl) ?_
  refine lv_iload_n hx hb d_L_law_208 rfl (lv_at hl 3 rfl) ?_
  refine lv_iconst (v := (2 : Int32)) hx hb d_L_law_209 rfl ?_
  refine lv_iadd hx hb d_L_law_210 ?_
  refine va_sld hx hb hX hbl hbA hS (lx_2 hi) d_L_law_211 ?_
  have hQ : va_P E.1 vwCl (wm E ae M ++ wb E ad (s_P_shift S (xs (i + (1 : Int32)).toNatClampNeg) (xs (i + (2 : Int32)).toNatClampNeg)).2) H := va_P.swap (a := []) (b := wb E ad (s_P_shift S (xs (i + (1 : Int32)).toNatClampNeg) (xs (i + (2 : Int32)).toNatClampNeg)).2) (c := wm E ae M) hP
  refine k_mvi (rest := [.int (s_P_shift S (xs (i + (1 : Int32)).toNatClampNeg) (xs (i + (2 : Int32)).toNatClampNeg)).1]) (c_M_shift l E ae (wb E ad (s_P_shift S (xs (i + (1 : Int32)).toNatClampNeg) (xs (i + (2 : Int32)).toNatClampNeg)).2) M (LA s) (xs (i + (1 : Int32)).toNatClampNeg) (xs (i + (2 : Int32)).toNatClampNeg) hR.G) mi_M_shift ml_L_22 hx hb hml hts hown hK hQ (fun M' => va_D.swap (a := []) (b := wb E ad (s_P_shift S (xs (i + (1 : Int32)).toNatClampNeg) (xs (i + (2 : Int32)).toNatClampNeg)).2) (c := wm E ae M') (hDD (s_P_shift S (xs (i + (1 : Int32)).toNatClampNeg) (xs (i + (2 : Int32)).toNatClampNeg)).2 M')) hS rvM hl ⟨rfl, rfl⟩ ⟨(Nat.le_of_ble_eq_true rfl), (Nat.le_of_ble_eq_true rfl)⟩ ⟨Nat.le_refl _, Nat.le_refl _⟩ rfl (Nat.le_of_ble_eq_true rfl) rfl d_L_law_212 (fun H locs hP hS => ?_)
  have hP : va_P E.1 vwCl (wb E ad (s_P_shift S (xs (i + (1 : Int32)).toNatClampNeg) (xs (i + (2 : Int32)).toNatClampNeg)).2 ++ wm E ae (s_M_shift M (xs (i + (1 : Int32)).toNatClampNeg) (xs (i + (2 : Int32)).toNatClampNeg)).2) H := va_P.swap (a := []) (b := wm E ae (s_M_shift M (xs (i + (1 : Int32)).toNatClampNeg) (xs (i + (2 : Int32)).toNatClampNeg)).2) (c := wb E ad (s_P_shift S (xs (i + (1 : Int32)).toNatClampNeg) (xs (i + (2 : Int32)).toNatClampNeg)).2) hP
  refine lv_icmp_eq (tgt := 1088) hx hb d_L_law_215 (by decide) (fun _ => ?_) (fun c_e => absurd q.1 c_e)
  exact kk _ _ _ _ q.2 hP hS
set_option maxRecDepth 20000 in
theorem lc_2 (C : LC p s m c b L xs E ad ae) (hi : LX i L) (hR : Rel S M) (hP : va_P E.1 vwCl (wb E ad S ++ wm E ae M) H) (hS : va_S (LA s) s.heap H locs) (hl : lv_has ls 4 [(0, .ref b), (1, .ref (ad 39)), (2, .ref (ae 0)), (3, .int i)]) (kk : ∀ (S' M' : St) (H' : Heap) (locs' : List Loc), Rel S' M' → va_P E.1 vwCl (wb E ad S' ++ wm E ae M') H' → va_S (LA s) s.heap H' locs' → W p l e room_1 s m #[Value.ref b] below meth c H' locs' 600000 7302249 Q (F0 m 1088 ls [])) : W p l e room_1 s m #[Value.ref b] below meth c H locs 600000 7302249 Q (F0 m 220 ls []) := by
  obtain ⟨hx, hb, hml, hown, hts, hX, hbl, hK, hDD⟩ := C
  have hbA : ¬ LA s b := Nat.not_le.mpr hbl
  have q : (s_P_pressure S (xs (i + (1 : Int32)).toNatClampNeg)).1 = (s_M_pressure M (xs (i + (1 : Int32)).toNatClampNeg)).1 ∧ Rel (s_P_pressure S (xs (i + (1 : Int32)).toNatClampNeg)).2 (s_M_pressure M (xs (i + (1 : Int32)).toNatClampNeg)).2 := q_pressure hR
  refine lv_aload_n hx hb d_L_law_220 rfl (lv_at hl 1 rfl) ?_
  refine lv_aload_n hx hb d_L_law_221 rfl (lv_at hl 0 rfl) ?_
  refine lv_iload_n hx hb d_L_law_222 rfl (lv_at hl 3 rfl) ?_
  refine lv_iconst (v := (1 : Int32)) hx hb d_L_law_223 rfl ?_
  refine lv_iadd hx hb d_L_law_224 ?_
  refine va_sld hx hb hX hbl hbA hS (lx_1 hi) d_L_law_225 ?_
  refine k_mvi (rest := []) (c_P_pressure l E ad (wm E ae M) S (LA s) (xs (i + (1 : Int32)).toNatClampNeg)) mi_P_pressure ml_L_23 hx hb hml hts hown hK hP (fun S' => hDD S' M) hS rvP hl ⟨rfl, rfl⟩ ⟨(Nat.le_of_ble_eq_true rfl), (Nat.le_of_ble_eq_true rfl)⟩ ⟨Nat.le_refl _, Nat.le_refl _⟩ rfl (Nat.le_of_ble_eq_true rfl) rfl d_L_law_226 (fun H locs hP hS => ?_)
  have hP : va_P E.1 vwCl (wb E ad (s_P_pressure S (xs (i + (1 : Int32)).toNatClampNeg)).2 ++ wm E ae M) H := hP
  refine lv_aload_n hx hb d_L_law_229 rfl (lv_at hl 2 rfl) ?_
  refine lv_aload_n hx hb d_L_law_230 rfl (lv_at hl 0 rfl) ?_
  refine lv_iload_n hx hb d_L_law_231 rfl (lv_at hl 3 rfl) ?_
  refine lv_iconst (v := (1 : Int32)) hx hb d_L_law_232 rfl ?_
  refine lv_iadd hx hb d_L_law_233 ?_
  refine va_sld hx hb hX hbl hbA hS (lx_1 hi) d_L_law_234 ?_
  have hQ : va_P E.1 vwCl (wm E ae M ++ wb E ad (s_P_pressure S (xs (i + (1 : Int32)).toNatClampNeg)).2) H := va_P.swap (a := []) (b := wb E ad (s_P_pressure S (xs (i + (1 : Int32)).toNatClampNeg)).2) (c := wm E ae M) hP
  refine k_mvi (rest := [.int (s_P_pressure S (xs (i + (1 : Int32)).toNatClampNeg)).1]) (c_M_pressure l E ae (wb E ad (s_P_pressure S (xs (i + (1 : Int32)).toNatClampNeg)).2) M (LA s) (xs (i + (1 : Int32)).toNatClampNeg)) mi_M_pressure ml_L_26 hx hb hml hts hown hK hQ (fun M' => va_D.swap (a := []) (b := wb E ad (s_P_pressure S (xs (i + (1 : Int32)).toNatClampNeg)).2) (c := wm E ae M') (hDD (s_P_pressure S (xs (i + (1 : Int32)).toNatClampNeg)).2 M')) hS rvM hl ⟨rfl, rfl⟩ ⟨(Nat.le_of_ble_eq_true rfl), (Nat.le_of_ble_eq_true rfl)⟩ ⟨Nat.le_refl _, Nat.le_refl _⟩ rfl (Nat.le_of_ble_eq_true rfl) rfl d_L_law_235 (fun H locs hP hS => ?_)
  have hP : va_P E.1 vwCl (wb E ad (s_P_pressure S (xs (i + (1 : Int32)).toNatClampNeg)).2 ++ wm E ae (s_M_pressure M (xs (i + (1 : Int32)).toNatClampNeg)).2) H := va_P.swap (a := []) (b := wm E ae (s_M_pressure M (xs (i + (1 : Int32)).toNatClampNeg)).2) (c := wb E ad (s_P_pressure S (xs (i + (1 : Int32)).toNatClampNeg)).2) hP
  refine lv_icmp_eq (tgt := 1088) hx hb d_L_law_238 (by decide) (fun _ => ?_) (fun c_e => absurd q.1 c_e)
  exact kk _ _ _ _ q.2 hP hS
set_option maxRecDepth 20000 in
theorem lc_3 (C : LC p s m c b L xs E ad ae) (hi : LX i L) (hR : Rel S M) (hP : va_P E.1 vwCl (wb E ad S ++ wm E ae M) H) (hS : va_S (LA s) s.heap H locs) (hl : lv_has ls 4 [(0, .ref b), (1, .ref (ad 39)), (2, .ref (ae 0)), (3, .int i)]) (kk : ∀ (S' M' : St) (H' : Heap) (locs' : List Loc), Rel S' M' → va_P E.1 vwCl (wb E ad S' ++ wm E ae M') H' → va_S (LA s) s.heap H' locs' → W p l e room_1 s m #[Value.ref b] below meth c H' locs' 600000 7302249 Q (F0 m 1088 ls [])) : W p l e room_1 s m #[Value.ref b] below meth c H locs 600000 7302249 Q (F0 m 243 ls []) := by
  obtain ⟨hx, hb, hml, hown, hts, hX, hbl, hK, hDD⟩ := C
  have hbA : ¬ LA s b := Nat.not_le.mpr hbl
  have q : s_P_of S (xs (i + (1 : Int32)).toNatClampNeg) (xs (i + (2 : Int32)).toNatClampNeg) = s_M_of M (xs (i + (1 : Int32)).toNatClampNeg) (xs (i + (2 : Int32)).toNatClampNeg) := q_of hR
  refine lv_aload_n hx hb d_L_law_243 rfl (lv_at hl 1 rfl) ?_
  refine lv_aload_n hx hb d_L_law_244 rfl (lv_at hl 0 rfl) ?_
  refine lv_iload_n hx hb d_L_law_245 rfl (lv_at hl 3 rfl) ?_
  refine lv_iconst (v := (1 : Int32)) hx hb d_L_law_246 rfl ?_
  refine lv_iadd hx hb d_L_law_247 ?_
  refine va_sld hx hb hX hbl hbA hS (lx_1 hi) d_L_law_248 ?_
  refine lv_aload_n hx hb d_L_law_249 rfl (lv_at hl 0 rfl) ?_
  refine lv_iload_n hx hb d_L_law_250 rfl (lv_at hl 3 rfl) ?_
  refine lv_iconst (v := (2 : Int32)) hx hb d_L_law_251 rfl ?_
  refine lv_iadd hx hb d_L_law_252 ?_
  refine va_sld hx hb hX hbl hbA hS (lx_2 hi) d_L_law_253 ?_
  refine k_vi (rest := []) (c_P_of l E ad (wm E ae M) S (xs (i + (1 : Int32)).toNatClampNeg) (xs (i + (2 : Int32)).toNatClampNeg)) mi_P_of ml_L_27 hx hb hml hts hown hK hP rvP hl ⟨rfl, rfl⟩ ⟨(Nat.le_of_ble_eq_true rfl), (Nat.le_of_ble_eq_true rfl)⟩ ⟨Nat.le_refl _, Nat.le_refl _⟩ rfl (Nat.le_of_ble_eq_true rfl) rfl d_L_law_254 ?_
  refine lv_aload_n hx hb d_L_law_257 rfl (lv_at hl 2 rfl) ?_
  refine lv_aload_n hx hb d_L_law_258 rfl (lv_at hl 0 rfl) ?_
  refine lv_iload_n hx hb d_L_law_259 rfl (lv_at hl 3 rfl) ?_
  refine lv_iconst (v := (1 : Int32)) hx hb d_L_law_260 rfl ?_
  refine lv_iadd hx hb d_L_law_261 ?_
  refine va_sld hx hb hX hbl hbA hS (lx_1 hi) d_L_law_262 ?_
  refine lv_aload_n hx hb d_L_law_263 rfl (lv_at hl 0 rfl) ?_
  refine lv_iload_n hx hb d_L_law_264 rfl (lv_at hl 3 rfl) ?_
  refine lv_iconst (v := (2 : Int32)) hx hb d_L_law_265 rfl ?_
  refine lv_iadd hx hb d_L_law_266 ?_
  refine va_sld hx hb hX hbl hbA hS (lx_2 hi) d_L_law_267 ?_
  have hQ : va_P E.1 vwCl (wm E ae M ++ wb E ad S) H := va_P.swap (a := []) (b := wb E ad S) (c := wm E ae M) hP
  refine k_vi (rest := [.int (s_P_of S (xs (i + (1 : Int32)).toNatClampNeg) (xs (i + (2 : Int32)).toNatClampNeg))]) (c_M_of l E ae (wb E ad S) M (xs (i + (1 : Int32)).toNatClampNeg) (xs (i + (2 : Int32)).toNatClampNeg) hR.G) mi_M_of ml_L_30 hx hb hml hts hown hK hQ rvM hl ⟨rfl, rfl⟩ ⟨(Nat.le_of_ble_eq_true rfl), (Nat.le_of_ble_eq_true rfl)⟩ ⟨Nat.le_refl _, Nat.le_refl _⟩ rfl (Nat.le_of_ble_eq_true rfl) rfl d_L_law_268 ?_
  refine lv_icmp_eq (tgt := 1088) hx hb d_L_law_271 (by decide) (fun _ => ?_) (fun c_e => absurd q c_e)
  exact kk _ _ _ _ hR hP hS
set_option maxRecDepth 20000 in
theorem lc_4 (C : LC p s m c b L xs E ad ae) (hi : LX i L) (hR : Rel S M) (hP : va_P E.1 vwCl (wb E ad S ++ wm E ae M) H) (hS : va_S (LA s) s.heap H locs) (hl : lv_has ls 4 [(0, .ref b), (1, .ref (ad 39)), (2, .ref (ae 0)), (3, .int i)]) (kk : ∀ (S' M' : St) (H' : Heap) (locs' : List Loc), Rel S' M' → va_P E.1 vwCl (wb E ad S' ++ wm E ae M') H' → va_S (LA s) s.heap H' locs' → W p l e room_1 s m #[Value.ref b] below meth c H' locs' 600000 7302249 Q (F0 m 1088 ls [])) : W p l e room_1 s m #[Value.ref b] below meth c H locs 600000 7302249 Q (F0 m 276 ls []) := by
  obtain ⟨hx, hb, hml, hown, hts, hX, hbl, hK, hDD⟩ := C
  have hbA : ¬ LA s b := Nat.not_le.mpr hbl
  have q : s_P_fewest S (xs (i + (1 : Int32)).toNatClampNeg) = s_M_fewest M (xs (i + (1 : Int32)).toNatClampNeg) := q_fewest hR
  refine lv_aload_n hx hb d_L_law_276 rfl (lv_at hl 1 rfl) ?_
  refine lv_aload_n hx hb d_L_law_277 rfl (lv_at hl 0 rfl) ?_
  refine lv_iload_n hx hb d_L_law_278 rfl (lv_at hl 3 rfl) ?_
  refine lv_iconst (v := (1 : Int32)) hx hb d_L_law_279 rfl ?_
  refine lv_iadd hx hb d_L_law_280 ?_
  refine va_sld hx hb hX hbl hbA hS (lx_1 hi) d_L_law_281 ?_
  refine k_vi (rest := []) (c_P_fewest l E ad (wm E ae M) S (xs (i + (1 : Int32)).toNatClampNeg)) mi_P_fewest ml_L_31 hx hb hml hts hown hK hP rvP hl ⟨rfl, rfl⟩ ⟨(Nat.le_of_ble_eq_true rfl), (Nat.le_of_ble_eq_true rfl)⟩ ⟨Nat.le_refl _, Nat.le_refl _⟩ rfl (Nat.le_of_ble_eq_true rfl) rfl d_L_law_282 ?_
  refine lv_aload_n hx hb d_L_law_285 rfl (lv_at hl 2 rfl) ?_
  refine lv_aload_n hx hb d_L_law_286 rfl (lv_at hl 0 rfl) ?_
  refine lv_iload_n hx hb d_L_law_287 rfl (lv_at hl 3 rfl) ?_
  refine lv_iconst (v := (1 : Int32)) hx hb d_L_law_288 rfl ?_
  refine lv_iadd hx hb d_L_law_289 ?_
  refine va_sld hx hb hX hbl hbA hS (lx_1 hi) d_L_law_290 ?_
  have hQ : va_P E.1 vwCl (wm E ae M ++ wb E ad S) H := va_P.swap (a := []) (b := wb E ad S) (c := wm E ae M) hP
  refine k_vi (rest := [.int (s_P_fewest S (xs (i + (1 : Int32)).toNatClampNeg))]) (c_M_fewest l E ae (wb E ad S) M (xs (i + (1 : Int32)).toNatClampNeg) hR.G) mi_M_fewest ml_L_34 hx hb hml hts hown hK hQ rvM hl ⟨rfl, rfl⟩ ⟨(Nat.le_of_ble_eq_true rfl), (Nat.le_of_ble_eq_true rfl)⟩ ⟨Nat.le_refl _, Nat.le_refl _⟩ rfl (Nat.le_of_ble_eq_true rfl) rfl d_L_law_291 ?_
  refine lv_icmp_eq (tgt := 1088) hx hb d_L_law_294 (by decide) (fun _ => ?_) (fun c_e => absurd q c_e)
  exact kk _ _ _ _ hR hP hS
set_option maxRecDepth 20000 in
theorem lc_5 (C : LC p s m c b L xs E ad ae) (hi : LX i L) (hR : Rel S M) (hP : va_P E.1 vwCl (wb E ad S ++ wm E ae M) H) (hS : va_S (LA s) s.heap H locs) (hl : lv_has ls 4 [(0, .ref b), (1, .ref (ad 39)), (2, .ref (ae 0)), (3, .int i)]) (kk : ∀ (S' M' : St) (H' : Heap) (locs' : List Loc), Rel S' M' → va_P E.1 vwCl (wb E ad S' ++ wm E ae M') H' → va_S (LA s) s.heap H' locs' → W p l e room_1 s m #[Value.ref b] below meth c H' locs' 600000 7302249 Q (F0 m 1088 ls [])) : W p l e room_1 s m #[Value.ref b] below meth c H locs 600000 7302249 Q (F0 m 299 ls []) := by
  obtain ⟨hx, hb, hml, hown, hts, hX, hbl, hK, hDD⟩ := C
  have hbA : ¬ LA s b := Nat.not_le.mpr hbl
  have q : s_P_distance S (xs (i + (1 : Int32)).toNatClampNeg) (xs (i + (2 : Int32)).toNatClampNeg) (xs (i + (3 : Int32)).toNatClampNeg) = (s_M_distance M (xs (i + (1 : Int32)).toNatClampNeg) (xs (i + (2 : Int32)).toNatClampNeg) (xs (i + (3 : Int32)).toNatClampNeg)).1 ∧ Rel S (s_M_distance M (xs (i + (1 : Int32)).toNatClampNeg) (xs (i + (2 : Int32)).toNatClampNeg) (xs (i + (3 : Int32)).toNatClampNeg)).2 := q_distance hR
  refine lv_aload_n hx hb d_L_law_299 rfl (lv_at hl 1 rfl) ?_
  refine lv_aload_n hx hb d_L_law_300 rfl (lv_at hl 0 rfl) ?_
  refine lv_iload_n hx hb d_L_law_301 rfl (lv_at hl 3 rfl) ?_
  refine lv_iconst (v := (1 : Int32)) hx hb d_L_law_302 rfl ?_
  refine lv_iadd hx hb d_L_law_303 ?_
  refine va_sld hx hb hX hbl hbA hS (lx_1 hi) d_L_law_304 ?_
  refine lv_aload_n hx hb d_L_law_305 rfl (lv_at hl 0 rfl) ?_
  refine lv_iload_n hx hb d_L_law_306 rfl (lv_at hl 3 rfl) ?_
  refine lv_iconst (v := (2 : Int32)) hx hb d_L_law_307 rfl ?_
  refine lv_iadd hx hb d_L_law_308 ?_
  refine va_sld hx hb hX hbl hbA hS (lx_2 hi) d_L_law_309 ?_
  refine lv_aload_n hx hb d_L_law_310 rfl (lv_at hl 0 rfl) ?_
  refine lv_iload_n hx hb d_L_law_311 rfl (lv_at hl 3 rfl) ?_
  refine lv_iconst (v := (3 : Int32)) hx hb d_L_law_312 rfl ?_
  refine lv_iadd hx hb d_L_law_313 ?_
  refine va_sld hx hb hX hbl hbA hS (lx_3 hi) d_L_law_314 ?_
  refine k_vl (rest := []) (c_P_distance l E ad (wm E ae M) S (xs (i + (1 : Int32)).toNatClampNeg) (xs (i + (2 : Int32)).toNatClampNeg) (xs (i + (3 : Int32)).toNatClampNeg)) mi_P_distance ml_L_35 hx hb hml hts hown hK hP rvP hl ⟨rfl, rfl⟩ ⟨(Nat.le_of_ble_eq_true rfl), (Nat.le_of_ble_eq_true rfl)⟩ ⟨Nat.le_refl _, Nat.le_refl _⟩ rfl (Nat.le_of_ble_eq_true rfl) rfl d_L_law_315 ?_
  refine lv_aload_n hx hb d_L_law_318 rfl (lv_at hl 2 rfl) ?_
  refine lv_aload_n hx hb d_L_law_319 rfl (lv_at hl 0 rfl) ?_
  refine lv_iload_n hx hb d_L_law_320 rfl (lv_at hl 3 rfl) ?_
  refine lv_iconst (v := (1 : Int32)) hx hb d_L_law_321 rfl ?_
  refine lv_iadd hx hb d_L_law_322 ?_
  refine va_sld hx hb hX hbl hbA hS (lx_1 hi) d_L_law_323 ?_
  refine lv_aload_n hx hb d_L_law_324 rfl (lv_at hl 0 rfl) ?_
  refine lv_iload_n hx hb d_L_law_325 rfl (lv_at hl 3 rfl) ?_
  refine lv_iconst (v := (2 : Int32)) hx hb d_L_law_326 rfl ?_
  refine lv_iadd hx hb d_L_law_327 ?_
  refine va_sld hx hb hX hbl hbA hS (lx_2 hi) d_L_law_328 ?_
  refine lv_aload_n hx hb d_L_law_329 rfl (lv_at hl 0 rfl) ?_
  refine lv_iload_n hx hb d_L_law_330 rfl (lv_at hl 3 rfl) ?_
  refine lv_iconst (v := (3 : Int32)) hx hb d_L_law_331 rfl ?_
  refine lv_iadd hx hb d_L_law_332 ?_
  refine va_sld hx hb hX hbl hbA hS (lx_3 hi) d_L_law_333 ?_
  have hQ : va_P E.1 vwCl (wm E ae M ++ wb E ad S) H := va_P.swap (a := []) (b := wb E ad S) (c := wm E ae M) hP
  refine k_mvl (rest := [.long (s_P_distance S (xs (i + (1 : Int32)).toNatClampNeg) (xs (i + (2 : Int32)).toNatClampNeg) (xs (i + (3 : Int32)).toNatClampNeg))]) (c_M_distance l E ae (wb E ad S) M (LA s) (xs (i + (1 : Int32)).toNatClampNeg) (xs (i + (2 : Int32)).toNatClampNeg) (xs (i + (3 : Int32)).toNatClampNeg) hR.G) mi_M_distance ml_L_39 hx hb hml hts hown hK hQ (fun M' => va_D.swap (a := []) (b := wb E ad S) (c := wm E ae M') (hDD S M')) hS rvM hl ⟨rfl, rfl⟩ ⟨(Nat.le_of_ble_eq_true rfl), (Nat.le_of_ble_eq_true rfl)⟩ ⟨Nat.le_refl _, Nat.le_refl _⟩ rfl (Nat.le_of_ble_eq_true rfl) rfl d_L_law_334 (fun H locs hP hS => ?_)
  have hP : va_P E.1 vwCl (wb E ad S ++ wm E ae (s_M_distance M (xs (i + (1 : Int32)).toNatClampNeg) (xs (i + (2 : Int32)).toNatClampNeg) (xs (i + (3 : Int32)).toNatClampNeg)).2) H := va_P.swap (a := []) (b := wm E ae (s_M_distance M (xs (i + (1 : Int32)).toNatClampNeg) (xs (i + (2 : Int32)).toNatClampNeg) (xs (i + (3 : Int32)).toNatClampNeg)).2) (c := wb E ad S) hP
  refine W.lcmp hx hb d_L_law_337 ?_
  refine lv_if_eq (tgt := 1088) hx hb d_L_law_338 (by decide) (fun _ => ?_) (fun c_e => absurd (lcmp_eq.mpr q.1) c_e)
  exact kk _ _ _ _ q.2 hP hS
set_option maxRecDepth 20000 in
theorem lc_6 (C : LC p s m c b L xs E ad ae) (hi : LX i L) (hR : Rel S M) (hP : va_P E.1 vwCl (wb E ad S ++ wm E ae M) H) (hS : va_S (LA s) s.heap H locs) (hl : lv_has ls 4 [(0, .ref b), (1, .ref (ad 39)), (2, .ref (ae 0)), (3, .int i)]) (kk : ∀ (S' M' : St) (H' : Heap) (locs' : List Loc), Rel S' M' → va_P E.1 vwCl (wb E ad S' ++ wm E ae M') H' → va_S (LA s) s.heap H' locs' → W p l e room_1 s m #[Value.ref b] below meth c H' locs' 600000 7302249 Q (F0 m 1088 ls [])) : W p l e room_1 s m #[Value.ref b] below meth c H locs 600000 7302249 Q (F0 m 343 ls []) := by
  obtain ⟨hx, hb, hml, hown, hts, hX, hbl, hK, hDD⟩ := C
  have hbA : ¬ LA s b := Nat.not_le.mpr hbl
  have q : s_P_ratio S (xs (i + (1 : Int32)).toNatClampNeg) (xs (i + (2 : Int32)).toNatClampNeg) (xs (i + (3 : Int32)).toNatClampNeg) = (s_M_ratio M (xs (i + (1 : Int32)).toNatClampNeg) (xs (i + (2 : Int32)).toNatClampNeg) (xs (i + (3 : Int32)).toNatClampNeg)).1 ∧ Rel S (s_M_ratio M (xs (i + (1 : Int32)).toNatClampNeg) (xs (i + (2 : Int32)).toNatClampNeg) (xs (i + (3 : Int32)).toNatClampNeg)).2 := q_ratio hR
  refine lv_aload_n hx hb d_L_law_343 rfl (lv_at hl 1 rfl) ?_
  refine lv_aload_n hx hb d_L_law_344 rfl (lv_at hl 0 rfl) ?_
  refine lv_iload_n hx hb d_L_law_345 rfl (lv_at hl 3 rfl) ?_
  refine lv_iconst (v := (1 : Int32)) hx hb d_L_law_346 rfl ?_
  refine lv_iadd hx hb d_L_law_347 ?_
  refine va_sld hx hb hX hbl hbA hS (lx_1 hi) d_L_law_348 ?_
  refine lv_aload_n hx hb d_L_law_349 rfl (lv_at hl 0 rfl) ?_
  refine lv_iload_n hx hb d_L_law_350 rfl (lv_at hl 3 rfl) ?_
  refine lv_iconst (v := (2 : Int32)) hx hb d_L_law_351 rfl ?_
  refine lv_iadd hx hb d_L_law_352 ?_
  refine va_sld hx hb hX hbl hbA hS (lx_2 hi) d_L_law_353 ?_
  refine lv_aload_n hx hb d_L_law_354 rfl (lv_at hl 0 rfl) ?_
  refine lv_iload_n hx hb d_L_law_355 rfl (lv_at hl 3 rfl) ?_
  refine lv_iconst (v := (3 : Int32)) hx hb d_L_law_356 rfl ?_
  refine lv_iadd hx hb d_L_law_357 ?_
  refine va_sld hx hb hX hbl hbA hS (lx_3 hi) d_L_law_358 ?_
  refine k_vl (rest := []) (c_P_ratio l E ad (wm E ae M) S (xs (i + (1 : Int32)).toNatClampNeg) (xs (i + (2 : Int32)).toNatClampNeg) (xs (i + (3 : Int32)).toNatClampNeg)) mi_P_ratio ml_L_40 hx hb hml hts hown hK hP rvP hl ⟨rfl, rfl⟩ ⟨(Nat.le_of_ble_eq_true rfl), (Nat.le_of_ble_eq_true rfl)⟩ ⟨Nat.le_refl _, Nat.le_refl _⟩ rfl (Nat.le_of_ble_eq_true rfl) rfl d_L_law_359 ?_
  refine lv_aload_n hx hb d_L_law_362 rfl (lv_at hl 2 rfl) ?_
  refine lv_aload_n hx hb d_L_law_363 rfl (lv_at hl 0 rfl) ?_
  refine lv_iload_n hx hb d_L_law_364 rfl (lv_at hl 3 rfl) ?_
  refine lv_iconst (v := (1 : Int32)) hx hb d_L_law_365 rfl ?_
  refine lv_iadd hx hb d_L_law_366 ?_
  refine va_sld hx hb hX hbl hbA hS (lx_1 hi) d_L_law_367 ?_
  refine lv_aload_n hx hb d_L_law_368 rfl (lv_at hl 0 rfl) ?_
  refine lv_iload_n hx hb d_L_law_369 rfl (lv_at hl 3 rfl) ?_
  refine lv_iconst (v := (2 : Int32)) hx hb d_L_law_370 rfl ?_
  refine lv_iadd hx hb d_L_law_371 ?_
  refine va_sld hx hb hX hbl hbA hS (lx_2 hi) d_L_law_372 ?_
  refine lv_aload_n hx hb d_L_law_373 rfl (lv_at hl 0 rfl) ?_
  refine lv_iload_n hx hb d_L_law_374 rfl (lv_at hl 3 rfl) ?_
  refine lv_iconst (v := (3 : Int32)) hx hb d_L_law_375 rfl ?_
  refine lv_iadd hx hb d_L_law_376 ?_
  refine va_sld hx hb hX hbl hbA hS (lx_3 hi) d_L_law_377 ?_
  have hQ : va_P E.1 vwCl (wm E ae M ++ wb E ad S) H := va_P.swap (a := []) (b := wb E ad S) (c := wm E ae M) hP
  refine k_mvl (rest := [.long (s_P_ratio S (xs (i + (1 : Int32)).toNatClampNeg) (xs (i + (2 : Int32)).toNatClampNeg) (xs (i + (3 : Int32)).toNatClampNeg))]) (c_M_ratio l E ae (wb E ad S) M (LA s) (xs (i + (1 : Int32)).toNatClampNeg) (xs (i + (2 : Int32)).toNatClampNeg) (xs (i + (3 : Int32)).toNatClampNeg) hR.G) mi_M_ratio ml_L_43 hx hb hml hts hown hK hQ (fun M' => va_D.swap (a := []) (b := wb E ad S) (c := wm E ae M') (hDD S M')) hS rvM hl ⟨rfl, rfl⟩ ⟨(Nat.le_of_ble_eq_true rfl), (Nat.le_of_ble_eq_true rfl)⟩ ⟨Nat.le_refl _, Nat.le_refl _⟩ rfl (Nat.le_of_ble_eq_true rfl) rfl d_L_law_378 (fun H locs hP hS => ?_)
  have hP : va_P E.1 vwCl (wb E ad S ++ wm E ae (s_M_ratio M (xs (i + (1 : Int32)).toNatClampNeg) (xs (i + (2 : Int32)).toNatClampNeg) (xs (i + (3 : Int32)).toNatClampNeg)).2) H := va_P.swap (a := []) (b := wm E ae (s_M_ratio M (xs (i + (1 : Int32)).toNatClampNeg) (xs (i + (2 : Int32)).toNatClampNeg) (xs (i + (3 : Int32)).toNatClampNeg)).2) (c := wb E ad S) hP
  refine W.lcmp hx hb d_L_law_381 ?_
  refine lv_if_eq (tgt := 1088) hx hb d_L_law_382 (by decide) (fun _ => ?_) (fun c_e => absurd (lcmp_eq.mpr q.1) c_e)
  exact kk _ _ _ _ q.2 hP hS
set_option maxRecDepth 20000 in
theorem lc_7 (C : LC p s m c b L xs E ad ae) (hi : LX i L) (hR : Rel S M) (hP : va_P E.1 vwCl (wb E ad S ++ wm E ae M) H) (hS : va_S (LA s) s.heap H locs) (hl : lv_has ls 4 [(0, .ref b), (1, .ref (ad 39)), (2, .ref (ae 0)), (3, .int i)]) (kk : ∀ (S' M' : St) (H' : Heap) (locs' : List Loc), Rel S' M' → va_P E.1 vwCl (wb E ad S' ++ wm E ae M') H' → va_S (LA s) s.heap H' locs' → W p l e room_1 s m #[Value.ref b] below meth c H' locs' 600000 7302249 Q (F0 m 1088 ls [])) : W p l e room_1 s m #[Value.ref b] below meth c H locs 600000 7302249 Q (F0 m 387 ls []) := by
  obtain ⟨hx, hb, hml, hown, hts, hX, hbl, hK, hDD⟩ := C
  have hbA : ¬ LA s b := Nat.not_le.mpr hbl
  have q : s_P_contact S (xs (i + (1 : Int32)).toNatClampNeg) (xs (i + (2 : Int32)).toNatClampNeg) (xs (i + (3 : Int32)).toNatClampNeg) = s_M_contact M (xs (i + (1 : Int32)).toNatClampNeg) (xs (i + (2 : Int32)).toNatClampNeg) (xs (i + (3 : Int32)).toNatClampNeg) := q_contact hR
  refine lv_aload_n hx hb d_L_law_387 rfl (lv_at hl 1 rfl) ?_
  refine lv_aload_n hx hb d_L_law_388 rfl (lv_at hl 0 rfl) ?_
  refine lv_iload_n hx hb d_L_law_389 rfl (lv_at hl 3 rfl) ?_
  refine lv_iconst (v := (1 : Int32)) hx hb d_L_law_390 rfl ?_
  refine lv_iadd hx hb d_L_law_391 ?_
  refine va_sld hx hb hX hbl hbA hS (lx_1 hi) d_L_law_392 ?_
  refine lv_aload_n hx hb d_L_law_393 rfl (lv_at hl 0 rfl) ?_
  refine lv_iload_n hx hb d_L_law_394 rfl (lv_at hl 3 rfl) ?_
  refine lv_iconst (v := (2 : Int32)) hx hb d_L_law_395 rfl ?_
  refine lv_iadd hx hb d_L_law_396 ?_
  refine va_sld hx hb hX hbl hbA hS (lx_2 hi) d_L_law_397 ?_
  refine lv_aload_n hx hb d_L_law_398 rfl (lv_at hl 0 rfl) ?_
  refine lv_iload_n hx hb d_L_law_399 rfl (lv_at hl 3 rfl) ?_
  refine lv_iconst (v := (3 : Int32)) hx hb d_L_law_400 rfl ?_
  refine lv_iadd hx hb d_L_law_401 ?_
  refine va_sld hx hb hX hbl hbA hS (lx_3 hi) d_L_law_402 ?_
  refine k_vl (rest := []) (c_P_contact l E ad (wm E ae M) S (xs (i + (1 : Int32)).toNatClampNeg) (xs (i + (2 : Int32)).toNatClampNeg) (xs (i + (3 : Int32)).toNatClampNeg)) mi_P_contact ml_L_44 hx hb hml hts hown hK hP rvP hl ⟨rfl, rfl⟩ ⟨(Nat.le_of_ble_eq_true rfl), (Nat.le_of_ble_eq_true rfl)⟩ ⟨Nat.le_refl _, Nat.le_refl _⟩ rfl (Nat.le_of_ble_eq_true rfl) rfl d_L_law_403 ?_
  refine lv_aload_n hx hb d_L_law_406 rfl (lv_at hl 2 rfl) ?_
  refine lv_aload_n hx hb d_L_law_407 rfl (lv_at hl 0 rfl) ?_
  refine lv_iload_n hx hb d_L_law_408 rfl (lv_at hl 3 rfl) ?_
  refine lv_iconst (v := (1 : Int32)) hx hb d_L_law_409 rfl ?_
  refine lv_iadd hx hb d_L_law_410 ?_
  refine va_sld hx hb hX hbl hbA hS (lx_1 hi) d_L_law_411 ?_
  refine lv_aload_n hx hb d_L_law_412 rfl (lv_at hl 0 rfl) ?_
  refine lv_iload_n hx hb d_L_law_413 rfl (lv_at hl 3 rfl) ?_
  refine lv_iconst (v := (2 : Int32)) hx hb d_L_law_414 rfl ?_
  refine lv_iadd hx hb d_L_law_415 ?_
  refine va_sld hx hb hX hbl hbA hS (lx_2 hi) d_L_law_416 ?_
  refine lv_aload_n hx hb d_L_law_417 rfl (lv_at hl 0 rfl) ?_
  refine lv_iload_n hx hb d_L_law_418 rfl (lv_at hl 3 rfl) ?_
  refine lv_iconst (v := (3 : Int32)) hx hb d_L_law_419 rfl ?_
  refine lv_iadd hx hb d_L_law_420 ?_
  refine va_sld hx hb hX hbl hbA hS (lx_3 hi) d_L_law_421 ?_
  have hQ : va_P E.1 vwCl (wm E ae M ++ wb E ad S) H := va_P.swap (a := []) (b := wb E ad S) (c := wm E ae M) hP
  refine k_vl (rest := [.long (s_P_contact S (xs (i + (1 : Int32)).toNatClampNeg) (xs (i + (2 : Int32)).toNatClampNeg) (xs (i + (3 : Int32)).toNatClampNeg))]) (c_M_contact l E ae (wb E ad S) M (xs (i + (1 : Int32)).toNatClampNeg) (xs (i + (2 : Int32)).toNatClampNeg) (xs (i + (3 : Int32)).toNatClampNeg) hR.G) mi_M_contact ml_L_47 hx hb hml hts hown hK hQ rvM hl ⟨rfl, rfl⟩ ⟨(Nat.le_of_ble_eq_true rfl), (Nat.le_of_ble_eq_true rfl)⟩ ⟨Nat.le_refl _, Nat.le_refl _⟩ rfl (Nat.le_of_ble_eq_true rfl) rfl d_L_law_422 ?_
  refine W.lcmp hx hb d_L_law_425 ?_
  refine lv_if_eq (tgt := 1088) hx hb d_L_law_426 (by decide) (fun _ => ?_) (fun c_e => absurd (lcmp_eq.mpr q) c_e)
  exact kk _ _ _ _ hR hP hS
set_option maxRecDepth 20000 in
theorem lc_8 (C : LC p s m c b L xs E ad ae) (hi : LX i L) (hR : Rel S M) (hP : va_P E.1 vwCl (wb E ad S ++ wm E ae M) H) (hS : va_S (LA s) s.heap H locs) (hl : lv_has ls 4 [(0, .ref b), (1, .ref (ad 39)), (2, .ref (ae 0)), (3, .int i)]) (kk : ∀ (S' M' : St) (H' : Heap) (locs' : List Loc), Rel S' M' → va_P E.1 vwCl (wb E ad S' ++ wm E ae M') H' → va_S (LA s) s.heap H' locs' → W p l e room_1 s m #[Value.ref b] below meth c H' locs' 600000 7302249 Q (F0 m 1088 ls [])) : W p l e room_1 s m #[Value.ref b] below meth c H locs 600000 7302249 Q (F0 m 431 ls []) := by
  obtain ⟨hx, hb, hml, hown, hts, hX, hbl, hK, hDD⟩ := C
  have hbA : ¬ LA s b := Nat.not_le.mpr hbl
  have q : s_P_shiftFor S (xs (i + (1 : Int32)).toNatClampNeg) (xs (i + (2 : Int32)).toNatClampNeg) (xs (i + (3 : Int32)).toNatClampNeg) (xs (i + (4 : Int32)).toNatClampNeg) = (s_M_shiftFor M (xs (i + (1 : Int32)).toNatClampNeg) (xs (i + (2 : Int32)).toNatClampNeg) (xs (i + (3 : Int32)).toNatClampNeg) (xs (i + (4 : Int32)).toNatClampNeg)).1 ∧ Rel S (s_M_shiftFor M (xs (i + (1 : Int32)).toNatClampNeg) (xs (i + (2 : Int32)).toNatClampNeg) (xs (i + (3 : Int32)).toNatClampNeg) (xs (i + (4 : Int32)).toNatClampNeg)).2 := q_shiftFor hR
  refine lv_aload_n hx hb d_L_law_431 rfl (lv_at hl 1 rfl) ?_
  refine lv_aload_n hx hb d_L_law_432 rfl (lv_at hl 0 rfl) ?_
  refine lv_iload_n hx hb d_L_law_433 rfl (lv_at hl 3 rfl) ?_
  refine lv_iconst (v := (1 : Int32)) hx hb d_L_law_434 rfl ?_
  refine lv_iadd hx hb d_L_law_435 ?_
  refine va_sld hx hb hX hbl hbA hS (lx_1 hi) d_L_law_436 ?_
  refine lv_aload_n hx hb d_L_law_437 rfl (lv_at hl 0 rfl) ?_
  refine lv_iload_n hx hb d_L_law_438 rfl (lv_at hl 3 rfl) ?_
  refine lv_iconst (v := (2 : Int32)) hx hb d_L_law_439 rfl ?_
  refine lv_iadd hx hb d_L_law_440 ?_
  refine va_sld hx hb hX hbl hbA hS (lx_2 hi) d_L_law_441 ?_
  refine lv_aload_n hx hb d_L_law_442 rfl (lv_at hl 0 rfl) ?_
  refine lv_iload_n hx hb d_L_law_443 rfl (lv_at hl 3 rfl) ?_
  refine lv_iconst (v := (3 : Int32)) hx hb d_L_law_444 rfl ?_
  refine lv_iadd hx hb d_L_law_445 ?_
  refine va_sld hx hb hX hbl hbA hS (lx_3 hi) d_L_law_446 ?_
  refine lv_aload_n hx hb d_L_law_447 rfl (lv_at hl 0 rfl) ?_
  refine lv_iload_n hx hb d_L_law_448 rfl (lv_at hl 3 rfl) ?_
  refine lv_iconst (v := (4 : Int32)) hx hb d_L_law_449 rfl ?_
  refine lv_iadd hx hb d_L_law_450 ?_
  refine va_sld hx hb hX hbl hbA hS (lx_4 hi) d_L_law_451 ?_
  refine k_vi (rest := []) (c_P_shiftFor l E ad (wm E ae M) S (xs (i + (1 : Int32)).toNatClampNeg) (xs (i + (2 : Int32)).toNatClampNeg) (xs (i + (3 : Int32)).toNatClampNeg) (xs (i + (4 : Int32)).toNatClampNeg)) mi_P_shiftFor ml_L_48 hx hb hml hts hown hK hP rvP hl ⟨rfl, rfl⟩ ⟨(Nat.le_of_ble_eq_true rfl), (Nat.le_of_ble_eq_true rfl)⟩ ⟨Nat.le_refl _, Nat.le_refl _⟩ rfl (Nat.le_of_ble_eq_true rfl) rfl d_L_law_452 ?_
  refine lv_aload_n hx hb d_L_law_455 rfl (lv_at hl 2 rfl) ?_
  refine lv_aload_n hx hb d_L_law_456 rfl (lv_at hl 0 rfl) ?_
  refine lv_iload_n hx hb d_L_law_457 rfl (lv_at hl 3 rfl) ?_
  refine lv_iconst (v := (1 : Int32)) hx hb d_L_law_458 rfl ?_
  refine lv_iadd hx hb d_L_law_459 ?_
  refine va_sld hx hb hX hbl hbA hS (lx_1 hi) d_L_law_460 ?_
  refine lv_aload_n hx hb d_L_law_461 rfl (lv_at hl 0 rfl) ?_
  refine lv_iload_n hx hb d_L_law_462 rfl (lv_at hl 3 rfl) ?_
  refine lv_iconst (v := (2 : Int32)) hx hb d_L_law_463 rfl ?_
  refine lv_iadd hx hb d_L_law_464 ?_
  refine va_sld hx hb hX hbl hbA hS (lx_2 hi) d_L_law_465 ?_
  refine lv_aload_n hx hb d_L_law_466 rfl (lv_at hl 0 rfl) ?_
  refine lv_iload_n hx hb d_L_law_467 rfl (lv_at hl 3 rfl) ?_
  refine lv_iconst (v := (3 : Int32)) hx hb d_L_law_468 rfl ?_
  refine lv_iadd hx hb d_L_law_469 ?_
  refine va_sld hx hb hX hbl hbA hS (lx_3 hi) d_L_law_470 ?_
  refine lv_aload_n hx hb d_L_law_471 rfl (lv_at hl 0 rfl) ?_
  refine lv_iload_n hx hb d_L_law_472 rfl (lv_at hl 3 rfl) ?_
  refine lv_iconst (v := (4 : Int32)) hx hb d_L_law_473 rfl ?_
  refine lv_iadd hx hb d_L_law_474 ?_
  refine va_sld hx hb hX hbl hbA hS (lx_4 hi) d_L_law_475 ?_
  have hQ : va_P E.1 vwCl (wm E ae M ++ wb E ad S) H := va_P.swap (a := []) (b := wb E ad S) (c := wm E ae M) hP
  refine k_mvi (rest := [.int (s_P_shiftFor S (xs (i + (1 : Int32)).toNatClampNeg) (xs (i + (2 : Int32)).toNatClampNeg) (xs (i + (3 : Int32)).toNatClampNeg) (xs (i + (4 : Int32)).toNatClampNeg))]) (c_M_shiftFor l E ae (wb E ad S) M (LA s) (xs (i + (1 : Int32)).toNatClampNeg) (xs (i + (2 : Int32)).toNatClampNeg) (xs (i + (3 : Int32)).toNatClampNeg) (xs (i + (4 : Int32)).toNatClampNeg) hR.G) mi_M_shiftFor ml_L_52 hx hb hml hts hown hK hQ (fun M' => va_D.swap (a := []) (b := wb E ad S) (c := wm E ae M') (hDD S M')) hS rvM hl ⟨rfl, rfl⟩ ⟨(Nat.le_of_ble_eq_true rfl), (Nat.le_of_ble_eq_true rfl)⟩ ⟨Nat.le_refl _, Nat.le_refl _⟩ rfl (Nat.le_of_ble_eq_true rfl) rfl d_L_law_476 (fun H locs hP hS => ?_)
  have hP : va_P E.1 vwCl (wb E ad S ++ wm E ae (s_M_shiftFor M (xs (i + (1 : Int32)).toNatClampNeg) (xs (i + (2 : Int32)).toNatClampNeg) (xs (i + (3 : Int32)).toNatClampNeg) (xs (i + (4 : Int32)).toNatClampNeg)).2) H := va_P.swap (a := []) (b := wm E ae (s_M_shiftFor M (xs (i + (1 : Int32)).toNatClampNeg) (xs (i + (2 : Int32)).toNatClampNeg) (xs (i + (3 : Int32)).toNatClampNeg) (xs (i + (4 : Int32)).toNatClampNeg)).2) (c := wb E ad S) hP
  refine lv_icmp_eq (tgt := 1088) hx hb d_L_law_479 (by decide) (fun _ => ?_) (fun c_e => absurd q.1 c_e)
  exact kk _ _ _ _ q.2 hP hS
set_option maxRecDepth 20000 in
theorem lc_9 (C : LC p s m c b L xs E ad ae) (hi : LX i L) (hR : Rel S M) (hP : va_P E.1 vwCl (wb E ad S ++ wm E ae M) H) (hS : va_S (LA s) s.heap H locs) (hl : lv_has ls 4 [(0, .ref b), (1, .ref (ad 39)), (2, .ref (ae 0)), (3, .int i)]) (kk : ∀ (S' M' : St) (H' : Heap) (locs' : List Loc), Rel S' M' → va_P E.1 vwCl (wb E ad S' ++ wm E ae M') H' → va_S (LA s) s.heap H' locs' → W p l e room_1 s m #[Value.ref b] below meth c H' locs' 600000 7302249 Q (F0 m 1088 ls [])) : W p l e room_1 s m #[Value.ref b] below meth c H locs 600000 7302249 Q (F0 m 484 ls []) := by
  obtain ⟨hx, hb, hml, hown, hts, hX, hbl, hK, hDD⟩ := C
  have hbA : ¬ LA s b := Nat.not_le.mpr hbl
  have q : s_P_wheels S (xs (i + (1 : Int32)).toNatClampNeg) = s_M_wheels M (xs (i + (1 : Int32)).toNatClampNeg) := q_wheels hR
  refine lv_aload_n hx hb d_L_law_484 rfl (lv_at hl 1 rfl) ?_
  refine lv_aload_n hx hb d_L_law_485 rfl (lv_at hl 0 rfl) ?_
  refine lv_iload_n hx hb d_L_law_486 rfl (lv_at hl 3 rfl) ?_
  refine lv_iconst (v := (1 : Int32)) hx hb d_L_law_487 rfl ?_
  refine lv_iadd hx hb d_L_law_488 ?_
  refine va_sld hx hb hX hbl hbA hS (lx_1 hi) d_L_law_489 ?_
  refine k_vi (rest := []) (c_P_wheels l E ad (wm E ae M) S (xs (i + (1 : Int32)).toNatClampNeg)) mi_P_wheels ml_L_53 hx hb hml hts hown hK hP rvP hl ⟨rfl, rfl⟩ ⟨(Nat.le_of_ble_eq_true rfl), (Nat.le_of_ble_eq_true rfl)⟩ ⟨Nat.le_refl _, Nat.le_refl _⟩ rfl (Nat.le_of_ble_eq_true rfl) rfl d_L_law_490 ?_
  refine lv_aload_n hx hb d_L_law_493 rfl (lv_at hl 2 rfl) ?_
  refine lv_aload_n hx hb d_L_law_494 rfl (lv_at hl 0 rfl) ?_
  refine lv_iload_n hx hb d_L_law_495 rfl (lv_at hl 3 rfl) ?_
  refine lv_iconst (v := (1 : Int32)) hx hb d_L_law_496 rfl ?_
  refine lv_iadd hx hb d_L_law_497 ?_
  refine va_sld hx hb hX hbl hbA hS (lx_1 hi) d_L_law_498 ?_
  have hQ : va_P E.1 vwCl (wm E ae M ++ wb E ad S) H := va_P.swap (a := []) (b := wb E ad S) (c := wm E ae M) hP
  refine k_vi (rest := [.int (s_P_wheels S (xs (i + (1 : Int32)).toNatClampNeg))]) (c_M_wheels l E ae (wb E ad S) M (xs (i + (1 : Int32)).toNatClampNeg) hR.G) mi_M_wheels ml_L_56 hx hb hml hts hown hK hQ rvM hl ⟨rfl, rfl⟩ ⟨(Nat.le_of_ble_eq_true rfl), (Nat.le_of_ble_eq_true rfl)⟩ ⟨Nat.le_refl _, Nat.le_refl _⟩ rfl (Nat.le_of_ble_eq_true rfl) rfl d_L_law_499 ?_
  refine lv_icmp_eq (tgt := 1088) hx hb d_L_law_502 (by decide) (fun _ => ?_) (fun c_e => absurd q c_e)
  exact kk _ _ _ _ hR hP hS
set_option maxRecDepth 20000 in
theorem lc_10 (C : LC p s m c b L xs E ad ae) (hi : LX i L) (hR : Rel S M) (hP : va_P E.1 vwCl (wb E ad S ++ wm E ae M) H) (hS : va_S (LA s) s.heap H locs) (hl : lv_has ls 4 [(0, .ref b), (1, .ref (ad 39)), (2, .ref (ae 0)), (3, .int i)]) (kk : ∀ (S' M' : St) (H' : Heap) (locs' : List Loc), Rel S' M' → va_P E.1 vwCl (wb E ad S' ++ wm E ae M') H' → va_S (LA s) s.heap H' locs' → W p l e room_1 s m #[Value.ref b] below meth c H' locs' 600000 7302249 Q (F0 m 1088 ls [])) : W p l e room_1 s m #[Value.ref b] below meth c H locs 600000 7302249 Q (F0 m 507 ls []) := by
  obtain ⟨hx, hb, hml, hown, hts, hX, hbl, hK, hDD⟩ := C
  have hbA : ¬ LA s b := Nat.not_le.mpr hbl
  have q : (s_P_pair S (xs (i + (1 : Int32)).toNatClampNeg) (xs (i + (2 : Int32)).toNatClampNeg)).1 = (s_M_pair M (xs (i + (1 : Int32)).toNatClampNeg) (xs (i + (2 : Int32)).toNatClampNeg)).1 ∧ Rel (s_P_pair S (xs (i + (1 : Int32)).toNatClampNeg) (xs (i + (2 : Int32)).toNatClampNeg)).2 (s_M_pair M (xs (i + (1 : Int32)).toNatClampNeg) (xs (i + (2 : Int32)).toNatClampNeg)).2 := q_pair hR
  refine lv_aload_n hx hb d_L_law_507 rfl (lv_at hl 1 rfl) ?_
  refine lv_aload_n hx hb d_L_law_508 rfl (lv_at hl 0 rfl) ?_
  refine lv_iload_n hx hb d_L_law_509 rfl (lv_at hl 3 rfl) ?_
  refine lv_iconst (v := (1 : Int32)) hx hb d_L_law_510 rfl ?_
  refine lv_iadd hx hb d_L_law_511 ?_
  refine va_sld hx hb hX hbl hbA hS (lx_1 hi) d_L_law_512 ?_
  refine lv_aload_n hx hb d_L_law_513 rfl (lv_at hl 0 rfl) ?_
  refine lv_iload_n hx hb d_L_law_514 rfl (lv_at hl 3 rfl) ?_
  refine lv_iconst (v := (2 : Int32)) hx hb d_L_law_515 rfl ?_
  refine lv_iadd hx hb d_L_law_516 ?_
  refine va_sld hx hb hX hbl hbA hS (lx_2 hi) d_L_law_517 ?_
  refine k_mvi (rest := []) (c_P_pair l E ad (wm E ae M) S (LA s) (xs (i + (1 : Int32)).toNatClampNeg) (xs (i + (2 : Int32)).toNatClampNeg)) mi_P_pair ml_L_57 hx hb hml hts hown hK hP (fun S' => hDD S' M) hS rvP hl ⟨rfl, rfl⟩ ⟨(Nat.le_of_ble_eq_true rfl), (Nat.le_of_ble_eq_true rfl)⟩ ⟨Nat.le_refl _, Nat.le_refl _⟩ rfl (Nat.le_of_ble_eq_true rfl) rfl d_L_law_518 (fun H locs hP hS => ?_)
  have hP : va_P E.1 vwCl (wb E ad (s_P_pair S (xs (i + (1 : Int32)).toNatClampNeg) (xs (i + (2 : Int32)).toNatClampNeg)).2 ++ wm E ae M) H := hP
  refine lv_aload_n hx hb d_L_law_521 rfl (lv_at hl 2 rfl) ?_
  refine lv_aload_n hx hb d_L_law_522 rfl (lv_at hl 0 rfl) ?_
  refine lv_iload_n hx hb d_L_law_523 rfl (lv_at hl 3 rfl) ?_
  refine lv_iconst (v := (1 : Int32)) hx hb d_L_law_524 rfl ?_
  refine lv_iadd hx hb d_L_law_525 ?_
  refine va_sld hx hb hX hbl hbA hS (lx_1 hi) d_L_law_526 ?_
  refine lv_aload_n hx hb d_L_law_527 rfl (lv_at hl 0 rfl) ?_
  refine lv_iload_n hx hb d_L_law_528 rfl (lv_at hl 3 rfl) ?_
  refine lv_iconst (v := (2 : Int32)) hx hb d_L_law_529 rfl ?_
  refine lv_iadd hx hb d_L_law_530 ?_
  refine va_sld hx hb hX hbl hbA hS (lx_2 hi) d_L_law_531 ?_
  have hQ : va_P E.1 vwCl (wm E ae M ++ wb E ad (s_P_pair S (xs (i + (1 : Int32)).toNatClampNeg) (xs (i + (2 : Int32)).toNatClampNeg)).2) H := va_P.swap (a := []) (b := wb E ad (s_P_pair S (xs (i + (1 : Int32)).toNatClampNeg) (xs (i + (2 : Int32)).toNatClampNeg)).2) (c := wm E ae M) hP
  refine k_mvi (rest := [.int (s_P_pair S (xs (i + (1 : Int32)).toNatClampNeg) (xs (i + (2 : Int32)).toNatClampNeg)).1]) (c_M_pair l E ae (wb E ad (s_P_pair S (xs (i + (1 : Int32)).toNatClampNeg) (xs (i + (2 : Int32)).toNatClampNeg)).2) M (LA s) (xs (i + (1 : Int32)).toNatClampNeg) (xs (i + (2 : Int32)).toNatClampNeg) hR.G) mi_M_pair ml_L_60 hx hb hml hts hown hK hQ (fun M' => va_D.swap (a := []) (b := wb E ad (s_P_pair S (xs (i + (1 : Int32)).toNatClampNeg) (xs (i + (2 : Int32)).toNatClampNeg)).2) (c := wm E ae M') (hDD (s_P_pair S (xs (i + (1 : Int32)).toNatClampNeg) (xs (i + (2 : Int32)).toNatClampNeg)).2 M')) hS rvM hl ⟨rfl, rfl⟩ ⟨(Nat.le_of_ble_eq_true rfl), (Nat.le_of_ble_eq_true rfl)⟩ ⟨Nat.le_refl _, Nat.le_refl _⟩ rfl (Nat.le_of_ble_eq_true rfl) rfl d_L_law_532 (fun H locs hP hS => ?_)
  have hP : va_P E.1 vwCl (wb E ad (s_P_pair S (xs (i + (1 : Int32)).toNatClampNeg) (xs (i + (2 : Int32)).toNatClampNeg)).2 ++ wm E ae (s_M_pair M (xs (i + (1 : Int32)).toNatClampNeg) (xs (i + (2 : Int32)).toNatClampNeg)).2) H := va_P.swap (a := []) (b := wm E ae (s_M_pair M (xs (i + (1 : Int32)).toNatClampNeg) (xs (i + (2 : Int32)).toNatClampNeg)).2) (c := wb E ad (s_P_pair S (xs (i + (1 : Int32)).toNatClampNeg) (xs (i + (2 : Int32)).toNatClampNeg)).2) hP
  refine lv_icmp_eq (tgt := 1088) hx hb d_L_law_535 (by decide) (fun _ => ?_) (fun c_e => absurd q.1 c_e)
  exact kk _ _ _ _ q.2 hP hS
set_option maxRecDepth 20000 in
theorem lc_11 (C : LC p s m c b L xs E ad ae) (hi : LX i L) (hR : Rel S M) (hP : va_P E.1 vwCl (wb E ad S ++ wm E ae M) H) (hS : va_S (LA s) s.heap H locs) (hl : lv_has ls 4 [(0, .ref b), (1, .ref (ad 39)), (2, .ref (ae 0)), (3, .int i)]) (kk : ∀ (S' M' : St) (H' : Heap) (locs' : List Loc), Rel S' M' → va_P E.1 vwCl (wb E ad S' ++ wm E ae M') H' → va_S (LA s) s.heap H' locs' → W p l e room_1 s m #[Value.ref b] below meth c H' locs' 600000 7302249 Q (F0 m 1088 ls [])) : W p l e room_1 s m #[Value.ref b] below meth c H locs 600000 7302249 Q (F0 m 540 ls []) := by
  obtain ⟨hx, hb, hml, hown, hts, hX, hbl, hK, hDD⟩ := C
  have hbA : ¬ LA s b := Nat.not_le.mpr hbl
  have q : (s_P_clear S).1 = (s_M_clear M).1 ∧ Rel (s_P_clear S).2 (s_M_clear M).2 := q_clear hR
  refine lv_aload_n hx hb d_L_law_540 rfl (lv_at hl 1 rfl) ?_
  refine k_mvi (rest := []) (c_P_clear l E ad (wm E ae M) S (LA s)) mi_P_clear ml_L_61 hx hb hml hts hown hK hP (fun S' => hDD S' M) hS rvP hl ⟨rfl, rfl⟩ ⟨(Nat.le_of_ble_eq_true rfl), (Nat.le_of_ble_eq_true rfl)⟩ ⟨Nat.le_refl _, Nat.le_refl _⟩ rfl (Nat.le_of_ble_eq_true rfl) rfl d_L_law_541 (fun H locs hP hS => ?_)
  have hP : va_P E.1 vwCl (wb E ad (s_P_clear S).2 ++ wm E ae M) H := hP
  refine lv_aload_n hx hb d_L_law_544 rfl (lv_at hl 2 rfl) ?_
  have hQ : va_P E.1 vwCl (wm E ae M ++ wb E ad (s_P_clear S).2) H := va_P.swap (a := []) (b := wb E ad (s_P_clear S).2) (c := wm E ae M) hP
  refine k_mvi (rest := [.int (s_P_clear S).1]) (c_M_clear l E ae (wb E ad (s_P_clear S).2) M (LA s)) mi_M_clear ml_L_65 hx hb hml hts hown hK hQ (fun M' => va_D.swap (a := []) (b := wb E ad (s_P_clear S).2) (c := wm E ae M') (hDD (s_P_clear S).2 M')) hS rvM hl ⟨rfl, rfl⟩ ⟨(Nat.le_of_ble_eq_true rfl), (Nat.le_of_ble_eq_true rfl)⟩ ⟨Nat.le_refl _, Nat.le_refl _⟩ rfl (Nat.le_of_ble_eq_true rfl) rfl d_L_law_545 (fun H locs hP hS => ?_)
  have hP : va_P E.1 vwCl (wb E ad (s_P_clear S).2 ++ wm E ae (s_M_clear M).2) H := va_P.swap (a := []) (b := wm E ae (s_M_clear M).2) (c := wb E ad (s_P_clear S).2) hP
  refine lv_icmp_eq (tgt := 1088) hx hb d_L_law_548 (by decide) (fun _ => ?_) (fun c_e => absurd q.1 c_e)
  exact kk _ _ _ _ q.2 hP hS
set_option maxRecDepth 20000 in
theorem lc_12 (C : LC p s m c b L xs E ad ae) (hi : LX i L) (hR : Rel S M) (hP : va_P E.1 vwCl (wb E ad S ++ wm E ae M) H) (hS : va_S (LA s) s.heap H locs) (hl : lv_has ls 4 [(0, .ref b), (1, .ref (ad 39)), (2, .ref (ae 0)), (3, .int i)]) (kk : ∀ (S' M' : St) (H' : Heap) (locs' : List Loc), Rel S' M' → va_P E.1 vwCl (wb E ad S' ++ wm E ae M') H' → va_S (LA s) s.heap H' locs' → W p l e room_1 s m #[Value.ref b] below meth c H' locs' 600000 7302249 Q (F0 m 1088 ls [])) : W p l e room_1 s m #[Value.ref b] below meth c H locs 600000 7302249 Q (F0 m 553 ls []) := by
  obtain ⟨hx, hb, hml, hown, hts, hX, hbl, hK, hDD⟩ := C
  have hbA : ¬ LA s b := Nat.not_le.mpr hbl
  have q : s_P_train S (xs (i + (1 : Int32)).toNatClampNeg) = (s_M_train M (xs (i + (1 : Int32)).toNatClampNeg)).1 ∧ Rel S (s_M_train M (xs (i + (1 : Int32)).toNatClampNeg)).2 := q_train hR
  refine lv_aload_n hx hb d_L_law_553 rfl (lv_at hl 1 rfl) ?_
  refine lv_aload_n hx hb d_L_law_554 rfl (lv_at hl 0 rfl) ?_
  refine lv_iload_n hx hb d_L_law_555 rfl (lv_at hl 3 rfl) ?_
  refine lv_iconst (v := (1 : Int32)) hx hb d_L_law_556 rfl ?_
  refine lv_iadd hx hb d_L_law_557 ?_
  refine va_sld hx hb hX hbl hbA hS (lx_1 hi) d_L_law_558 ?_
  refine k_vl (rest := []) (c_P_train l E ad (wm E ae M) S (xs (i + (1 : Int32)).toNatClampNeg)) mi_P_train ml_L_66 hx hb hml hts hown hK hP rvP hl ⟨rfl, rfl⟩ ⟨(Nat.le_of_ble_eq_true rfl), (Nat.le_of_ble_eq_true rfl)⟩ ⟨Nat.le_refl _, Nat.le_refl _⟩ rfl (Nat.le_of_ble_eq_true rfl) rfl d_L_law_559 ?_
  refine lv_aload_n hx hb d_L_law_562 rfl (lv_at hl 2 rfl) ?_
  refine lv_aload_n hx hb d_L_law_563 rfl (lv_at hl 0 rfl) ?_
  refine lv_iload_n hx hb d_L_law_564 rfl (lv_at hl 3 rfl) ?_
  refine lv_iconst (v := (1 : Int32)) hx hb d_L_law_565 rfl ?_
  refine lv_iadd hx hb d_L_law_566 ?_
  refine va_sld hx hb hX hbl hbA hS (lx_1 hi) d_L_law_567 ?_
  have hQ : va_P E.1 vwCl (wm E ae M ++ wb E ad S) H := va_P.swap (a := []) (b := wb E ad S) (c := wm E ae M) hP
  refine k_mvl (rest := [.long (s_P_train S (xs (i + (1 : Int32)).toNatClampNeg))]) (c_M_train l E ae (wb E ad S) M (LA s) (xs (i + (1 : Int32)).toNatClampNeg) hR.G) mi_M_train ml_L_70 hx hb hml hts hown hK hQ (fun M' => va_D.swap (a := []) (b := wb E ad S) (c := wm E ae M') (hDD S M')) hS rvM hl ⟨rfl, rfl⟩ ⟨(Nat.le_of_ble_eq_true rfl), (Nat.le_of_ble_eq_true rfl)⟩ ⟨Nat.le_refl _, Nat.le_refl _⟩ rfl (Nat.le_of_ble_eq_true rfl) rfl d_L_law_568 (fun H locs hP hS => ?_)
  have hP : va_P E.1 vwCl (wb E ad S ++ wm E ae (s_M_train M (xs (i + (1 : Int32)).toNatClampNeg)).2) H := va_P.swap (a := []) (b := wm E ae (s_M_train M (xs (i + (1 : Int32)).toNatClampNeg)).2) (c := wb E ad S) hP
  refine W.lcmp hx hb d_L_law_571 ?_
  refine lv_if_eq (tgt := 1088) hx hb d_L_law_572 (by decide) (fun _ => ?_) (fun c_e => absurd (lcmp_eq.mpr q.1) c_e)
  exact kk _ _ _ _ q.2 hP hS
set_option maxRecDepth 20000 in
theorem lc_13 (C : LC p s m c b L xs E ad ae) (hi : LX i L) (hR : Rel S M) (hP : va_P E.1 vwCl (wb E ad S ++ wm E ae M) H) (hS : va_S (LA s) s.heap H locs) (hl : lv_has ls 4 [(0, .ref b), (1, .ref (ad 39)), (2, .ref (ae 0)), (3, .int i)]) (kk : ∀ (S' M' : St) (H' : Heap) (locs' : List Loc), Rel S' M' → va_P E.1 vwCl (wb E ad S' ++ wm E ae M') H' → va_S (LA s) s.heap H' locs' → W p l e room_1 s m #[Value.ref b] below meth c H' locs' 600000 7302249 Q (F0 m 1088 ls [])) : W p l e room_1 s m #[Value.ref b] below meth c H locs 600000 7302249 Q (F0 m 577 ls []) := by
  obtain ⟨hx, hb, hml, hown, hts, hX, hbl, hK, hDD⟩ := C
  have hbA : ¬ LA s b := Nat.not_le.mpr hbl
  have q : s_P_faulty S = s_M_faulty M := q_faulty hR
  refine lv_aload_n hx hb d_L_law_577 rfl (lv_at hl 1 rfl) ?_
  refine k_vi (rest := []) (c_P_faulty l E ad (wm E ae M) S) mi_P_faulty ml_L_71 hx hb hml hts hown hK hP rvP hl ⟨rfl, rfl⟩ ⟨(Nat.le_of_ble_eq_true rfl), (Nat.le_of_ble_eq_true rfl)⟩ ⟨Nat.le_refl _, Nat.le_refl _⟩ rfl (Nat.le_of_ble_eq_true rfl) rfl d_L_law_578 ?_
  refine lv_aload_n hx hb d_L_law_581 rfl (lv_at hl 2 rfl) ?_
  have hQ : va_P E.1 vwCl (wm E ae M ++ wb E ad S) H := va_P.swap (a := []) (b := wb E ad S) (c := wm E ae M) hP
  refine k_vi (rest := [.int (s_P_faulty S)]) (c_M_faulty l E ae (wb E ad S) M hR.G) mi_M_faulty ml_L_74 hx hb hml hts hown hK hQ rvM hl ⟨rfl, rfl⟩ ⟨(Nat.le_of_ble_eq_true rfl), (Nat.le_of_ble_eq_true rfl)⟩ ⟨Nat.le_refl _, Nat.le_refl _⟩ rfl (Nat.le_of_ble_eq_true rfl) rfl d_L_law_582 ?_
  refine lv_icmp_eq (tgt := 1088) hx hb d_L_law_585 (by decide) (fun _ => ?_) (fun c_e => absurd q c_e)
  exact kk _ _ _ _ hR hP hS
set_option maxRecDepth 20000 in
theorem lc_14 (C : LC p s m c b L xs E ad ae) (hi : LX i L) (hR : Rel S M) (hP : va_P E.1 vwCl (wb E ad S ++ wm E ae M) H) (hS : va_S (LA s) s.heap H locs) (hl : lv_has ls 4 [(0, .ref b), (1, .ref (ad 39)), (2, .ref (ae 0)), (3, .int i)]) (kk : ∀ (S' M' : St) (H' : Heap) (locs' : List Loc), Rel S' M' → va_P E.1 vwCl (wb E ad S' ++ wm E ae M') H' → va_S (LA s) s.heap H' locs' → W p l e room_1 s m #[Value.ref b] below meth c H' locs' 600000 7302249 Q (F0 m 1088 ls [])) : W p l e room_1 s m #[Value.ref b] below meth c H locs 600000 7302249 Q (F0 m 590 ls []) := by
  obtain ⟨hx, hb, hml, hown, hts, hX, hbl, hK, hDD⟩ := C
  have hbA : ¬ LA s b := Nat.not_le.mpr hbl
  have q : s_P_closest S (xs (i + (1 : Int32)).toNatClampNeg) = (s_M_closest M (xs (i + (1 : Int32)).toNatClampNeg)).1 ∧ Rel S (s_M_closest M (xs (i + (1 : Int32)).toNatClampNeg)).2 := q_closest hR
  refine lv_aload_n hx hb d_L_law_590 rfl (lv_at hl 1 rfl) ?_
  refine lv_aload_n hx hb d_L_law_591 rfl (lv_at hl 0 rfl) ?_
  refine lv_iload_n hx hb d_L_law_592 rfl (lv_at hl 3 rfl) ?_
  refine lv_iconst (v := (1 : Int32)) hx hb d_L_law_593 rfl ?_
  refine lv_iadd hx hb d_L_law_594 ?_
  refine va_sld hx hb hX hbl hbA hS (lx_1 hi) d_L_law_595 ?_
  refine k_vl (rest := []) (c_P_closest l E ad (wm E ae M) S (xs (i + (1 : Int32)).toNatClampNeg)) mi_P_closest ml_L_75 hx hb hml hts hown hK hP rvP hl ⟨rfl, rfl⟩ ⟨(Nat.le_of_ble_eq_true rfl), (Nat.le_of_ble_eq_true rfl)⟩ ⟨Nat.le_refl _, Nat.le_refl _⟩ rfl (Nat.le_of_ble_eq_true rfl) rfl d_L_law_596 ?_
  refine lv_aload_n hx hb d_L_law_599 rfl (lv_at hl 2 rfl) ?_
  refine lv_aload_n hx hb d_L_law_600 rfl (lv_at hl 0 rfl) ?_
  refine lv_iload_n hx hb d_L_law_601 rfl (lv_at hl 3 rfl) ?_
  refine lv_iconst (v := (1 : Int32)) hx hb d_L_law_602 rfl ?_
  refine lv_iadd hx hb d_L_law_603 ?_
  refine va_sld hx hb hX hbl hbA hS (lx_1 hi) d_L_law_604 ?_
  have hQ : va_P E.1 vwCl (wm E ae M ++ wb E ad S) H := va_P.swap (a := []) (b := wb E ad S) (c := wm E ae M) hP
  refine k_mvl (rest := [.long (s_P_closest S (xs (i + (1 : Int32)).toNatClampNeg))]) (c_M_closest l E ae (wb E ad S) M (LA s) (xs (i + (1 : Int32)).toNatClampNeg) hR.G) mi_M_closest ml_L_78 hx hb hml hts hown hK hQ (fun M' => va_D.swap (a := []) (b := wb E ad S) (c := wm E ae M') (hDD S M')) hS rvM hl ⟨rfl, rfl⟩ ⟨(Nat.le_of_ble_eq_true rfl), (Nat.le_of_ble_eq_true rfl)⟩ ⟨Nat.le_refl _, Nat.le_refl _⟩ rfl (Nat.le_of_ble_eq_true rfl) rfl d_L_law_605 (fun H locs hP hS => ?_)
  have hP : va_P E.1 vwCl (wb E ad S ++ wm E ae (s_M_closest M (xs (i + (1 : Int32)).toNatClampNeg)).2) H := va_P.swap (a := []) (b := wm E ae (s_M_closest M (xs (i + (1 : Int32)).toNatClampNeg)).2) (c := wb E ad S) hP
  refine W.lcmp hx hb d_L_law_608 ?_
  refine lv_if_eq (tgt := 1088) hx hb d_L_law_609 (by decide) (fun _ => ?_) (fun c_e => absurd (lcmp_eq.mpr q.1) c_e)
  exact kk _ _ _ _ q.2 hP hS
set_option maxRecDepth 20000 in
theorem lc_15 (C : LC p s m c b L xs E ad ae) (hi : LX i L) (hR : Rel S M) (hP : va_P E.1 vwCl (wb E ad S ++ wm E ae M) H) (hS : va_S (LA s) s.heap H locs) (hl : lv_has ls 4 [(0, .ref b), (1, .ref (ad 39)), (2, .ref (ae 0)), (3, .int i)]) (kk : ∀ (S' M' : St) (H' : Heap) (locs' : List Loc), Rel S' M' → va_P E.1 vwCl (wb E ad S' ++ wm E ae M') H' → va_S (LA s) s.heap H' locs' → W p l e room_1 s m #[Value.ref b] below meth c H' locs' 600000 7302249 Q (F0 m 1088 ls [])) : W p l e room_1 s m #[Value.ref b] below meth c H locs 600000 7302249 Q (F0 m 614 ls []) := by
  obtain ⟨hx, hb, hml, hown, hts, hX, hbl, hK, hDD⟩ := C
  have hbA : ¬ LA s b := Nat.not_le.mpr hbl
  have q : s_P_together S (xs (i + (1 : Int32)).toNatClampNeg) (xs (i + (2 : Int32)).toNatClampNeg) (xs (i + (3 : Int32)).toNatClampNeg) = s_M_together M (xs (i + (1 : Int32)).toNatClampNeg) (xs (i + (2 : Int32)).toNatClampNeg) (xs (i + (3 : Int32)).toNatClampNeg) := q_together hR
  refine lv_aload_n hx hb d_L_law_614 rfl (lv_at hl 1 rfl) ?_
  refine lv_aload_n hx hb d_L_law_615 rfl (lv_at hl 0 rfl) ?_
  refine lv_iload_n hx hb d_L_law_616 rfl (lv_at hl 3 rfl) ?_
  refine lv_iconst (v := (1 : Int32)) hx hb d_L_law_617 rfl ?_
  refine lv_iadd hx hb d_L_law_618 ?_
  refine va_sld hx hb hX hbl hbA hS (lx_1 hi) d_L_law_619 ?_
  refine lv_aload_n hx hb d_L_law_620 rfl (lv_at hl 0 rfl) ?_
  refine lv_iload_n hx hb d_L_law_621 rfl (lv_at hl 3 rfl) ?_
  refine lv_iconst (v := (2 : Int32)) hx hb d_L_law_622 rfl ?_
  refine lv_iadd hx hb d_L_law_623 ?_
  refine va_sld hx hb hX hbl hbA hS (lx_2 hi) d_L_law_624 ?_
  refine lv_aload_n hx hb d_L_law_625 rfl (lv_at hl 0 rfl) ?_
  refine lv_iload_n hx hb d_L_law_626 rfl (lv_at hl 3 rfl) ?_
  refine lv_iconst (v := (3 : Int32)) hx hb d_L_law_627 rfl ?_
  refine lv_iadd hx hb d_L_law_628 ?_
  refine va_sld hx hb hX hbl hbA hS (lx_3 hi) d_L_law_629 ?_
  refine k_vi (rest := []) (c_P_together l E ad (wm E ae M) S (xs (i + (1 : Int32)).toNatClampNeg) (xs (i + (2 : Int32)).toNatClampNeg) (xs (i + (3 : Int32)).toNatClampNeg)) mi_P_together ml_L_79 hx hb hml hts hown hK hP rvP hl ⟨rfl, rfl⟩ ⟨(Nat.le_of_ble_eq_true rfl), (Nat.le_of_ble_eq_true rfl)⟩ ⟨Nat.le_refl _, Nat.le_refl _⟩ rfl (Nat.le_of_ble_eq_true rfl) rfl d_L_law_630 ?_
  refine lv_aload_n hx hb d_L_law_633 rfl (lv_at hl 2 rfl) ?_
  refine lv_aload_n hx hb d_L_law_634 rfl (lv_at hl 0 rfl) ?_
  refine lv_iload_n hx hb d_L_law_635 rfl (lv_at hl 3 rfl) ?_
  refine lv_iconst (v := (1 : Int32)) hx hb d_L_law_636 rfl ?_
  refine lv_iadd hx hb d_L_law_637 ?_
  refine va_sld hx hb hX hbl hbA hS (lx_1 hi) d_L_law_638 ?_
  refine lv_aload_n hx hb d_L_law_639 rfl (lv_at hl 0 rfl) ?_
  refine lv_iload_n hx hb d_L_law_640 rfl (lv_at hl 3 rfl) ?_
  refine lv_iconst (v := (2 : Int32)) hx hb d_L_law_641 rfl ?_
  refine lv_iadd hx hb d_L_law_642 ?_
  refine va_sld hx hb hX hbl hbA hS (lx_2 hi) d_L_law_643 ?_
  refine lv_aload_n hx hb d_L_law_644 rfl (lv_at hl 0 rfl) ?_
  refine lv_iload_n hx hb d_L_law_645 rfl (lv_at hl 3 rfl) ?_
  refine lv_iconst (v := (3 : Int32)) hx hb d_L_law_646 rfl ?_
  refine lv_iadd hx hb d_L_law_647 ?_
  refine va_sld hx hb hX hbl hbA hS (lx_3 hi) d_L_law_648 ?_
  have hQ : va_P E.1 vwCl (wm E ae M ++ wb E ad S) H := va_P.swap (a := []) (b := wb E ad S) (c := wm E ae M) hP
  refine k_vi (rest := [.int (s_P_together S (xs (i + (1 : Int32)).toNatClampNeg) (xs (i + (2 : Int32)).toNatClampNeg) (xs (i + (3 : Int32)).toNatClampNeg))]) (c_M_together l E ae (wb E ad S) M (xs (i + (1 : Int32)).toNatClampNeg) (xs (i + (2 : Int32)).toNatClampNeg) (xs (i + (3 : Int32)).toNatClampNeg)) mi_M_together ml_L_83 hx hb hml hts hown hK hQ rvM hl ⟨rfl, rfl⟩ ⟨(Nat.le_of_ble_eq_true rfl), (Nat.le_of_ble_eq_true rfl)⟩ ⟨Nat.le_refl _, Nat.le_refl _⟩ rfl (Nat.le_of_ble_eq_true rfl) rfl d_L_law_649 ?_
  refine lv_icmp_eq (tgt := 1088) hx hb d_L_law_652 (by decide) (fun _ => ?_) (fun c_e => absurd q c_e)
  exact kk _ _ _ _ hR hP hS
set_option maxRecDepth 20000 in
theorem lc_16 (C : LC p s m c b L xs E ad ae) (hi : LX i L) (hR : Rel S M) (hP : va_P E.1 vwCl (wb E ad S ++ wm E ae M) H) (hS : va_S (LA s) s.heap H locs) (hl : lv_has ls 4 [(0, .ref b), (1, .ref (ad 39)), (2, .ref (ae 0)), (3, .int i)]) (kk : ∀ (S' M' : St) (H' : Heap) (locs' : List Loc), Rel S' M' → va_P E.1 vwCl (wb E ad S' ++ wm E ae M') H' → va_S (LA s) s.heap H' locs' → W p l e room_1 s m #[Value.ref b] below meth c H' locs' 600000 7302249 Q (F0 m 1088 ls [])) : W p l e room_1 s m #[Value.ref b] below meth c H locs 600000 7302249 Q (F0 m 657 ls []) := by
  obtain ⟨hx, hb, hml, hown, hts, hX, hbl, hK, hDD⟩ := C
  have hbA : ¬ LA s b := Nat.not_le.mpr hbl
  have q : s_P_most S (xs (i + (1 : Int32)).toNatClampNeg) (xs (i + (2 : Int32)).toNatClampNeg) = s_M_most M (xs (i + (1 : Int32)).toNatClampNeg) (xs (i + (2 : Int32)).toNatClampNeg) := q_most hR
  refine lv_aload_n hx hb d_L_law_657 rfl (lv_at hl 1 rfl) ?_
  refine lv_aload_n hx hb d_L_law_658 rfl (lv_at hl 0 rfl) ?_
  refine lv_iload_n hx hb d_L_law_659 rfl (lv_at hl 3 rfl) ?_
  refine lv_iconst (v := (1 : Int32)) hx hb d_L_law_660 rfl ?_
  refine lv_iadd hx hb d_L_law_661 ?_
  refine va_sld hx hb hX hbl hbA hS (lx_1 hi) d_L_law_662 ?_
  refine lv_aload_n hx hb d_L_law_663 rfl (lv_at hl 0 rfl) ?_
  refine lv_iload_n hx hb d_L_law_664 rfl (lv_at hl 3 rfl) ?_
  refine lv_iconst (v := (2 : Int32)) hx hb d_L_law_665 rfl ?_
  refine lv_iadd hx hb d_L_law_666 ?_
  refine va_sld hx hb hX hbl hbA hS (lx_2 hi) d_L_law_667 ?_
  refine k_vi (rest := []) (c_P_most l E ad (wm E ae M) S (xs (i + (1 : Int32)).toNatClampNeg) (xs (i + (2 : Int32)).toNatClampNeg)) mi_P_most ml_L_84 hx hb hml hts hown hK hP rvP hl ⟨rfl, rfl⟩ ⟨(Nat.le_of_ble_eq_true rfl), (Nat.le_of_ble_eq_true rfl)⟩ ⟨Nat.le_refl _, Nat.le_refl _⟩ rfl (Nat.le_of_ble_eq_true rfl) rfl d_L_law_668 ?_
  refine lv_aload_n hx hb d_L_law_671 rfl (lv_at hl 2 rfl) ?_
  refine lv_aload_n hx hb d_L_law_672 rfl (lv_at hl 0 rfl) ?_
  refine lv_iload_n hx hb d_L_law_673 rfl (lv_at hl 3 rfl) ?_
  refine lv_iconst (v := (1 : Int32)) hx hb d_L_law_674 rfl ?_
  refine lv_iadd hx hb d_L_law_675 ?_
  refine va_sld hx hb hX hbl hbA hS (lx_1 hi) d_L_law_676 ?_
  refine lv_aload_n hx hb d_L_law_677 rfl (lv_at hl 0 rfl) ?_
  refine lv_iload_n hx hb d_L_law_678 rfl (lv_at hl 3 rfl) ?_
  refine lv_iconst (v := (2 : Int32)) hx hb d_L_law_679 rfl ?_
  refine lv_iadd hx hb d_L_law_680 ?_
  refine va_sld hx hb hX hbl hbA hS (lx_2 hi) d_L_law_681 ?_
  have hQ : va_P E.1 vwCl (wm E ae M ++ wb E ad S) H := va_P.swap (a := []) (b := wb E ad S) (c := wm E ae M) hP
  refine k_vi (rest := [.int (s_P_most S (xs (i + (1 : Int32)).toNatClampNeg) (xs (i + (2 : Int32)).toNatClampNeg))]) (c_M_most l E ae (wb E ad S) M (xs (i + (1 : Int32)).toNatClampNeg) (xs (i + (2 : Int32)).toNatClampNeg)) mi_M_most ml_L_87 hx hb hml hts hown hK hQ rvM hl ⟨rfl, rfl⟩ ⟨(Nat.le_of_ble_eq_true rfl), (Nat.le_of_ble_eq_true rfl)⟩ ⟨Nat.le_refl _, Nat.le_refl _⟩ rfl (Nat.le_of_ble_eq_true rfl) rfl d_L_law_682 ?_
  refine lv_icmp_eq (tgt := 1088) hx hb d_L_law_685 (by decide) (fun _ => ?_) (fun c_e => absurd q c_e)
  exact kk _ _ _ _ hR hP hS
set_option maxRecDepth 20000 in
theorem lc_17 (C : LC p s m c b L xs E ad ae) (hi : LX i L) (hR : Rel S M) (hP : va_P E.1 vwCl (wb E ad S ++ wm E ae M) H) (hS : va_S (LA s) s.heap H locs) (hl : lv_has ls 4 [(0, .ref b), (1, .ref (ad 39)), (2, .ref (ae 0)), (3, .int i)]) (kk : ∀ (S' M' : St) (H' : Heap) (locs' : List Loc), Rel S' M' → va_P E.1 vwCl (wb E ad S' ++ wm E ae M') H' → va_S (LA s) s.heap H' locs' → W p l e room_1 s m #[Value.ref b] below meth c H' locs' 600000 7302249 Q (F0 m 1088 ls [])) : W p l e room_1 s m #[Value.ref b] below meth c H locs 600000 7302249 Q (F0 m 690 ls []) := by
  obtain ⟨hx, hb, hml, hown, hts, hX, hbl, hK, hDD⟩ := C
  have hbA : ¬ LA s b := Nat.not_le.mpr hbl
  have q : s_P_planets S (xs (i + (1 : Int32)).toNatClampNeg) (xs (i + (2 : Int32)).toNatClampNeg) (xs (i + (3 : Int32)).toNatClampNeg) (xs (i + (4 : Int32)).toNatClampNeg) (xs (i + (5 : Int32)).toNatClampNeg) = (s_M_planets M (xs (i + (1 : Int32)).toNatClampNeg) (xs (i + (2 : Int32)).toNatClampNeg) (xs (i + (3 : Int32)).toNatClampNeg) (xs (i + (4 : Int32)).toNatClampNeg) (xs (i + (5 : Int32)).toNatClampNeg)).1 ∧ Rel S (s_M_planets M (xs (i + (1 : Int32)).toNatClampNeg) (xs (i + (2 : Int32)).toNatClampNeg) (xs (i + (3 : Int32)).toNatClampNeg) (xs (i + (4 : Int32)).toNatClampNeg) (xs (i + (5 : Int32)).toNatClampNeg)).2 := q_planets hR
  refine lv_aload_n hx hb d_L_law_690 rfl (lv_at hl 1 rfl) ?_
  refine lv_aload_n hx hb d_L_law_691 rfl (lv_at hl 0 rfl) ?_
  refine lv_iload_n hx hb d_L_law_692 rfl (lv_at hl 3 rfl) ?_
  refine lv_iconst (v := (1 : Int32)) hx hb d_L_law_693 rfl ?_
  refine lv_iadd hx hb d_L_law_694 ?_
  refine va_sld hx hb hX hbl hbA hS (lx_1 hi) d_L_law_695 ?_
  refine lv_aload_n hx hb d_L_law_696 rfl (lv_at hl 0 rfl) ?_
  refine lv_iload_n hx hb d_L_law_697 rfl (lv_at hl 3 rfl) ?_
  refine lv_iconst (v := (2 : Int32)) hx hb d_L_law_698 rfl ?_
  refine lv_iadd hx hb d_L_law_699 ?_
  refine va_sld hx hb hX hbl hbA hS (lx_2 hi) d_L_law_700 ?_
  refine lv_aload_n hx hb d_L_law_701 rfl (lv_at hl 0 rfl) ?_
  refine lv_iload_n hx hb d_L_law_702 rfl (lv_at hl 3 rfl) ?_
  refine lv_iconst (v := (3 : Int32)) hx hb d_L_law_703 rfl ?_
  refine lv_iadd hx hb d_L_law_704 ?_
  refine va_sld hx hb hX hbl hbA hS (lx_3 hi) d_L_law_705 ?_
  refine lv_aload_n hx hb d_L_law_706 rfl (lv_at hl 0 rfl) ?_
  refine lv_iload_n hx hb d_L_law_707 rfl (lv_at hl 3 rfl) ?_
  refine lv_iconst (v := (4 : Int32)) hx hb d_L_law_708 rfl ?_
  refine lv_iadd hx hb d_L_law_709 ?_
  refine va_sld hx hb hX hbl hbA hS (lx_4 hi) d_L_law_710 ?_
  refine lv_aload_n hx hb d_L_law_711 rfl (lv_at hl 0 rfl) ?_
  refine lv_iload_n hx hb d_L_law_712 rfl (lv_at hl 3 rfl) ?_
  refine lv_iconst (v := (5 : Int32)) hx hb d_L_law_713 rfl ?_
  refine lv_iadd hx hb d_L_law_714 ?_
  refine va_sld hx hb hX hbl hbA hS (lx_5 hi) d_L_law_715 ?_
  refine k_vl (rest := []) (c_P_planets l E ad (wm E ae M) S (xs (i + (1 : Int32)).toNatClampNeg) (xs (i + (2 : Int32)).toNatClampNeg) (xs (i + (3 : Int32)).toNatClampNeg) (xs (i + (4 : Int32)).toNatClampNeg) (xs (i + (5 : Int32)).toNatClampNeg)) mi_P_planets ml_L_88 hx hb hml hts hown hK hP rvP hl ⟨rfl, rfl⟩ ⟨(Nat.le_of_ble_eq_true rfl), (Nat.le_of_ble_eq_true rfl)⟩ ⟨Nat.le_refl _, Nat.le_refl _⟩ rfl (Nat.le_of_ble_eq_true rfl) rfl d_L_law_716 ?_
  refine lv_aload_n hx hb d_L_law_719 rfl (lv_at hl 2 rfl) ?_
  refine lv_aload_n hx hb d_L_law_720 rfl (lv_at hl 0 rfl) ?_
  refine lv_iload_n hx hb d_L_law_721 rfl (lv_at hl 3 rfl) ?_
  refine lv_iconst (v := (1 : Int32)) hx hb d_L_law_722 rfl ?_
  refine lv_iadd hx hb d_L_law_723 ?_
  refine va_sld hx hb hX hbl hbA hS (lx_1 hi) d_L_law_724 ?_
  refine lv_aload_n hx hb d_L_law_725 rfl (lv_at hl 0 rfl) ?_
  refine lv_iload_n hx hb d_L_law_726 rfl (lv_at hl 3 rfl) ?_
  refine lv_iconst (v := (2 : Int32)) hx hb d_L_law_727 rfl ?_
  refine lv_iadd hx hb d_L_law_728 ?_
  refine va_sld hx hb hX hbl hbA hS (lx_2 hi) d_L_law_729 ?_
  refine lv_aload_n hx hb d_L_law_730 rfl (lv_at hl 0 rfl) ?_
  refine lv_iload_n hx hb d_L_law_731 rfl (lv_at hl 3 rfl) ?_
  refine lv_iconst (v := (3 : Int32)) hx hb d_L_law_732 rfl ?_
  refine lv_iadd hx hb d_L_law_733 ?_
  refine va_sld hx hb hX hbl hbA hS (lx_3 hi) d_L_law_734 ?_
  refine lv_aload_n hx hb d_L_law_735 rfl (lv_at hl 0 rfl) ?_
  refine lv_iload_n hx hb d_L_law_736 rfl (lv_at hl 3 rfl) ?_
  refine lv_iconst (v := (4 : Int32)) hx hb d_L_law_737 rfl ?_
  refine lv_iadd hx hb d_L_law_738 ?_
  refine va_sld hx hb hX hbl hbA hS (lx_4 hi) d_L_law_739 ?_
  refine lv_aload_n hx hb d_L_law_740 rfl (lv_at hl 0 rfl) ?_
  refine lv_iload_n hx hb d_L_law_741 rfl (lv_at hl 3 rfl) ?_
  refine lv_iconst (v := (5 : Int32)) hx hb d_L_law_742 rfl ?_
  refine lv_iadd hx hb d_L_law_743 ?_
  refine va_sld hx hb hX hbl hbA hS (lx_5 hi) d_L_law_744 ?_
  have hQ : va_P E.1 vwCl (wm E ae M ++ wb E ad S) H := va_P.swap (a := []) (b := wb E ad S) (c := wm E ae M) hP
  refine k_mvl (rest := [.long (s_P_planets S (xs (i + (1 : Int32)).toNatClampNeg) (xs (i + (2 : Int32)).toNatClampNeg) (xs (i + (3 : Int32)).toNatClampNeg) (xs (i + (4 : Int32)).toNatClampNeg) (xs (i + (5 : Int32)).toNatClampNeg))]) (c_M_planets l E ae (wb E ad S) M (LA s) (xs (i + (1 : Int32)).toNatClampNeg) (xs (i + (2 : Int32)).toNatClampNeg) (xs (i + (3 : Int32)).toNatClampNeg) (xs (i + (4 : Int32)).toNatClampNeg) (xs (i + (5 : Int32)).toNatClampNeg)) mi_M_planets ml_L_92 hx hb hml hts hown hK hQ (fun M' => va_D.swap (a := []) (b := wb E ad S) (c := wm E ae M') (hDD S M')) hS rvM hl ⟨rfl, rfl⟩ ⟨(Nat.le_of_ble_eq_true rfl), (Nat.le_of_ble_eq_true rfl)⟩ ⟨Nat.le_refl _, Nat.le_refl _⟩ rfl (Nat.le_of_ble_eq_true rfl) rfl d_L_law_745 (fun H locs hP hS => ?_)
  have hP : va_P E.1 vwCl (wb E ad S ++ wm E ae (s_M_planets M (xs (i + (1 : Int32)).toNatClampNeg) (xs (i + (2 : Int32)).toNatClampNeg) (xs (i + (3 : Int32)).toNatClampNeg) (xs (i + (4 : Int32)).toNatClampNeg) (xs (i + (5 : Int32)).toNatClampNeg)).2) H := va_P.swap (a := []) (b := wm E ae (s_M_planets M (xs (i + (1 : Int32)).toNatClampNeg) (xs (i + (2 : Int32)).toNatClampNeg) (xs (i + (3 : Int32)).toNatClampNeg) (xs (i + (4 : Int32)).toNatClampNeg) (xs (i + (5 : Int32)).toNatClampNeg)).2) (c := wb E ad S) hP
  refine W.lcmp hx hb d_L_law_748 ?_
  refine lv_if_eq (tgt := 1088) hx hb d_L_law_749 (by decide) (fun _ => ?_) (fun c_e => absurd (lcmp_eq.mpr q.1) c_e)
  exact kk _ _ _ _ q.2 hP hS
set_option maxRecDepth 20000 in
theorem lc_18 (C : LC p s m c b L xs E ad ae) (hi : LX i L) (hR : Rel S M) (hP : va_P E.1 vwCl (wb E ad S ++ wm E ae M) H) (hS : va_S (LA s) s.heap H locs) (hl : lv_has ls 4 [(0, .ref b), (1, .ref (ad 39)), (2, .ref (ae 0)), (3, .int i)]) (kk : ∀ (S' M' : St) (H' : Heap) (locs' : List Loc), Rel S' M' → va_P E.1 vwCl (wb E ad S' ++ wm E ae M') H' → va_S (LA s) s.heap H' locs' → W p l e room_1 s m #[Value.ref b] below meth c H' locs' 600000 7302249 Q (F0 m 1088 ls [])) : W p l e room_1 s m #[Value.ref b] below meth c H locs 600000 7302249 Q (F0 m 754 ls []) := by
  obtain ⟨hx, hb, hml, hown, hts, hX, hbl, hK, hDD⟩ := C
  have hbA : ¬ LA s b := Nat.not_le.mpr hbl
  have q : (s_P_searched S (xs (i + (1 : Int32)).toNatClampNeg) (xs (i + (2 : Int32)).toNatClampNeg) (xs (i + (3 : Int32)).toNatClampNeg) (xs (i + (4 : Int32)).toNatClampNeg) (xs (i + (5 : Int32)).toNatClampNeg)).1 = (s_M_searched M (xs (i + (1 : Int32)).toNatClampNeg) (xs (i + (2 : Int32)).toNatClampNeg) (xs (i + (3 : Int32)).toNatClampNeg) (xs (i + (4 : Int32)).toNatClampNeg) (xs (i + (5 : Int32)).toNatClampNeg)).1 ∧ Rel (s_P_searched S (xs (i + (1 : Int32)).toNatClampNeg) (xs (i + (2 : Int32)).toNatClampNeg) (xs (i + (3 : Int32)).toNatClampNeg) (xs (i + (4 : Int32)).toNatClampNeg) (xs (i + (5 : Int32)).toNatClampNeg)).2 (s_M_searched M (xs (i + (1 : Int32)).toNatClampNeg) (xs (i + (2 : Int32)).toNatClampNeg) (xs (i + (3 : Int32)).toNatClampNeg) (xs (i + (4 : Int32)).toNatClampNeg) (xs (i + (5 : Int32)).toNatClampNeg)).2 := q_searched hR
  refine lv_aload_n hx hb d_L_law_754 rfl (lv_at hl 1 rfl) ?_
  refine lv_aload_n hx hb d_L_law_755 rfl (lv_at hl 0 rfl) ?_
  refine lv_iload_n hx hb d_L_law_756 rfl (lv_at hl 3 rfl) ?_
  refine lv_iconst (v := (1 : Int32)) hx hb d_L_law_757 rfl ?_
  refine lv_iadd hx hb d_L_law_758 ?_
  refine va_sld hx hb hX hbl hbA hS (lx_1 hi) d_L_law_759 ?_
  refine lv_aload_n hx hb d_L_law_760 rfl (lv_at hl 0 rfl) ?_
  refine lv_iload_n hx hb d_L_law_761 rfl (lv_at hl 3 rfl) ?_
  refine lv_iconst (v := (2 : Int32)) hx hb d_L_law_762 rfl ?_
  refine lv_iadd hx hb d_L_law_763 ?_
  refine va_sld hx hb hX hbl hbA hS (lx_2 hi) d_L_law_764 ?_
  refine lv_aload_n hx hb d_L_law_765 rfl (lv_at hl 0 rfl) ?_
  refine lv_iload_n hx hb d_L_law_766 rfl (lv_at hl 3 rfl) ?_
  refine lv_iconst (v := (3 : Int32)) hx hb d_L_law_767 rfl ?_
  refine lv_iadd hx hb d_L_law_768 ?_
  refine va_sld hx hb hX hbl hbA hS (lx_3 hi) d_L_law_769 ?_
  refine lv_aload_n hx hb d_L_law_770 rfl (lv_at hl 0 rfl) ?_
  refine lv_iload_n hx hb d_L_law_771 rfl (lv_at hl 3 rfl) ?_
  refine lv_iconst (v := (4 : Int32)) hx hb d_L_law_772 rfl ?_
  refine lv_iadd hx hb d_L_law_773 ?_
  refine va_sld hx hb hX hbl hbA hS (lx_4 hi) d_L_law_774 ?_
  refine lv_aload_n hx hb d_L_law_775 rfl (lv_at hl 0 rfl) ?_
  refine lv_iload_n hx hb d_L_law_776 rfl (lv_at hl 3 rfl) ?_
  refine lv_iconst (v := (5 : Int32)) hx hb d_L_law_777 rfl ?_
  refine lv_iadd hx hb d_L_law_778 ?_
  refine va_sld hx hb hX hbl hbA hS (lx_5 hi) d_L_law_779 ?_
  refine k_mvi (rest := []) (c_P_searched l E ad (wm E ae M) S (LA s) (xs (i + (1 : Int32)).toNatClampNeg) (xs (i + (2 : Int32)).toNatClampNeg) (xs (i + (3 : Int32)).toNatClampNeg) (xs (i + (4 : Int32)).toNatClampNeg) (xs (i + (5 : Int32)).toNatClampNeg)) mi_P_searched ml_L_93 hx hb hml hts hown hK hP (fun S' => hDD S' M) hS rvP hl ⟨rfl, rfl⟩ ⟨(Nat.le_of_ble_eq_true rfl), (Nat.le_of_ble_eq_true rfl)⟩ ⟨Nat.le_refl _, Nat.le_refl _⟩ rfl (Nat.le_of_ble_eq_true rfl) rfl d_L_law_780 (fun H locs hP hS => ?_)
  have hP : va_P E.1 vwCl (wb E ad (s_P_searched S (xs (i + (1 : Int32)).toNatClampNeg) (xs (i + (2 : Int32)).toNatClampNeg) (xs (i + (3 : Int32)).toNatClampNeg) (xs (i + (4 : Int32)).toNatClampNeg) (xs (i + (5 : Int32)).toNatClampNeg)).2 ++ wm E ae M) H := hP
  refine lv_aload_n hx hb d_L_law_783 rfl (lv_at hl 2 rfl) ?_
  refine lv_aload_n hx hb d_L_law_784 rfl (lv_at hl 0 rfl) ?_
  refine lv_iload_n hx hb d_L_law_785 rfl (lv_at hl 3 rfl) ?_
  refine lv_iconst (v := (1 : Int32)) hx hb d_L_law_786 rfl ?_
  refine lv_iadd hx hb d_L_law_787 ?_
  refine va_sld hx hb hX hbl hbA hS (lx_1 hi) d_L_law_788 ?_
  refine lv_aload_n hx hb d_L_law_789 rfl (lv_at hl 0 rfl) ?_
  refine lv_iload_n hx hb d_L_law_790 rfl (lv_at hl 3 rfl) ?_
  refine lv_iconst (v := (2 : Int32)) hx hb d_L_law_791 rfl ?_
  refine lv_iadd hx hb d_L_law_792 ?_
  refine va_sld hx hb hX hbl hbA hS (lx_2 hi) d_L_law_793 ?_
  refine lv_aload_n hx hb d_L_law_794 rfl (lv_at hl 0 rfl) ?_
  refine lv_iload_n hx hb d_L_law_795 rfl (lv_at hl 3 rfl) ?_
  refine lv_iconst (v := (3 : Int32)) hx hb d_L_law_796 rfl ?_
  refine lv_iadd hx hb d_L_law_797 ?_
  refine va_sld hx hb hX hbl hbA hS (lx_3 hi) d_L_law_798 ?_
  refine lv_aload_n hx hb d_L_law_799 rfl (lv_at hl 0 rfl) ?_
  refine lv_iload_n hx hb d_L_law_800 rfl (lv_at hl 3 rfl) ?_
  refine lv_iconst (v := (4 : Int32)) hx hb d_L_law_801 rfl ?_
  refine lv_iadd hx hb d_L_law_802 ?_
  refine va_sld hx hb hX hbl hbA hS (lx_4 hi) d_L_law_803 ?_
  refine lv_aload_n hx hb d_L_law_804 rfl (lv_at hl 0 rfl) ?_
  refine lv_iload_n hx hb d_L_law_805 rfl (lv_at hl 3 rfl) ?_
  refine lv_iconst (v := (5 : Int32)) hx hb d_L_law_806 rfl ?_
  refine lv_iadd hx hb d_L_law_807 ?_
  refine va_sld hx hb hX hbl hbA hS (lx_5 hi) d_L_law_808 ?_
  have hQ : va_P E.1 vwCl (wm E ae M ++ wb E ad (s_P_searched S (xs (i + (1 : Int32)).toNatClampNeg) (xs (i + (2 : Int32)).toNatClampNeg) (xs (i + (3 : Int32)).toNatClampNeg) (xs (i + (4 : Int32)).toNatClampNeg) (xs (i + (5 : Int32)).toNatClampNeg)).2) H := va_P.swap (a := []) (b := wb E ad (s_P_searched S (xs (i + (1 : Int32)).toNatClampNeg) (xs (i + (2 : Int32)).toNatClampNeg) (xs (i + (3 : Int32)).toNatClampNeg) (xs (i + (4 : Int32)).toNatClampNeg) (xs (i + (5 : Int32)).toNatClampNeg)).2) (c := wm E ae M) hP
  refine k_mvi (rest := [.int (s_P_searched S (xs (i + (1 : Int32)).toNatClampNeg) (xs (i + (2 : Int32)).toNatClampNeg) (xs (i + (3 : Int32)).toNatClampNeg) (xs (i + (4 : Int32)).toNatClampNeg) (xs (i + (5 : Int32)).toNatClampNeg)).1]) (c_M_searched l E ae (wb E ad (s_P_searched S (xs (i + (1 : Int32)).toNatClampNeg) (xs (i + (2 : Int32)).toNatClampNeg) (xs (i + (3 : Int32)).toNatClampNeg) (xs (i + (4 : Int32)).toNatClampNeg) (xs (i + (5 : Int32)).toNatClampNeg)).2) M (LA s) (xs (i + (1 : Int32)).toNatClampNeg) (xs (i + (2 : Int32)).toNatClampNeg) (xs (i + (3 : Int32)).toNatClampNeg) (xs (i + (4 : Int32)).toNatClampNeg) (xs (i + (5 : Int32)).toNatClampNeg)) mi_M_searched ml_L_97 hx hb hml hts hown hK hQ (fun M' => va_D.swap (a := []) (b := wb E ad (s_P_searched S (xs (i + (1 : Int32)).toNatClampNeg) (xs (i + (2 : Int32)).toNatClampNeg) (xs (i + (3 : Int32)).toNatClampNeg) (xs (i + (4 : Int32)).toNatClampNeg) (xs (i + (5 : Int32)).toNatClampNeg)).2) (c := wm E ae M') (hDD (s_P_searched S (xs (i + (1 : Int32)).toNatClampNeg) (xs (i + (2 : Int32)).toNatClampNeg) (xs (i + (3 : Int32)).toNatClampNeg) (xs (i + (4 : Int32)).toNatClampNeg) (xs (i + (5 : Int32)).toNatClampNeg)).2 M')) hS rvM hl ⟨rfl, rfl⟩ ⟨(Nat.le_of_ble_eq_true rfl), (Nat.le_of_ble_eq_true rfl)⟩ ⟨Nat.le_refl _, Nat.le_refl _⟩ rfl (Nat.le_of_ble_eq_true rfl) rfl d_L_law_809 (fun H locs hP hS => ?_)
  have hP : va_P E.1 vwCl (wb E ad (s_P_searched S (xs (i + (1 : Int32)).toNatClampNeg) (xs (i + (2 : Int32)).toNatClampNeg) (xs (i + (3 : Int32)).toNatClampNeg) (xs (i + (4 : Int32)).toNatClampNeg) (xs (i + (5 : Int32)).toNatClampNeg)).2 ++ wm E ae (s_M_searched M (xs (i + (1 : Int32)).toNatClampNeg) (xs (i + (2 : Int32)).toNatClampNeg) (xs (i + (3 : Int32)).toNatClampNeg) (xs (i + (4 : Int32)).toNatClampNeg) (xs (i + (5 : Int32)).toNatClampNeg)).2) H := va_P.swap (a := []) (b := wm E ae (s_M_searched M (xs (i + (1 : Int32)).toNatClampNeg) (xs (i + (2 : Int32)).toNatClampNeg) (xs (i + (3 : Int32)).toNatClampNeg) (xs (i + (4 : Int32)).toNatClampNeg) (xs (i + (5 : Int32)).toNatClampNeg)).2) (c := wb E ad (s_P_searched S (xs (i + (1 : Int32)).toNatClampNeg) (xs (i + (2 : Int32)).toNatClampNeg) (xs (i + (3 : Int32)).toNatClampNeg) (xs (i + (4 : Int32)).toNatClampNeg) (xs (i + (5 : Int32)).toNatClampNeg)).2) hP
  refine lv_icmp_eq (tgt := 1088) hx hb d_L_law_812 (by decide) (fun _ => ?_) (fun c_e => absurd q.1 c_e)
  exact kk _ _ _ _ q.2 hP hS
set_option maxRecDepth 20000 in
theorem lc_19 (C : LC p s m c b L xs E ad ae) (hi : LX i L) (hR : Rel S M) (hP : va_P E.1 vwCl (wb E ad S ++ wm E ae M) H) (hS : va_S (LA s) s.heap H locs) (hl : lv_has ls 4 [(0, .ref b), (1, .ref (ad 39)), (2, .ref (ae 0)), (3, .int i)]) (kk : ∀ (S' M' : St) (H' : Heap) (locs' : List Loc), Rel S' M' → va_P E.1 vwCl (wb E ad S' ++ wm E ae M') H' → va_S (LA s) s.heap H' locs' → W p l e room_1 s m #[Value.ref b] below meth c H' locs' 600000 7302249 Q (F0 m 1088 ls [])) : W p l e room_1 s m #[Value.ref b] below meth c H locs 600000 7302249 Q (F0 m 817 ls []) := by
  obtain ⟨hx, hb, hml, hown, hts, hX, hbl, hK, hDD⟩ := C
  have hbA : ¬ LA s b := Nat.not_le.mpr hbl
  have q : (s_P_feed S (xs (i + (1 : Int32)).toNatClampNeg)).1 = (s_M_feed M (xs (i + (1 : Int32)).toNatClampNeg)).1 ∧ Rel (s_P_feed S (xs (i + (1 : Int32)).toNatClampNeg)).2 (s_M_feed M (xs (i + (1 : Int32)).toNatClampNeg)).2 := q_feed hR
  refine lv_aload_n hx hb d_L_law_817 rfl (lv_at hl 1 rfl) ?_
  refine lv_aload_n hx hb d_L_law_818 rfl (lv_at hl 0 rfl) ?_
  refine lv_iload_n hx hb d_L_law_819 rfl (lv_at hl 3 rfl) ?_
  refine lv_iconst (v := (1 : Int32)) hx hb d_L_law_820 rfl ?_
  refine lv_iadd hx hb d_L_law_821 ?_
  refine va_sld hx hb hX hbl hbA hS (lx_1 hi) d_L_law_822 ?_
  refine k_mvi (rest := []) (c_P_feed l E ad (wm E ae M) S (LA s) (xs (i + (1 : Int32)).toNatClampNeg)) mi_P_feed ml_L_98 hx hb hml hts hown hK hP (fun S' => hDD S' M) hS rvP hl ⟨rfl, rfl⟩ ⟨(Nat.le_of_ble_eq_true rfl), (Nat.le_of_ble_eq_true rfl)⟩ ⟨Nat.le_refl _, Nat.le_refl _⟩ rfl (Nat.le_of_ble_eq_true rfl) rfl d_L_law_823 (fun H locs hP hS => ?_)
  have hP : va_P E.1 vwCl (wb E ad (s_P_feed S (xs (i + (1 : Int32)).toNatClampNeg)).2 ++ wm E ae M) H := hP
  refine lv_aload_n hx hb d_L_law_826 rfl (lv_at hl 2 rfl) ?_
  refine lv_aload_n hx hb d_L_law_827 rfl (lv_at hl 0 rfl) ?_
  refine lv_iload_n hx hb d_L_law_828 rfl (lv_at hl 3 rfl) ?_
  refine lv_iconst (v := (1 : Int32)) hx hb d_L_law_829 rfl ?_
  refine lv_iadd hx hb d_L_law_830 ?_
  refine va_sld hx hb hX hbl hbA hS (lx_1 hi) d_L_law_831 ?_
  have hQ : va_P E.1 vwCl (wm E ae M ++ wb E ad (s_P_feed S (xs (i + (1 : Int32)).toNatClampNeg)).2) H := va_P.swap (a := []) (b := wb E ad (s_P_feed S (xs (i + (1 : Int32)).toNatClampNeg)).2) (c := wm E ae M) hP
  refine k_mvi (rest := [.int (s_P_feed S (xs (i + (1 : Int32)).toNatClampNeg)).1]) (c_M_feed l E ae (wb E ad (s_P_feed S (xs (i + (1 : Int32)).toNatClampNeg)).2) M (LA s) (xs (i + (1 : Int32)).toNatClampNeg) hR.F) mi_M_feed ml_L_101 hx hb hml hts hown hK hQ (fun M' => va_D.swap (a := []) (b := wb E ad (s_P_feed S (xs (i + (1 : Int32)).toNatClampNeg)).2) (c := wm E ae M') (hDD (s_P_feed S (xs (i + (1 : Int32)).toNatClampNeg)).2 M')) hS rvM hl ⟨rfl, rfl⟩ ⟨(Nat.le_of_ble_eq_true rfl), (Nat.le_of_ble_eq_true rfl)⟩ ⟨Nat.le_refl _, Nat.le_refl _⟩ rfl (Nat.le_of_ble_eq_true rfl) rfl d_L_law_832 (fun H locs hP hS => ?_)
  have hP : va_P E.1 vwCl (wb E ad (s_P_feed S (xs (i + (1 : Int32)).toNatClampNeg)).2 ++ wm E ae (s_M_feed M (xs (i + (1 : Int32)).toNatClampNeg)).2) H := va_P.swap (a := []) (b := wm E ae (s_M_feed M (xs (i + (1 : Int32)).toNatClampNeg)).2) (c := wb E ad (s_P_feed S (xs (i + (1 : Int32)).toNatClampNeg)).2) hP
  refine lv_icmp_eq (tgt := 1088) hx hb d_L_law_835 (by decide) (fun _ => ?_) (fun c_e => absurd q.1 c_e)
  exact kk _ _ _ _ q.2 hP hS
set_option maxRecDepth 20000 in
theorem lc_20 (C : LC p s m c b L xs E ad ae) (hi : LX i L) (hR : Rel S M) (hP : va_P E.1 vwCl (wb E ad S ++ wm E ae M) H) (hS : va_S (LA s) s.heap H locs) (hl : lv_has ls 4 [(0, .ref b), (1, .ref (ad 39)), (2, .ref (ae 0)), (3, .int i)]) (kk : ∀ (S' M' : St) (H' : Heap) (locs' : List Loc), Rel S' M' → va_P E.1 vwCl (wb E ad S' ++ wm E ae M') H' → va_S (LA s) s.heap H' locs' → W p l e room_1 s m #[Value.ref b] below meth c H' locs' 600000 7302249 Q (F0 m 1088 ls [])) : W p l e room_1 s m #[Value.ref b] below meth c H locs 600000 7302249 Q (F0 m 840 ls []) := by
  obtain ⟨hx, hb, hml, hown, hts, hX, hbl, hK, hDD⟩ := C
  have hbA : ¬ LA s b := Nat.not_le.mpr hbl
  have q : (s_P_read S).1 = (s_M_read M).1 ∧ Rel (s_P_read S).2 (s_M_read M).2 := q_read hR
  refine lv_aload_n hx hb d_L_law_840 rfl (lv_at hl 1 rfl) ?_
  refine k_mvi (rest := []) (c_P_read l E ad (wm E ae M) S (LA s)) mi_P_read ml_L_102 hx hb hml hts hown hK hP (fun S' => hDD S' M) hS rvP hl ⟨rfl, rfl⟩ ⟨(Nat.le_of_ble_eq_true rfl), (Nat.le_of_ble_eq_true rfl)⟩ ⟨Nat.le_refl _, Nat.le_refl _⟩ rfl (Nat.le_of_ble_eq_true rfl) rfl d_L_law_841 (fun H locs hP hS => ?_)
  have hP : va_P E.1 vwCl (wb E ad (s_P_read S).2 ++ wm E ae M) H := hP
  refine lv_aload_n hx hb d_L_law_844 rfl (lv_at hl 2 rfl) ?_
  have hQ : va_P E.1 vwCl (wm E ae M ++ wb E ad (s_P_read S).2) H := va_P.swap (a := []) (b := wb E ad (s_P_read S).2) (c := wm E ae M) hP
  refine k_mvi (rest := [.int (s_P_read S).1]) (c_M_read l E ae (wb E ad (s_P_read S).2) M (LA s) hR.G hR.F) mi_M_read ml_L_105 hx hb hml hts hown hK hQ (fun M' => va_D.swap (a := []) (b := wb E ad (s_P_read S).2) (c := wm E ae M') (hDD (s_P_read S).2 M')) hS rvM hl ⟨rfl, rfl⟩ ⟨(Nat.le_of_ble_eq_true rfl), (Nat.le_of_ble_eq_true rfl)⟩ ⟨Nat.le_refl _, Nat.le_refl _⟩ rfl (Nat.le_of_ble_eq_true rfl) rfl d_L_law_845 (fun H locs hP hS => ?_)
  have hP : va_P E.1 vwCl (wb E ad (s_P_read S).2 ++ wm E ae (s_M_read M).2) H := va_P.swap (a := []) (b := wm E ae (s_M_read M).2) (c := wb E ad (s_P_read S).2) hP
  refine lv_icmp_eq (tgt := 1088) hx hb d_L_law_848 (by decide) (fun _ => ?_) (fun c_e => absurd q.1 c_e)
  exact kk _ _ _ _ q.2 hP hS
set_option maxRecDepth 20000 in
theorem lc_21 (C : LC p s m c b L xs E ad ae) (hi : LX i L) (hR : Rel S M) (hP : va_P E.1 vwCl (wb E ad S ++ wm E ae M) H) (hS : va_S (LA s) s.heap H locs) (hl : lv_has ls 4 [(0, .ref b), (1, .ref (ad 39)), (2, .ref (ae 0)), (3, .int i)]) (kk : ∀ (S' M' : St) (H' : Heap) (locs' : List Loc), Rel S' M' → va_P E.1 vwCl (wb E ad S' ++ wm E ae M') H' → va_S (LA s) s.heap H' locs' → W p l e room_1 s m #[Value.ref b] below meth c H' locs' 600000 7302249 Q (F0 m 1088 ls [])) : W p l e room_1 s m #[Value.ref b] below meth c H locs 600000 7302249 Q (F0 m 853 ls []) := by
  obtain ⟨hx, hb, hml, hown, hts, hX, hbl, hK, hDD⟩ := C
  have hbA : ¬ LA s b := Nat.not_le.mpr hbl
  have q : (s_P_row S (xs (i + (1 : Int32)).toNatClampNeg) (xs (i + (2 : Int32)).toNatClampNeg)).1 = (s_M_row M (xs (i + (1 : Int32)).toNatClampNeg) (xs (i + (2 : Int32)).toNatClampNeg)).1 ∧ Rel (s_P_row S (xs (i + (1 : Int32)).toNatClampNeg) (xs (i + (2 : Int32)).toNatClampNeg)).2 (s_M_row M (xs (i + (1 : Int32)).toNatClampNeg) (xs (i + (2 : Int32)).toNatClampNeg)).2 := q_row hR
  refine lv_aload_n hx hb d_L_law_853 rfl (lv_at hl 1 rfl) ?_
  refine lv_aload_n hx hb d_L_law_854 rfl (lv_at hl 0 rfl) ?_
  refine lv_iload_n hx hb d_L_law_855 rfl (lv_at hl 3 rfl) ?_
  refine lv_iconst (v := (1 : Int32)) hx hb d_L_law_856 rfl ?_
  refine lv_iadd hx hb d_L_law_857 ?_
  refine va_sld hx hb hX hbl hbA hS (lx_1 hi) d_L_law_858 ?_
  refine lv_aload_n hx hb d_L_law_859 rfl (lv_at hl 0 rfl) ?_
  refine lv_iload_n hx hb d_L_law_860 rfl (lv_at hl 3 rfl) ?_
  refine lv_iconst (v := (2 : Int32)) hx hb d_L_law_861 rfl ?_
  refine lv_iadd hx hb d_L_law_862 ?_
  refine va_sld hx hb hX hbl hbA hS (lx_2 hi) d_L_law_863 ?_
  refine k_mvi (rest := []) (c_P_row l E ad (wm E ae M) S (LA s) (xs (i + (1 : Int32)).toNatClampNeg) (xs (i + (2 : Int32)).toNatClampNeg)) mi_P_row ml_L_106 hx hb hml hts hown hK hP (fun S' => hDD S' M) hS rvP hl ⟨rfl, rfl⟩ ⟨(Nat.le_of_ble_eq_true rfl), (Nat.le_of_ble_eq_true rfl)⟩ ⟨Nat.le_refl _, Nat.le_refl _⟩ rfl (Nat.le_of_ble_eq_true rfl) rfl d_L_law_864 (fun H locs hP hS => ?_)
  have hP : va_P E.1 vwCl (wb E ad (s_P_row S (xs (i + (1 : Int32)).toNatClampNeg) (xs (i + (2 : Int32)).toNatClampNeg)).2 ++ wm E ae M) H := hP
  refine lv_aload_n hx hb d_L_law_867 rfl (lv_at hl 2 rfl) ?_
  refine lv_aload_n hx hb d_L_law_868 rfl (lv_at hl 0 rfl) ?_
  refine lv_iload_n hx hb d_L_law_869 rfl (lv_at hl 3 rfl) ?_
  refine lv_iconst (v := (1 : Int32)) hx hb d_L_law_870 rfl ?_
  refine lv_iadd hx hb d_L_law_871 ?_
  refine va_sld hx hb hX hbl hbA hS (lx_1 hi) d_L_law_872 ?_
  refine lv_aload_n hx hb d_L_law_873 rfl (lv_at hl 0 rfl) ?_
  refine lv_iload_n hx hb d_L_law_874 rfl (lv_at hl 3 rfl) ?_
  refine lv_iconst (v := (2 : Int32)) hx hb d_L_law_875 rfl ?_
  refine lv_iadd hx hb d_L_law_876 ?_
  refine va_sld hx hb hX hbl hbA hS (lx_2 hi) d_L_law_877 ?_
  have hQ : va_P E.1 vwCl (wm E ae M ++ wb E ad (s_P_row S (xs (i + (1 : Int32)).toNatClampNeg) (xs (i + (2 : Int32)).toNatClampNeg)).2) H := va_P.swap (a := []) (b := wb E ad (s_P_row S (xs (i + (1 : Int32)).toNatClampNeg) (xs (i + (2 : Int32)).toNatClampNeg)).2) (c := wm E ae M) hP
  refine k_mvi (rest := [.int (s_P_row S (xs (i + (1 : Int32)).toNatClampNeg) (xs (i + (2 : Int32)).toNatClampNeg)).1]) (c_M_row l E ae (wb E ad (s_P_row S (xs (i + (1 : Int32)).toNatClampNeg) (xs (i + (2 : Int32)).toNatClampNeg)).2) M (LA s) (xs (i + (1 : Int32)).toNatClampNeg) (xs (i + (2 : Int32)).toNatClampNeg)) mi_M_row ml_L_109 hx hb hml hts hown hK hQ (fun M' => va_D.swap (a := []) (b := wb E ad (s_P_row S (xs (i + (1 : Int32)).toNatClampNeg) (xs (i + (2 : Int32)).toNatClampNeg)).2) (c := wm E ae M') (hDD (s_P_row S (xs (i + (1 : Int32)).toNatClampNeg) (xs (i + (2 : Int32)).toNatClampNeg)).2 M')) hS rvM hl ⟨rfl, rfl⟩ ⟨(Nat.le_of_ble_eq_true rfl), (Nat.le_of_ble_eq_true rfl)⟩ ⟨Nat.le_refl _, Nat.le_refl _⟩ rfl (Nat.le_of_ble_eq_true rfl) rfl d_L_law_878 (fun H locs hP hS => ?_)
  have hP : va_P E.1 vwCl (wb E ad (s_P_row S (xs (i + (1 : Int32)).toNatClampNeg) (xs (i + (2 : Int32)).toNatClampNeg)).2 ++ wm E ae (s_M_row M (xs (i + (1 : Int32)).toNatClampNeg) (xs (i + (2 : Int32)).toNatClampNeg)).2) H := va_P.swap (a := []) (b := wm E ae (s_M_row M (xs (i + (1 : Int32)).toNatClampNeg) (xs (i + (2 : Int32)).toNatClampNeg)).2) (c := wb E ad (s_P_row S (xs (i + (1 : Int32)).toNatClampNeg) (xs (i + (2 : Int32)).toNatClampNeg)).2) hP
  refine lv_icmp_eq (tgt := 1088) hx hb d_L_law_881 (by decide) (fun _ => ?_) (fun c_e => absurd q.1 c_e)
  exact kk _ _ _ _ q.2 hP hS
set_option maxRecDepth 20000 in
theorem lc_22 (C : LC p s m c b L xs E ad ae) (hi : LX i L) (hR : Rel S M) (hP : va_P E.1 vwCl (wb E ad S ++ wm E ae M) H) (hS : va_S (LA s) s.heap H locs) (hl : lv_has ls 4 [(0, .ref b), (1, .ref (ad 39)), (2, .ref (ae 0)), (3, .int i)]) (kk : ∀ (S' M' : St) (H' : Heap) (locs' : List Loc), Rel S' M' → va_P E.1 vwCl (wb E ad S' ++ wm E ae M') H' → va_S (LA s) s.heap H' locs' → W p l e room_1 s m #[Value.ref b] below meth c H' locs' 600000 7302249 Q (F0 m 1088 ls [])) : W p l e room_1 s m #[Value.ref b] below meth c H locs 600000 7302249 Q (F0 m 886 ls []) := by
  obtain ⟨hx, hb, hml, hown, hts, hX, hbl, hK, hDD⟩ := C
  have hbA : ¬ LA s b := Nat.not_le.mpr hbl
  have q : (s_P_put S (xs (i + (1 : Int32)).toNatClampNeg) (xs (i + (2 : Int32)).toNatClampNeg) ((((xs (i + (3 : Int32)).toNatClampNeg).toInt64) <<< ((32 : Int32).toInt64 &&& 63)) ||| (((xs (i + (4 : Int32)).toNatClampNeg).toInt64) &&& (4294967295 : Int64)))).1 = (s_M_put M (xs (i + (1 : Int32)).toNatClampNeg) (xs (i + (2 : Int32)).toNatClampNeg) ((((xs (i + (3 : Int32)).toNatClampNeg).toInt64) <<< ((32 : Int32).toInt64 &&& 63)) ||| (((xs (i + (4 : Int32)).toNatClampNeg).toInt64) &&& (4294967295 : Int64)))).1 ∧ Rel (s_P_put S (xs (i + (1 : Int32)).toNatClampNeg) (xs (i + (2 : Int32)).toNatClampNeg) ((((xs (i + (3 : Int32)).toNatClampNeg).toInt64) <<< ((32 : Int32).toInt64 &&& 63)) ||| (((xs (i + (4 : Int32)).toNatClampNeg).toInt64) &&& (4294967295 : Int64)))).2 (s_M_put M (xs (i + (1 : Int32)).toNatClampNeg) (xs (i + (2 : Int32)).toNatClampNeg) ((((xs (i + (3 : Int32)).toNatClampNeg).toInt64) <<< ((32 : Int32).toInt64 &&& 63)) ||| (((xs (i + (4 : Int32)).toNatClampNeg).toInt64) &&& (4294967295 : Int64)))).2 := q_put hR
  refine lv_aload_n hx hb d_L_law_886 rfl (lv_at hl 1 rfl) ?_
  refine lv_aload_n hx hb d_L_law_887 rfl (lv_at hl 0 rfl) ?_
  refine lv_iload_n hx hb d_L_law_888 rfl (lv_at hl 3 rfl) ?_
  refine lv_iconst (v := (1 : Int32)) hx hb d_L_law_889 rfl ?_
  refine lv_iadd hx hb d_L_law_890 ?_
  refine va_sld hx hb hX hbl hbA hS (lx_1 hi) d_L_law_891 ?_
  refine lv_aload_n hx hb d_L_law_892 rfl (lv_at hl 0 rfl) ?_
  refine lv_iload_n hx hb d_L_law_893 rfl (lv_at hl 3 rfl) ?_
  refine lv_iconst (v := (2 : Int32)) hx hb d_L_law_894 rfl ?_
  refine lv_iadd hx hb d_L_law_895 ?_
  refine va_sld hx hb hX hbl hbA hS (lx_2 hi) d_L_law_896 ?_
  refine lv_aload_n hx hb d_L_law_897 rfl (lv_at hl 0 rfl) ?_
  refine lv_iload_n hx hb d_L_law_898 rfl (lv_at hl 3 rfl) ?_
  refine lv_iconst (v := (3 : Int32)) hx hb d_L_law_899 rfl ?_
  refine lv_iadd hx hb d_L_law_900 ?_
  refine va_sld hx hb hX hbl hbA hS (lx_3 hi) d_L_law_901 ?_
  refine lv_i2l hx hb d_L_law_902 rfl ?_
  refine lv_bipush (v := (32 : Int32)) hx hb d_L_law_903 rfl ?_
  refine lv_lshl hx hb d_L_law_905 rfl ?_
  refine lv_aload_n hx hb d_L_law_906 rfl (lv_at hl 0 rfl) ?_
  refine lv_iload_n hx hb d_L_law_907 rfl (lv_at hl 3 rfl) ?_
  refine lv_iconst (v := (4 : Int32)) hx hb d_L_law_908 rfl ?_
  refine lv_iadd hx hb d_L_law_909 ?_
  refine va_sld hx hb hX hbl hbA hS (lx_4 hi) d_L_law_910 ?_
  refine lv_i2l hx hb d_L_law_911 rfl ?_
  refine lv_ldc2 (v := (4294967295 : Int64)) hx hb hown (hts _ kl_L_110) d_L_law_912 ?_
  refine lv_land hx hb d_L_law_915 ?_
  refine lv_lor hx hb d_L_law_916 ?_
  refine k_mvi (rest := []) (c_P_put l E ad (wm E ae M) S (LA s) (xs (i + (1 : Int32)).toNatClampNeg) (xs (i + (2 : Int32)).toNatClampNeg) ((((xs (i + (3 : Int32)).toNatClampNeg).toInt64) <<< ((32 : Int32).toInt64 &&& 63)) ||| (((xs (i + (4 : Int32)).toNatClampNeg).toInt64) &&& (4294967295 : Int64)))) mi_P_put ml_L_112 hx hb hml hts hown hK hP (fun S' => hDD S' M) hS rvP hl ⟨rfl, rfl⟩ ⟨(Nat.le_of_ble_eq_true rfl), (Nat.le_of_ble_eq_true rfl)⟩ ⟨Nat.le_refl _, Nat.le_refl _⟩ rfl (Nat.le_of_ble_eq_true rfl) rfl d_L_law_917 (fun H locs hP hS => ?_)
  have hP : va_P E.1 vwCl (wb E ad (s_P_put S (xs (i + (1 : Int32)).toNatClampNeg) (xs (i + (2 : Int32)).toNatClampNeg) ((((xs (i + (3 : Int32)).toNatClampNeg).toInt64) <<< ((32 : Int32).toInt64 &&& 63)) ||| (((xs (i + (4 : Int32)).toNatClampNeg).toInt64) &&& (4294967295 : Int64)))).2 ++ wm E ae M) H := hP
  refine lv_aload_n hx hb d_L_law_920 rfl (lv_at hl 2 rfl) ?_
  refine lv_aload_n hx hb d_L_law_921 rfl (lv_at hl 0 rfl) ?_
  refine lv_iload_n hx hb d_L_law_922 rfl (lv_at hl 3 rfl) ?_
  refine lv_iconst (v := (1 : Int32)) hx hb d_L_law_923 rfl ?_
  refine lv_iadd hx hb d_L_law_924 ?_
  refine va_sld hx hb hX hbl hbA hS (lx_1 hi) d_L_law_925 ?_
  refine lv_aload_n hx hb d_L_law_926 rfl (lv_at hl 0 rfl) ?_
  refine lv_iload_n hx hb d_L_law_927 rfl (lv_at hl 3 rfl) ?_
  refine lv_iconst (v := (2 : Int32)) hx hb d_L_law_928 rfl ?_
  refine lv_iadd hx hb d_L_law_929 ?_
  refine va_sld hx hb hX hbl hbA hS (lx_2 hi) d_L_law_930 ?_
  refine lv_aload_n hx hb d_L_law_931 rfl (lv_at hl 0 rfl) ?_
  refine lv_iload_n hx hb d_L_law_932 rfl (lv_at hl 3 rfl) ?_
  refine lv_iconst (v := (3 : Int32)) hx hb d_L_law_933 rfl ?_
  refine lv_iadd hx hb d_L_law_934 ?_
  refine va_sld hx hb hX hbl hbA hS (lx_3 hi) d_L_law_935 ?_
  refine lv_i2l hx hb d_L_law_936 rfl ?_
  refine lv_bipush (v := (32 : Int32)) hx hb d_L_law_937 rfl ?_
  refine lv_lshl hx hb d_L_law_939 rfl ?_
  refine lv_aload_n hx hb d_L_law_940 rfl (lv_at hl 0 rfl) ?_
  refine lv_iload_n hx hb d_L_law_941 rfl (lv_at hl 3 rfl) ?_
  refine lv_iconst (v := (4 : Int32)) hx hb d_L_law_942 rfl ?_
  refine lv_iadd hx hb d_L_law_943 ?_
  refine va_sld hx hb hX hbl hbA hS (lx_4 hi) d_L_law_944 ?_
  refine lv_i2l hx hb d_L_law_945 rfl ?_
  refine lv_ldc2 (v := (4294967295 : Int64)) hx hb hown (hts _ kl_L_110) d_L_law_946 ?_
  refine lv_land hx hb d_L_law_949 ?_
  refine lv_lor hx hb d_L_law_950 ?_
  have hQ : va_P E.1 vwCl (wm E ae M ++ wb E ad (s_P_put S (xs (i + (1 : Int32)).toNatClampNeg) (xs (i + (2 : Int32)).toNatClampNeg) ((((xs (i + (3 : Int32)).toNatClampNeg).toInt64) <<< ((32 : Int32).toInt64 &&& 63)) ||| (((xs (i + (4 : Int32)).toNatClampNeg).toInt64) &&& (4294967295 : Int64)))).2) H := va_P.swap (a := []) (b := wb E ad (s_P_put S (xs (i + (1 : Int32)).toNatClampNeg) (xs (i + (2 : Int32)).toNatClampNeg) ((((xs (i + (3 : Int32)).toNatClampNeg).toInt64) <<< ((32 : Int32).toInt64 &&& 63)) ||| (((xs (i + (4 : Int32)).toNatClampNeg).toInt64) &&& (4294967295 : Int64)))).2) (c := wm E ae M) hP
  refine k_mvi (rest := [.int (s_P_put S (xs (i + (1 : Int32)).toNatClampNeg) (xs (i + (2 : Int32)).toNatClampNeg) ((((xs (i + (3 : Int32)).toNatClampNeg).toInt64) <<< ((32 : Int32).toInt64 &&& 63)) ||| (((xs (i + (4 : Int32)).toNatClampNeg).toInt64) &&& (4294967295 : Int64)))).1]) (c_M_put l E ae (wb E ad (s_P_put S (xs (i + (1 : Int32)).toNatClampNeg) (xs (i + (2 : Int32)).toNatClampNeg) ((((xs (i + (3 : Int32)).toNatClampNeg).toInt64) <<< ((32 : Int32).toInt64 &&& 63)) ||| (((xs (i + (4 : Int32)).toNatClampNeg).toInt64) &&& (4294967295 : Int64)))).2) M (LA s) (xs (i + (1 : Int32)).toNatClampNeg) (xs (i + (2 : Int32)).toNatClampNeg) ((((xs (i + (3 : Int32)).toNatClampNeg).toInt64) <<< ((32 : Int32).toInt64 &&& 63)) ||| (((xs (i + (4 : Int32)).toNatClampNeg).toInt64) &&& (4294967295 : Int64))) hR.Z) mi_M_put ml_L_116 hx hb hml hts hown hK hQ (fun M' => va_D.swap (a := []) (b := wb E ad (s_P_put S (xs (i + (1 : Int32)).toNatClampNeg) (xs (i + (2 : Int32)).toNatClampNeg) ((((xs (i + (3 : Int32)).toNatClampNeg).toInt64) <<< ((32 : Int32).toInt64 &&& 63)) ||| (((xs (i + (4 : Int32)).toNatClampNeg).toInt64) &&& (4294967295 : Int64)))).2) (c := wm E ae M') (hDD (s_P_put S (xs (i + (1 : Int32)).toNatClampNeg) (xs (i + (2 : Int32)).toNatClampNeg) ((((xs (i + (3 : Int32)).toNatClampNeg).toInt64) <<< ((32 : Int32).toInt64 &&& 63)) ||| (((xs (i + (4 : Int32)).toNatClampNeg).toInt64) &&& (4294967295 : Int64)))).2 M')) hS rvM hl ⟨rfl, rfl⟩ ⟨(Nat.le_of_ble_eq_true rfl), (Nat.le_of_ble_eq_true rfl)⟩ ⟨Nat.le_refl _, Nat.le_refl _⟩ rfl (Nat.le_of_ble_eq_true rfl) rfl d_L_law_951 (fun H locs hP hS => ?_)
  have hP : va_P E.1 vwCl (wb E ad (s_P_put S (xs (i + (1 : Int32)).toNatClampNeg) (xs (i + (2 : Int32)).toNatClampNeg) ((((xs (i + (3 : Int32)).toNatClampNeg).toInt64) <<< ((32 : Int32).toInt64 &&& 63)) ||| (((xs (i + (4 : Int32)).toNatClampNeg).toInt64) &&& (4294967295 : Int64)))).2 ++ wm E ae (s_M_put M (xs (i + (1 : Int32)).toNatClampNeg) (xs (i + (2 : Int32)).toNatClampNeg) ((((xs (i + (3 : Int32)).toNatClampNeg).toInt64) <<< ((32 : Int32).toInt64 &&& 63)) ||| (((xs (i + (4 : Int32)).toNatClampNeg).toInt64) &&& (4294967295 : Int64)))).2) H := va_P.swap (a := []) (b := wm E ae (s_M_put M (xs (i + (1 : Int32)).toNatClampNeg) (xs (i + (2 : Int32)).toNatClampNeg) ((((xs (i + (3 : Int32)).toNatClampNeg).toInt64) <<< ((32 : Int32).toInt64 &&& 63)) ||| (((xs (i + (4 : Int32)).toNatClampNeg).toInt64) &&& (4294967295 : Int64)))).2) (c := wb E ad (s_P_put S (xs (i + (1 : Int32)).toNatClampNeg) (xs (i + (2 : Int32)).toNatClampNeg) ((((xs (i + (3 : Int32)).toNatClampNeg).toInt64) <<< ((32 : Int32).toInt64 &&& 63)) ||| (((xs (i + (4 : Int32)).toNatClampNeg).toInt64) &&& (4294967295 : Int64)))).2) hP
  refine lv_icmp_eq (tgt := 1088) hx hb d_L_law_954 (by decide) (fun _ => ?_) (fun c_e => absurd q.1 c_e)
  exact kk _ _ _ _ q.2 hP hS
set_option maxRecDepth 20000 in
theorem lc_23 (C : LC p s m c b L xs E ad ae) (hi : LX i L) (hR : Rel S M) (hP : va_P E.1 vwCl (wb E ad S ++ wm E ae M) H) (hS : va_S (LA s) s.heap H locs) (hl : lv_has ls 4 [(0, .ref b), (1, .ref (ad 39)), (2, .ref (ae 0)), (3, .int i)]) (kk : ∀ (S' M' : St) (H' : Heap) (locs' : List Loc), Rel S' M' → va_P E.1 vwCl (wb E ad S' ++ wm E ae M') H' → va_S (LA s) s.heap H' locs' → W p l e room_1 s m #[Value.ref b] below meth c H' locs' 600000 7302249 Q (F0 m 1088 ls [])) : W p l e room_1 s m #[Value.ref b] below meth c H locs 600000 7302249 Q (F0 m 959 ls []) := by
  obtain ⟨hx, hb, hml, hown, hts, hX, hbl, hK, hDD⟩ := C
  have hbA : ¬ LA s b := Nat.not_le.mpr hbl
  have q : s_P_get S (xs (i + (1 : Int32)).toNatClampNeg) (xs (i + (2 : Int32)).toNatClampNeg) = s_M_get M (xs (i + (1 : Int32)).toNatClampNeg) (xs (i + (2 : Int32)).toNatClampNeg) := q_get hR
  refine lv_aload_n hx hb d_L_law_959 rfl (lv_at hl 1 rfl) ?_
  refine lv_aload_n hx hb d_L_law_960 rfl (lv_at hl 0 rfl) ?_
  refine lv_iload_n hx hb d_L_law_961 rfl (lv_at hl 3 rfl) ?_
  refine lv_iconst (v := (1 : Int32)) hx hb d_L_law_962 rfl ?_
  refine lv_iadd hx hb d_L_law_963 ?_
  refine va_sld hx hb hX hbl hbA hS (lx_1 hi) d_L_law_964 ?_
  refine lv_aload_n hx hb d_L_law_965 rfl (lv_at hl 0 rfl) ?_
  refine lv_iload_n hx hb d_L_law_966 rfl (lv_at hl 3 rfl) ?_
  refine lv_iconst (v := (2 : Int32)) hx hb d_L_law_967 rfl ?_
  refine lv_iadd hx hb d_L_law_968 ?_
  refine va_sld hx hb hX hbl hbA hS (lx_2 hi) d_L_law_969 ?_
  refine k_vl (rest := []) (c_P_get l E ad (wm E ae M) S (xs (i + (1 : Int32)).toNatClampNeg) (xs (i + (2 : Int32)).toNatClampNeg)) mi_P_get ml_L_117 hx hb hml hts hown hK hP rvP hl ⟨rfl, rfl⟩ ⟨(Nat.le_of_ble_eq_true rfl), (Nat.le_of_ble_eq_true rfl)⟩ ⟨Nat.le_refl _, Nat.le_refl _⟩ rfl (Nat.le_of_ble_eq_true rfl) rfl d_L_law_970 ?_
  refine lv_aload_n hx hb d_L_law_973 rfl (lv_at hl 2 rfl) ?_
  refine lv_aload_n hx hb d_L_law_974 rfl (lv_at hl 0 rfl) ?_
  refine lv_iload_n hx hb d_L_law_975 rfl (lv_at hl 3 rfl) ?_
  refine lv_iconst (v := (1 : Int32)) hx hb d_L_law_976 rfl ?_
  refine lv_iadd hx hb d_L_law_977 ?_
  refine va_sld hx hb hX hbl hbA hS (lx_1 hi) d_L_law_978 ?_
  refine lv_aload_n hx hb d_L_law_979 rfl (lv_at hl 0 rfl) ?_
  refine lv_iload_n hx hb d_L_law_980 rfl (lv_at hl 3 rfl) ?_
  refine lv_iconst (v := (2 : Int32)) hx hb d_L_law_981 rfl ?_
  refine lv_iadd hx hb d_L_law_982 ?_
  refine va_sld hx hb hX hbl hbA hS (lx_2 hi) d_L_law_983 ?_
  have hQ : va_P E.1 vwCl (wm E ae M ++ wb E ad S) H := va_P.swap (a := []) (b := wb E ad S) (c := wm E ae M) hP
  refine k_vl (rest := [.long (s_P_get S (xs (i + (1 : Int32)).toNatClampNeg) (xs (i + (2 : Int32)).toNatClampNeg))]) (c_M_get l E ae (wb E ad S) M (xs (i + (1 : Int32)).toNatClampNeg) (xs (i + (2 : Int32)).toNatClampNeg) hR.Z) mi_M_get ml_L_121 hx hb hml hts hown hK hQ rvM hl ⟨rfl, rfl⟩ ⟨(Nat.le_of_ble_eq_true rfl), (Nat.le_of_ble_eq_true rfl)⟩ ⟨Nat.le_refl _, Nat.le_refl _⟩ rfl (Nat.le_of_ble_eq_true rfl) rfl d_L_law_984 ?_
  refine W.lcmp hx hb d_L_law_987 ?_
  refine lv_if_eq (tgt := 1088) hx hb d_L_law_988 (by decide) (fun _ => ?_) (fun c_e => absurd (lcmp_eq.mpr q) c_e)
  exact kk _ _ _ _ hR hP hS
set_option maxRecDepth 20000 in
theorem lc_24 (C : LC p s m c b L xs E ad ae) (hi : LX i L) (hR : Rel S M) (hP : va_P E.1 vwCl (wb E ad S ++ wm E ae M) H) (hS : va_S (LA s) s.heap H locs) (hl : lv_has ls 4 [(0, .ref b), (1, .ref (ad 39)), (2, .ref (ae 0)), (3, .int i)]) (kk : ∀ (S' M' : St) (H' : Heap) (locs' : List Loc), Rel S' M' → va_P E.1 vwCl (wb E ad S' ++ wm E ae M') H' → va_S (LA s) s.heap H' locs' → W p l e room_1 s m #[Value.ref b] below meth c H' locs' 600000 7302249 Q (F0 m 1088 ls [])) : W p l e room_1 s m #[Value.ref b] below meth c H locs 600000 7302249 Q (F0 m 993 ls []) := by
  obtain ⟨hx, hb, hml, hown, hts, hX, hbl, hK, hDD⟩ := C
  have hbA : ¬ LA s b := Nat.not_le.mpr hbl
  have q : (s_P_lay S (xs (i + (1 : Int32)).toNatClampNeg)).1 = (s_M_lay M (xs (i + (1 : Int32)).toNatClampNeg)).1 ∧ Rel (s_P_lay S (xs (i + (1 : Int32)).toNatClampNeg)).2 (s_M_lay M (xs (i + (1 : Int32)).toNatClampNeg)).2 := q_lay hR
  refine lv_aload_n hx hb d_L_law_993 rfl (lv_at hl 1 rfl) ?_
  refine lv_aload_n hx hb d_L_law_994 rfl (lv_at hl 0 rfl) ?_
  refine lv_iload_n hx hb d_L_law_995 rfl (lv_at hl 3 rfl) ?_
  refine lv_iconst (v := (1 : Int32)) hx hb d_L_law_996 rfl ?_
  refine lv_iadd hx hb d_L_law_997 ?_
  refine va_sld hx hb hX hbl hbA hS (lx_1 hi) d_L_law_998 ?_
  refine k_mvi (rest := []) (c_P_lay l E ad (wm E ae M) S (LA s) (xs (i + (1 : Int32)).toNatClampNeg)) mi_P_lay ml_L_122 hx hb hml hts hown hK hP (fun S' => hDD S' M) hS rvP hl ⟨rfl, rfl⟩ ⟨(Nat.le_of_ble_eq_true rfl), (Nat.le_of_ble_eq_true rfl)⟩ ⟨Nat.le_refl _, Nat.le_refl _⟩ rfl (Nat.le_of_ble_eq_true rfl) rfl d_L_law_999 (fun H locs hP hS => ?_)
  have hP : va_P E.1 vwCl (wb E ad (s_P_lay S (xs (i + (1 : Int32)).toNatClampNeg)).2 ++ wm E ae M) H := hP
  refine lv_aload_n hx hb d_L_law_1002 rfl (lv_at hl 2 rfl) ?_
  refine lv_aload_n hx hb d_L_law_1003 rfl (lv_at hl 0 rfl) ?_
  refine lv_iload_n hx hb d_L_law_1004 rfl (lv_at hl 3 rfl) ?_
  refine lv_iconst (v := (1 : Int32)) hx hb d_L_law_1005 rfl ?_
  refine lv_iadd hx hb d_L_law_1006 ?_
  refine va_sld hx hb hX hbl hbA hS (lx_1 hi) d_L_law_1007 ?_
  have hQ : va_P E.1 vwCl (wm E ae M ++ wb E ad (s_P_lay S (xs (i + (1 : Int32)).toNatClampNeg)).2) H := va_P.swap (a := []) (b := wb E ad (s_P_lay S (xs (i + (1 : Int32)).toNatClampNeg)).2) (c := wm E ae M) hP
  refine k_mvi (rest := [.int (s_P_lay S (xs (i + (1 : Int32)).toNatClampNeg)).1]) (c_M_lay l E ae (wb E ad (s_P_lay S (xs (i + (1 : Int32)).toNatClampNeg)).2) M (LA s) (xs (i + (1 : Int32)).toNatClampNeg) hR.G) mi_M_lay ml_L_125 hx hb hml hts hown hK hQ (fun M' => va_D.swap (a := []) (b := wb E ad (s_P_lay S (xs (i + (1 : Int32)).toNatClampNeg)).2) (c := wm E ae M') (hDD (s_P_lay S (xs (i + (1 : Int32)).toNatClampNeg)).2 M')) hS rvM hl ⟨rfl, rfl⟩ ⟨(Nat.le_of_ble_eq_true rfl), (Nat.le_of_ble_eq_true rfl)⟩ ⟨Nat.le_refl _, Nat.le_refl _⟩ rfl (Nat.le_of_ble_eq_true rfl) rfl d_L_law_1008 (fun H locs hP hS => ?_)
  have hP : va_P E.1 vwCl (wb E ad (s_P_lay S (xs (i + (1 : Int32)).toNatClampNeg)).2 ++ wm E ae (s_M_lay M (xs (i + (1 : Int32)).toNatClampNeg)).2) H := va_P.swap (a := []) (b := wm E ae (s_M_lay M (xs (i + (1 : Int32)).toNatClampNeg)).2) (c := wb E ad (s_P_lay S (xs (i + (1 : Int32)).toNatClampNeg)).2) hP
  refine lv_icmp_eq (tgt := 1088) hx hb d_L_law_1011 (by decide) (fun _ => ?_) (fun c_e => absurd q.1 c_e)
  exact kk _ _ _ _ q.2 hP hS
set_option maxRecDepth 20000 in
theorem lc_25 (C : LC p s m c b L xs E ad ae) (hi : LX i L) (hR : Rel S M) (hP : va_P E.1 vwCl (wb E ad S ++ wm E ae M) H) (hS : va_S (LA s) s.heap H locs) (hl : lv_has ls 4 [(0, .ref b), (1, .ref (ad 39)), (2, .ref (ae 0)), (3, .int i)]) (kk : ∀ (S' M' : St) (H' : Heap) (locs' : List Loc), Rel S' M' → va_P E.1 vwCl (wb E ad S' ++ wm E ae M') H' → va_S (LA s) s.heap H' locs' → W p l e room_1 s m #[Value.ref b] below meth c H' locs' 600000 7302249 Q (F0 m 1088 ls [])) : W p l e room_1 s m #[Value.ref b] below meth c H locs 600000 7302249 Q (F0 m 1016 ls []) := by
  obtain ⟨hx, hb, hml, hown, hts, hX, hbl, hK, hDD⟩ := C
  have hbA : ¬ LA s b := Nat.not_le.mpr hbl
  have q : s_P_judge S (xs (i + (1 : Int32)).toNatClampNeg) = s_M_judge M (xs (i + (1 : Int32)).toNatClampNeg) := q_judge hR
  refine lv_aload_n hx hb d_L_law_1016 rfl (lv_at hl 1 rfl) ?_
  refine lv_aload_n hx hb d_L_law_1017 rfl (lv_at hl 0 rfl) ?_
  refine lv_iload_n hx hb d_L_law_1018 rfl (lv_at hl 3 rfl) ?_
  refine lv_iconst (v := (1 : Int32)) hx hb d_L_law_1019 rfl ?_
  refine lv_iadd hx hb d_L_law_1020 ?_
  refine va_sld hx hb hX hbl hbA hS (lx_1 hi) d_L_law_1021 ?_
  refine k_vi (rest := []) (c_P_judge l E ad (wm E ae M) S (xs (i + (1 : Int32)).toNatClampNeg)) mi_P_judge ml_L_126 hx hb hml hts hown hK hP rvP hl ⟨rfl, rfl⟩ ⟨(Nat.le_of_ble_eq_true rfl), (Nat.le_of_ble_eq_true rfl)⟩ ⟨Nat.le_refl _, Nat.le_refl _⟩ rfl (Nat.le_of_ble_eq_true rfl) rfl d_L_law_1022 ?_
  refine lv_aload_n hx hb d_L_law_1025 rfl (lv_at hl 2 rfl) ?_
  refine lv_aload_n hx hb d_L_law_1026 rfl (lv_at hl 0 rfl) ?_
  refine lv_iload_n hx hb d_L_law_1027 rfl (lv_at hl 3 rfl) ?_
  refine lv_iconst (v := (1 : Int32)) hx hb d_L_law_1028 rfl ?_
  refine lv_iadd hx hb d_L_law_1029 ?_
  refine va_sld hx hb hX hbl hbA hS (lx_1 hi) d_L_law_1030 ?_
  have hQ : va_P E.1 vwCl (wm E ae M ++ wb E ad S) H := va_P.swap (a := []) (b := wb E ad S) (c := wm E ae M) hP
  refine k_vi (rest := [.int (s_P_judge S (xs (i + (1 : Int32)).toNatClampNeg))]) (c_M_judge l E ae (wb E ad S) M (xs (i + (1 : Int32)).toNatClampNeg) hR.G hR.Z) mi_M_judge ml_L_129 hx hb hml hts hown hK hQ rvM hl ⟨rfl, rfl⟩ ⟨(Nat.le_of_ble_eq_true rfl), (Nat.le_of_ble_eq_true rfl)⟩ ⟨Nat.le_refl _, Nat.le_refl _⟩ rfl (Nat.le_of_ble_eq_true rfl) rfl d_L_law_1031 ?_
  refine lv_icmp_eq (tgt := 1088) hx hb d_L_law_1034 (by decide) (fun _ => ?_) (fun c_e => absurd q c_e)
  exact kk _ _ _ _ hR hP hS
set_option maxRecDepth 20000 in
theorem lc_26 (C : LC p s m c b L xs E ad ae) (hi : LX i L) (hR : Rel S M) (hP : va_P E.1 vwCl (wb E ad S ++ wm E ae M) H) (hS : va_S (LA s) s.heap H locs) (hl : lv_has ls 4 [(0, .ref b), (1, .ref (ad 39)), (2, .ref (ae 0)), (3, .int i)]) (kk : ∀ (S' M' : St) (H' : Heap) (locs' : List Loc), Rel S' M' → va_P E.1 vwCl (wb E ad S' ++ wm E ae M') H' → va_S (LA s) s.heap H' locs' → W p l e room_1 s m #[Value.ref b] below meth c H' locs' 600000 7302249 Q (F0 m 1088 ls [])) : W p l e room_1 s m #[Value.ref b] below meth c H locs 600000 7302249 Q (F0 m 1039 ls []) := by
  obtain ⟨hx, hb, hml, hown, hts, hX, hbl, hK, hDD⟩ := C
  have hbA : ¬ LA s b := Nat.not_le.mpr hbl
  have q : (s_P_image S).1 = (s_M_image M).1 ∧ Rel (s_P_image S).2 (s_M_image M).2 := q_image hR
  refine lv_aload_n hx hb d_L_law_1039 rfl (lv_at hl 1 rfl) ?_
  refine k_mvi (rest := []) (c_P_image l E ad (wm E ae M) S (LA s)) mi_P_image ml_L_130 hx hb hml hts hown hK hP (fun S' => hDD S' M) hS rvP hl ⟨rfl, rfl⟩ ⟨(Nat.le_of_ble_eq_true rfl), (Nat.le_of_ble_eq_true rfl)⟩ ⟨Nat.le_refl _, Nat.le_refl _⟩ rfl (Nat.le_of_ble_eq_true rfl) rfl d_L_law_1040 (fun H locs hP hS => ?_)
  have hP : va_P E.1 vwCl (wb E ad (s_P_image S).2 ++ wm E ae M) H := hP
  refine lv_aload_n hx hb d_L_law_1043 rfl (lv_at hl 2 rfl) ?_
  have hQ : va_P E.1 vwCl (wm E ae M ++ wb E ad (s_P_image S).2) H := va_P.swap (a := []) (b := wb E ad (s_P_image S).2) (c := wm E ae M) hP
  refine k_mvi (rest := [.int (s_P_image S).1]) (c_M_image l E ae (wb E ad (s_P_image S).2) M (LA s)) mi_M_image ml_L_133 hx hb hml hts hown hK hQ (fun M' => va_D.swap (a := []) (b := wb E ad (s_P_image S).2) (c := wm E ae M') (hDD (s_P_image S).2 M')) hS rvM hl ⟨rfl, rfl⟩ ⟨(Nat.le_of_ble_eq_true rfl), (Nat.le_of_ble_eq_true rfl)⟩ ⟨Nat.le_refl _, Nat.le_refl _⟩ rfl (Nat.le_of_ble_eq_true rfl) rfl d_L_law_1044 (fun H locs hP hS => ?_)
  have hP : va_P E.1 vwCl (wb E ad (s_P_image S).2 ++ wm E ae (s_M_image M).2) H := va_P.swap (a := []) (b := wm E ae (s_M_image M).2) (c := wb E ad (s_P_image S).2) hP
  refine lv_icmp_eq (tgt := 1088) hx hb d_L_law_1047 (by decide) (fun _ => ?_) (fun c_e => absurd q.1 c_e)
  exact kk _ _ _ _ q.2 hP hS
set_option maxRecDepth 20000 in
theorem lc_27 (C : LC p s m c b L xs E ad ae) (hi : LX i L) (hR : Rel S M) (hP : va_P E.1 vwCl (wb E ad S ++ wm E ae M) H) (hS : va_S (LA s) s.heap H locs) (hl : lv_has ls 4 [(0, .ref b), (1, .ref (ad 39)), (2, .ref (ae 0)), (3, .int i)]) (kk : ∀ (S' M' : St) (H' : Heap) (locs' : List Loc), Rel S' M' → va_P E.1 vwCl (wb E ad S' ++ wm E ae M') H' → va_S (LA s) s.heap H' locs' → W p l e room_1 s m #[Value.ref b] below meth c H' locs' 600000 7302249 Q (F0 m 1088 ls [])) : W p l e room_1 s m #[Value.ref b] below meth c H locs 600000 7302249 Q (F0 m 1052 ls []) := by
  obtain ⟨hx, hb, hml, hown, hts, hX, hbl, hK, hDD⟩ := C
  have hbA : ¬ LA s b := Nat.not_le.mpr hbl
  have q : (s_P_undo S).1 = (s_M_undo M).1 ∧ Rel (s_P_undo S).2 (s_M_undo M).2 := q_undo hR
  refine lv_aload_n hx hb d_L_law_1052 rfl (lv_at hl 1 rfl) ?_
  refine k_mvi (rest := []) (c_P_undo l E ad (wm E ae M) S (LA s)) mi_P_undo ml_L_134 hx hb hml hts hown hK hP (fun S' => hDD S' M) hS rvP hl ⟨rfl, rfl⟩ ⟨(Nat.le_of_ble_eq_true rfl), (Nat.le_of_ble_eq_true rfl)⟩ ⟨Nat.le_refl _, Nat.le_refl _⟩ rfl (Nat.le_of_ble_eq_true rfl) rfl d_L_law_1053 (fun H locs hP hS => ?_)
  have hP : va_P E.1 vwCl (wb E ad (s_P_undo S).2 ++ wm E ae M) H := hP
  refine lv_aload_n hx hb d_L_law_1056 rfl (lv_at hl 2 rfl) ?_
  have hQ : va_P E.1 vwCl (wm E ae M ++ wb E ad (s_P_undo S).2) H := va_P.swap (a := []) (b := wb E ad (s_P_undo S).2) (c := wm E ae M) hP
  refine k_mvi (rest := [.int (s_P_undo S).1]) (c_M_undo l E ae (wb E ad (s_P_undo S).2) M (LA s)) mi_M_undo ml_L_137 hx hb hml hts hown hK hQ (fun M' => va_D.swap (a := []) (b := wb E ad (s_P_undo S).2) (c := wm E ae M') (hDD (s_P_undo S).2 M')) hS rvM hl ⟨rfl, rfl⟩ ⟨(Nat.le_of_ble_eq_true rfl), (Nat.le_of_ble_eq_true rfl)⟩ ⟨Nat.le_refl _, Nat.le_refl _⟩ rfl (Nat.le_of_ble_eq_true rfl) rfl d_L_law_1057 (fun H locs hP hS => ?_)
  have hP : va_P E.1 vwCl (wb E ad (s_P_undo S).2 ++ wm E ae (s_M_undo M).2) H := va_P.swap (a := []) (b := wm E ae (s_M_undo M).2) (c := wb E ad (s_P_undo S).2) hP
  refine lv_icmp_eq (tgt := 1088) hx hb d_L_law_1060 (by decide) (fun _ => ?_) (fun c_e => absurd q.1 c_e)
  exact kk _ _ _ _ q.2 hP hS
set_option maxRecDepth 20000 in
theorem lc_28 (C : LC p s m c b L xs E ad ae) (hi : LX i L) (hR : Rel S M) (hP : va_P E.1 vwCl (wb E ad S ++ wm E ae M) H) (hS : va_S (LA s) s.heap H locs) (hl : lv_has ls 4 [(0, .ref b), (1, .ref (ad 39)), (2, .ref (ae 0)), (3, .int i)]) (kk : ∀ (S' M' : St) (H' : Heap) (locs' : List Loc), Rel S' M' → va_P E.1 vwCl (wb E ad S' ++ wm E ae M') H' → va_S (LA s) s.heap H' locs' → W p l e room_1 s m #[Value.ref b] below meth c H' locs' 600000 7302249 Q (F0 m 1088 ls [])) : W p l e room_1 s m #[Value.ref b] below meth c H locs 600000 7302249 Q (F0 m 1065 ls []) := by
  obtain ⟨hx, hb, hml, hown, hts, hX, hbl, hK, hDD⟩ := C
  have hbA : ¬ LA s b := Nat.not_le.mpr hbl
  have q : s_P_count S (xs (i + (1 : Int32)).toNatClampNeg) = s_M_count M (xs (i + (1 : Int32)).toNatClampNeg) := q_count hR
  refine lv_aload_n hx hb d_L_law_1065 rfl (lv_at hl 1 rfl) ?_
  refine lv_aload_n hx hb d_L_law_1066 rfl (lv_at hl 0 rfl) ?_
  refine lv_iload_n hx hb d_L_law_1067 rfl (lv_at hl 3 rfl) ?_
  refine lv_iconst (v := (1 : Int32)) hx hb d_L_law_1068 rfl ?_
  refine lv_iadd hx hb d_L_law_1069 ?_
  refine va_sld hx hb hX hbl hbA hS (lx_1 hi) d_L_law_1070 ?_
  refine k_vi (rest := []) (c_P_count l E ad (wm E ae M) S (xs (i + (1 : Int32)).toNatClampNeg)) mi_P_count ml_L_138 hx hb hml hts hown hK hP rvP hl ⟨rfl, rfl⟩ ⟨(Nat.le_of_ble_eq_true rfl), (Nat.le_of_ble_eq_true rfl)⟩ ⟨Nat.le_refl _, Nat.le_refl _⟩ rfl (Nat.le_of_ble_eq_true rfl) rfl d_L_law_1071 ?_
  refine lv_aload_n hx hb d_L_law_1074 rfl (lv_at hl 2 rfl) ?_
  refine lv_aload_n hx hb d_L_law_1075 rfl (lv_at hl 0 rfl) ?_
  refine lv_iload_n hx hb d_L_law_1076 rfl (lv_at hl 3 rfl) ?_
  refine lv_iconst (v := (1 : Int32)) hx hb d_L_law_1077 rfl ?_
  refine lv_iadd hx hb d_L_law_1078 ?_
  refine va_sld hx hb hX hbl hbA hS (lx_1 hi) d_L_law_1079 ?_
  have hQ : va_P E.1 vwCl (wm E ae M ++ wb E ad S) H := va_P.swap (a := []) (b := wb E ad S) (c := wm E ae M) hP
  refine k_vi (rest := [.int (s_P_count S (xs (i + (1 : Int32)).toNatClampNeg))]) (c_M_count l E ae (wb E ad S) M (xs (i + (1 : Int32)).toNatClampNeg) hR.G) mi_M_count ml_L_141 hx hb hml hts hown hK hQ rvM hl ⟨rfl, rfl⟩ ⟨(Nat.le_of_ble_eq_true rfl), (Nat.le_of_ble_eq_true rfl)⟩ ⟨Nat.le_refl _, Nat.le_refl _⟩ rfl (Nat.le_of_ble_eq_true rfl) rfl d_L_law_1080 ?_
  refine lv_icmp_eq (tgt := 1088) hx hb d_L_law_1083 (by decide) (fun _ => ?_) (fun c_e => absurd q c_e)
  exact kk _ _ _ _ hR hP hS
end LAWC
