/-! act walked: by program (wip/p32/lawact.py) behind its wrapper -/
def preX (E : Cx) (A : Nat → Prop) (Wf : St → va_W) (S : St) (tq : Nat) (aK aV : Nat → Nat) (U : State) : Prop := preM E A Wf S U ∧ JX tq aK aV A U
theorem fb_X {av : List Value} {E : Cx} {A : Nat → Prop} {Wf : St → va_W} {S : St} {tq : Nat} {aK aV : Nat → Nat} : FrameBlind (va_Pc av (preX E A Wf S tq aK aV)) := fun a U g mk q => ⟨q.1, (fb_M (av := av) a U g mk ⟨q.1, q.2.1⟩).2, JX.fb U g mk a q.2.2⟩
theorem w_muIX {l : Launch} {y : MethodName} {cc : ByteArray} {maxL : Nat} {rt : FieldType} {rm : Room} {av : List Value} {E : Cx} {A : Nat → Prop} {Wf : St → va_W} {S : St} {T : Int32 × St} {tq : Nat} {aK aV : Nat → Nat} (hy : plainName y.cls = true) (hsl : (lg_sl av).length ≤ maxL) (hn : narrow rt (.int T.1) = .int T.1)
    (body : ∀ (p : Program) (e : Env) (s : State) (m : MethodId) (args : Array Value) (below : List Frame) (meth : Method) (c : Code) (Q : State → Prop) (ls : Array Slot), p.tables.exec = Jvm.exec → c.code = cc → c.maxLocals = maxL → (∀ w ∈ TB, w.before args s = true) → s.vm.findClass y.cls = some m.cls → va_P E.1 vwCl (Wf S) s.heap → KK E s → (∀ S' : St, va_D A (Wf S')) → va_S A s.heap s.heap [] → TX tq aK aV A s s.heap → lv_has ls maxL (lv_args 0 av) →
      (∀ (pc : Nat) (ls : Array Slot) (r : Int32) (u : St) (H : Heap) (locs : List Loc), (r, u) = T → va_P E.1 vwCl (Wf u) H → va_S A s.heap H locs → decode cc pc = .ok (.ireturn, 1) → W p l e rm s m args below meth c H locs 0 0 Q (F0 m pc ls [.int r])) → W p l e rm s m args below meth c s.heap [] 0 0 Q (F0 m 0 ls [])) :
    Met l y (Cond.code y cc maxL (some rt) :: TB) rm (va_Pc av (preX E A Wf S tq aK aV)) (va_Qi (fun r u => (r, u) = T) (fun u t => va_P E.1 vwCl (Wf u) t.heap) A) 0 0 A := by
  refine Met.ofW (cc := cc) (maxL := maxL) (ret := some rt) hy rfl ?_
  intro p e s m args below meth c s₁ B hml hv
  obtain ⟨rfl, ⟨hP, hK, hD⟩, hX⟩ := hv
  have hts0 := atoms_spec (ws := Cond.code y cc maxL (some rt) :: TB) B.pre
  have hown : s.vm.findClass y.cls = some m.cls := findClass_of_methodNamed B.named
  rw [lg_entry_eq]
  exact body p e s m _ below meth c _ _ B.exec B.bytes hml (fun w h => hts0 w (List.mem_cons_of_mem _ h)) hown hP hK hD va_S.rf hX (lv_entry av hsl) (fun pc ls r u H locs hrT hP1 hS1 hdg => W.zret B.exec B.bytes B.returns (by rw [← hrT] at hn; exact hn) (fun t ht hW => ⟨⟨r, u, rfl, hrT, by show va_P E.1 vwCl (Wf u) t.heap; rw [ht]; exact hP1⟩, hS1.F ht⟩) hS1.2.2 hdg (hlocks := B.notSynchronized))
theorem UP_nn {n : Nat} {B x : Int32} (h : UP n B x) : ¬ x < 0 := by rw [lt32, z32]; have := h.2.2; omega
theorem tLen_f {k : Nat} (hk : k < 10) : (nI (tLen k)).toInt.toNat + 1 ≤ 17 := by
  have h := tLen_lt hk
  rw [nI_toInt (by omega)]; omega
theorem rem10 (x : Int32) (h : 0 ≤ x.toInt) : 0 ≤ (x - x / (10 : Int32) * (10 : Int32)).toInt ∧ (x - x / (10 : Int32) * (10 : Int32)).toInt < 10 := by
  have e10 : (10 : Int32).toInt = 10 := by decide
  have e := i32_rem (x := x) (y := (10 : Int32)) (by rw [e10]; decide)
  rw [e10, Int.tmod_eq_emod_of_nonneg h] at e
  have b1 := Int.emod_nonneg x.toInt (show (10 : Int) ≠ 0 by decide)
  have b2 := Int.emod_lt_of_pos x.toInt (show (0 : Int) < 10 by decide)
  omega
theorem y10_in (a : Int32) : vp_in (((a >>> ((4 : Int32) &&& 31)) &&& (65535 : Int32)) - ((a >>> ((4 : Int32) &&& 31)) &&& (65535 : Int32)) / (10 : Int32) * (10 : Int32)) 10 := vin_k (rem10 _ (and_65535 _).1)
theorem y10 (a : Int32) : (((a >>> ((4 : Int32) &&& 31)) &&& (65535 : Int32)) - ((a >>> ((4 : Int32) &&& 31)) &&& (65535 : Int32)) / (10 : Int32) * (10 : Int32)).toNatClampNeg < 10 := by
  have h := rem10 _ (and_65535 (a >>> ((4 : Int32) &&& 31))).1
  unfold Int32.toNatClampNeg
  omega
def s_L_act_b119 (Z : St) (t0 : Int32) : Int32 × St := ((s_P_wheel Z t0).1, (s_P_wheel Z t0).2)
def s_L_act_b196 : Nat → St → Nat → Int32 → Int32 × St
  | 0, Z, _, _ => (0, Z)
  | n + 1, Z, r4, x5 => (if (nI (tLen r4)) ≤ x5 then ((s_P_read Z).1, (s_P_read Z).2) else (s_L_act_b196 n (s_P_feed Z (tCh r4 x5.toNatClampNeg)).2 r4 (x5 + 1)))
def s_L_act (S : St) (a1 : Int32) : Int32 × St := (if (a1 &&& (15 : Int32)) = 0 then (if (((a1 >>> ((4 : Int32) &&& 31)) &&& (65535 : Int32)) &&& (3 : Int32)) = 0 then (s_L_act_b119 S ((-18 : Int32) - ((((a1 >>> ((4 : Int32) &&& 31)) &&& (65535 : Int32)) >>> ((2 : Int32) &&& 31)) - (((a1 >>> ((4 : Int32) &&& 31)) &&& (65535 : Int32)) >>> ((2 : Int32) &&& 31)) / (84 : Int32) * (84 : Int32)))) else (s_L_act_b119 S ((3 : Int32) + ((((a1 >>> ((4 : Int32) &&& 31)) &&& (65535 : Int32)) >>> ((2 : Int32) &&& 31)) - (((a1 >>> ((4 : Int32) &&& 31)) &&& (65535 : Int32)) >>> ((2 : Int32) &&& 31)) / (99 : Int32) * (99 : Int32))))) else (if (a1 &&& (15 : Int32)) = 1 then (if (((a1 >>> ((4 : Int32) &&& 31)) &&& (65535 : Int32)) &&& (3 : Int32)) = 0 then (s_L_act_b119 S ((-18 : Int32) - ((((a1 >>> ((4 : Int32) &&& 31)) &&& (65535 : Int32)) >>> ((2 : Int32) &&& 31)) - (((a1 >>> ((4 : Int32) &&& 31)) &&& (65535 : Int32)) >>> ((2 : Int32) &&& 31)) / (84 : Int32) * (84 : Int32)))) else (s_L_act_b119 S ((3 : Int32) + ((((a1 >>> ((4 : Int32) &&& 31)) &&& (65535 : Int32)) >>> ((2 : Int32) &&& 31)) - (((a1 >>> ((4 : Int32) &&& 31)) &&& (65535 : Int32)) >>> ((2 : Int32) &&& 31)) / (99 : Int32) * (99 : Int32))))) else (if (a1 &&& (15 : Int32)) = 2 then (if (((a1 >>> ((4 : Int32) &&& 31)) &&& (65535 : Int32)) &&& (3 : Int32)) = 0 then (s_L_act_b119 S ((-18 : Int32) - ((((a1 >>> ((4 : Int32) &&& 31)) &&& (65535 : Int32)) >>> ((2 : Int32) &&& 31)) - (((a1 >>> ((4 : Int32) &&& 31)) &&& (65535 : Int32)) >>> ((2 : Int32) &&& 31)) / (84 : Int32) * (84 : Int32)))) else (s_L_act_b119 S ((3 : Int32) + ((((a1 >>> ((4 : Int32) &&& 31)) &&& (65535 : Int32)) >>> ((2 : Int32) &&& 31)) - (((a1 >>> ((4 : Int32) &&& 31)) &&& (65535 : Int32)) >>> ((2 : Int32) &&& 31)) / (99 : Int32) * (99 : Int32))))) else (if (a1 &&& (15 : Int32)) = 3 then ((s_P_shift S (((a1 >>> ((4 : Int32) &&& 31)) &&& (65535 : Int32)) - ((a1 >>> ((4 : Int32) &&& 31)) &&& (65535 : Int32)) / ((s_P_count S (0 : Int32)) + (1 : Int32)) * ((s_P_count S (0 : Int32)) + (1 : Int32))) (((((a1 >>> ((4 : Int32) &&& 31)) &&& (65535 : Int32)) >>> ((5 : Int32) &&& 31)) - (((a1 >>> ((4 : Int32) &&& 31)) &&& (65535 : Int32)) >>> ((5 : Int32) &&& 31)) / (155 : Int32) * (155 : Int32)) - (52 : Int32))).1, (s_P_shift S (((a1 >>> ((4 : Int32) &&& 31)) &&& (65535 : Int32)) - ((a1 >>> ((4 : Int32) &&& 31)) &&& (65535 : Int32)) / ((s_P_count S (0 : Int32)) + (1 : Int32)) * ((s_P_count S (0 : Int32)) + (1 : Int32))) (((((a1 >>> ((4 : Int32) &&& 31)) &&& (65535 : Int32)) >>> ((5 : Int32) &&& 31)) - (((a1 >>> ((4 : Int32) &&& 31)) &&& (65535 : Int32)) >>> ((5 : Int32) &&& 31)) / (155 : Int32) * (155 : Int32)) - (52 : Int32))).2) else (if (a1 &&& (15 : Int32)) = 4 then ((s_P_shift S (((a1 >>> ((4 : Int32) &&& 31)) &&& (65535 : Int32)) - ((a1 >>> ((4 : Int32) &&& 31)) &&& (65535 : Int32)) / ((s_P_count S (0 : Int32)) + (1 : Int32)) * ((s_P_count S (0 : Int32)) + (1 : Int32))) (((((a1 >>> ((4 : Int32) &&& 31)) &&& (65535 : Int32)) >>> ((5 : Int32) &&& 31)) - (((a1 >>> ((4 : Int32) &&& 31)) &&& (65535 : Int32)) >>> ((5 : Int32) &&& 31)) / (155 : Int32) * (155 : Int32)) - (52 : Int32))).1, (s_P_shift S (((a1 >>> ((4 : Int32) &&& 31)) &&& (65535 : Int32)) - ((a1 >>> ((4 : Int32) &&& 31)) &&& (65535 : Int32)) / ((s_P_count S (0 : Int32)) + (1 : Int32)) * ((s_P_count S (0 : Int32)) + (1 : Int32))) (((((a1 >>> ((4 : Int32) &&& 31)) &&& (65535 : Int32)) >>> ((5 : Int32) &&& 31)) - (((a1 >>> ((4 : Int32) &&& 31)) &&& (65535 : Int32)) >>> ((5 : Int32) &&& 31)) / (155 : Int32) * (155 : Int32)) - (52 : Int32))).2) else (if (a1 &&& (15 : Int32)) = 5 then ((s_P_pressure S (((a1 >>> ((4 : Int32) &&& 31)) &&& (65535 : Int32)) &&& (3 : Int32))).1, (s_P_pressure S (((a1 >>> ((4 : Int32) &&& 31)) &&& (65535 : Int32)) &&& (3 : Int32))).2) else (if (a1 &&& (15 : Int32)) = 6 then ((s_P_pair S (((a1 >>> ((4 : Int32) &&& 31)) &&& (65535 : Int32)) - ((a1 >>> ((4 : Int32) &&& 31)) &&& (65535 : Int32)) / ((s_P_count S (0 : Int32)) + (1 : Int32)) * ((s_P_count S (0 : Int32)) + (1 : Int32))) ((((a1 >>> ((4 : Int32) &&& 31)) &&& (65535 : Int32)) >>> ((6 : Int32) &&& 31)) - (((a1 >>> ((4 : Int32) &&& 31)) &&& (65535 : Int32)) >>> ((6 : Int32) &&& 31)) / ((s_P_count S (0 : Int32)) + (1 : Int32)) * ((s_P_count S (0 : Int32)) + (1 : Int32)))).1, (s_P_pair S (((a1 >>> ((4 : Int32) &&& 31)) &&& (65535 : Int32)) - ((a1 >>> ((4 : Int32) &&& 31)) &&& (65535 : Int32)) / ((s_P_count S (0 : Int32)) + (1 : Int32)) * ((s_P_count S (0 : Int32)) + (1 : Int32))) ((((a1 >>> ((4 : Int32) &&& 31)) &&& (65535 : Int32)) >>> ((6 : Int32) &&& 31)) - (((a1 >>> ((4 : Int32) &&& 31)) &&& (65535 : Int32)) >>> ((6 : Int32) &&& 31)) / ((s_P_count S (0 : Int32)) + (1 : Int32)) * ((s_P_count S (0 : Int32)) + (1 : Int32)))).2) else (if (a1 &&& (15 : Int32)) = 7 then ((s_P_pair S (((a1 >>> ((4 : Int32) &&& 31)) &&& (65535 : Int32)) - ((a1 >>> ((4 : Int32) &&& 31)) &&& (65535 : Int32)) / ((s_P_count S (0 : Int32)) + (1 : Int32)) * ((s_P_count S (0 : Int32)) + (1 : Int32))) ((((a1 >>> ((4 : Int32) &&& 31)) &&& (65535 : Int32)) >>> ((6 : Int32) &&& 31)) - (((a1 >>> ((4 : Int32) &&& 31)) &&& (65535 : Int32)) >>> ((6 : Int32) &&& 31)) / ((s_P_count S (0 : Int32)) + (1 : Int32)) * ((s_P_count S (0 : Int32)) + (1 : Int32)))).1, (s_P_pair S (((a1 >>> ((4 : Int32) &&& 31)) &&& (65535 : Int32)) - ((a1 >>> ((4 : Int32) &&& 31)) &&& (65535 : Int32)) / ((s_P_count S (0 : Int32)) + (1 : Int32)) * ((s_P_count S (0 : Int32)) + (1 : Int32))) ((((a1 >>> ((4 : Int32) &&& 31)) &&& (65535 : Int32)) >>> ((6 : Int32) &&& 31)) - (((a1 >>> ((4 : Int32) &&& 31)) &&& (65535 : Int32)) >>> ((6 : Int32) &&& 31)) / ((s_P_count S (0 : Int32)) + (1 : Int32)) * ((s_P_count S (0 : Int32)) + (1 : Int32)))).2) else (if (a1 &&& (15 : Int32)) = 8 then ((s_P_pair S (((a1 >>> ((4 : Int32) &&& 31)) &&& (65535 : Int32)) - ((a1 >>> ((4 : Int32) &&& 31)) &&& (65535 : Int32)) / ((s_P_count S (0 : Int32)) + (1 : Int32)) * ((s_P_count S (0 : Int32)) + (1 : Int32))) ((((a1 >>> ((4 : Int32) &&& 31)) &&& (65535 : Int32)) >>> ((6 : Int32) &&& 31)) - (((a1 >>> ((4 : Int32) &&& 31)) &&& (65535 : Int32)) >>> ((6 : Int32) &&& 31)) / ((s_P_count S (0 : Int32)) + (1 : Int32)) * ((s_P_count S (0 : Int32)) + (1 : Int32)))).1, (s_P_pair S (((a1 >>> ((4 : Int32) &&& 31)) &&& (65535 : Int32)) - ((a1 >>> ((4 : Int32) &&& 31)) &&& (65535 : Int32)) / ((s_P_count S (0 : Int32)) + (1 : Int32)) * ((s_P_count S (0 : Int32)) + (1 : Int32))) ((((a1 >>> ((4 : Int32) &&& 31)) &&& (65535 : Int32)) >>> ((6 : Int32) &&& 31)) - (((a1 >>> ((4 : Int32) &&& 31)) &&& (65535 : Int32)) >>> ((6 : Int32) &&& 31)) / ((s_P_count S (0 : Int32)) + (1 : Int32)) * ((s_P_count S (0 : Int32)) + (1 : Int32)))).2) else (if (a1 &&& (15 : Int32)) = 9 then (if (((a1 >>> ((4 : Int32) &&& 31)) &&& (65535 : Int32)) &&& (3 : Int32)) = 0 then ((s_P_clear S).1, (s_P_clear S).2) else ((s_P_faulty S), S)) else (if (a1 &&& (15 : Int32)) = 10 then (s_L_act_b196 (17) S (((a1 >>> ((4 : Int32) &&& 31)) &&& (65535 : Int32)) - ((a1 >>> ((4 : Int32) &&& 31)) &&& (65535 : Int32)) / (10 : Int32) * (10 : Int32)).toNatClampNeg (0 : Int32)) else (if (a1 &&& (15 : Int32)) = 11 then (s_L_act_b196 (17) S (((a1 >>> ((4 : Int32) &&& 31)) &&& (65535 : Int32)) - ((a1 >>> ((4 : Int32) &&& 31)) &&& (65535 : Int32)) / (10 : Int32) * (10 : Int32)).toNatClampNeg (0 : Int32)) else (if (a1 &&& (15 : Int32)) = 12 then ((s_P_row S (((a1 >>> ((4 : Int32) &&& 31)) &&& (65535 : Int32)) &&& (3 : Int32)) (((((a1 >>> ((4 : Int32) &&& 31)) &&& (65535 : Int32)) >>> ((2 : Int32) &&& 31)) - (((a1 >>> ((4 : Int32) &&& 31)) &&& (65535 : Int32)) >>> ((2 : Int32) &&& 31)) / (23 : Int32) * (23 : Int32)) - (2 : Int32))).1, (s_P_row S (((a1 >>> ((4 : Int32) &&& 31)) &&& (65535 : Int32)) &&& (3 : Int32)) (((((a1 >>> ((4 : Int32) &&& 31)) &&& (65535 : Int32)) >>> ((2 : Int32) &&& 31)) - (((a1 >>> ((4 : Int32) &&& 31)) &&& (65535 : Int32)) >>> ((2 : Int32) &&& 31)) / (23 : Int32) * (23 : Int32)) - (2 : Int32))).2) else (if (a1 &&& (15 : Int32)) = 13 then (if (((a1 >>> ((4 : Int32) &&& 31)) &&& (65535 : Int32)) &&& (1 : Int32)) = 0 then ((s_P_put S ((((a1 >>> ((4 : Int32) &&& 31)) &&& (65535 : Int32)) >>> ((1 : Int32) &&& 31)) &&& (3 : Int32)) ((((a1 >>> ((4 : Int32) &&& 31)) &&& (65535 : Int32)) >>> ((3 : Int32) &&& 31)) - (((a1 >>> ((4 : Int32) &&& 31)) &&& (65535 : Int32)) >>> ((3 : Int32) &&& 31)) / (20 : Int32) * (20 : Int32)) ((((a1 >>> ((4 : Int32) &&& 31)) &&& (65535 : Int32)) >>> ((5 : Int32) &&& 31)).toInt64)).1, (s_P_put S ((((a1 >>> ((4 : Int32) &&& 31)) &&& (65535 : Int32)) >>> ((1 : Int32) &&& 31)) &&& (3 : Int32)) ((((a1 >>> ((4 : Int32) &&& 31)) &&& (65535 : Int32)) >>> ((3 : Int32) &&& 31)) - (((a1 >>> ((4 : Int32) &&& 31)) &&& (65535 : Int32)) >>> ((3 : Int32) &&& 31)) / (20 : Int32) * (20 : Int32)) ((((a1 >>> ((4 : Int32) &&& 31)) &&& (65535 : Int32)) >>> ((5 : Int32) &&& 31)).toInt64)).2) else ((s_P_lay S ((((a1 >>> ((4 : Int32) &&& 31)) &&& (65535 : Int32)) >>> ((1 : Int32) &&& 31)) &&& (3 : Int32))).1, (s_P_lay S ((((a1 >>> ((4 : Int32) &&& 31)) &&& (65535 : Int32)) >>> ((1 : Int32) &&& 31)) &&& (3 : Int32))).2)) else (if (a1 &&& (15 : Int32)) = 14 then ((s_P_image S).1, (s_P_image S).2) else ((s_P_undo S).1, (s_P_undo S).2))))))))))))))))
set_option maxRecDepth 20000 in
theorem c_L_act (l : Launch) (E : Cx) (ad : Nat → Nat) (X : va_W) (S : St) (A : Nat → Prop) (tq : Nat) (aK aV : Nat → Nat) (a1 : Int32) (hn0 : ¬ ((s_P_count S (0 : Int32)) + (1 : Int32)) = 0) : Met l y_L_act (Cond.code y_L_act b_L_act 6 (some .int) :: TB) (rk 7 152) (va_Pc [.ref (ad 39), .int a1] (preX E A (fun S => wb E ad S ++ X) S tq aK aV)) (va_Qi (fun r u => (r, u) = (s_L_act S a1)) (fun u t => va_P E.1 vwCl ((fun S => wb E ad S ++ X) u) t.heap) A) 0 0 A := by
  refine w_muIX rfl (Nat.le_of_ble_eq_true rfl) rfl ?_
  intro p e s m args below meth c Q ls hx hb hml hts hown hP hK hD hS hTX hl hend
  have hl : lv_has ls 6 [(0, .ref (ad 39)), (1, .int a1)] := hl
  have hP : va_P E.1 vwCl (wb E ad S ++ X) s.heap := hP
  have hown : s.vm.findClass R_L = some m.cls := hown
  have hD : ∀ S' : St, va_D A (wb E ad S' ++ X) := hD
  have b119 : ∀ (Z : St) (t0 : Int32) (H : Heap) (locs : List Loc), va_P E.1 vwCl (wb E ad Z ++ X) H → va_S A s.heap H locs → ∀ (ls : Array Slot), lv_has ls 6 [] → (s_L_act S a1) = s_L_act_b119 Z t0 → W p l e (rk 7 152) s m args below meth c H locs 0 0 Q (F0 m 119 ls [.int t0, .ref (ad 39)]) := by
    intro Z t0 H locs hP hS ls hl hq
    refine k_mvi (rest := []) (c_P_wheel l E ad X Z A t0) mi_P_wheel ml_L_14 hx hb hml hts hown hK hP hD hS rvP hl ⟨rfl, rfl⟩ ⟨(Nat.le_of_ble_eq_true rfl), (Nat.le_of_ble_eq_true rfl)⟩ ⟨Nat.zero_le _, Nat.zero_le _⟩ rfl (Nat.le_of_ble_eq_true rfl) rfl d_L_act_119 (fun H locs hP hS => ?_)
    have hP : va_P E.1 vwCl (wb E ad (s_P_wheel Z t0).2 ++ X) H := hP
    exact hend _ _ _ _ _ _ (by rw [hq, s_L_act_b119]) hP hS d_L_act_122
  have b196 : ∀ (n : Nat) (Z : St) (r4 : Nat) (x5 : Int32) (H : Heap) (locs : List Loc), va_P E.1 vwCl (wb E ad Z ++ X) H → va_S A s.heap H locs → (UP n (nI (tLen r4)) x5) → (r4 < 10) → ∀ (ls : Array Slot), lv_has ls 6 [(0, .ref (ad 39)), (4, .ref (aK r4)), (5, .int x5)] → (s_L_act S a1) = s_L_act_b196 n Z r4 x5 → W p l e (rk 7 152) s m args below meth c H locs 0 0 Q (F0 m 196 ls []) := by
    intro n196
    induction n196 with
    | zero => intro Z r4 x5 H locs hP hS hv; exact absurd hv (UP_z)
    | succ n196 ih196 =>
      intro Z r4 x5 H locs hP hS hv hr4 ls hl hq
      refine lv_iload hx hb d_L_act_196 (lv_at hl 2 rfl) ?_
      refine lv_aload hx hb d_L_act_198 (lv_at hl 1 rfl) ?_
      refine k_gvi (rest := [.int x5]) (c_JS_length l tq aK aV A r4 hr4) mi_JS_length ml_L_40 hx hb hml hts hown JX.fb (JX.at hTX hS) (vk_recv hTX.2.2.1 hr4 hS) hl ⟨rfl, rfl⟩ ⟨(Nat.le_of_ble_eq_true rfl), (Nat.le_of_ble_eq_true rfl)⟩ ⟨Nat.zero_le _, Nat.zero_le _⟩ rfl (Nat.le_of_ble_eq_true rfl) rfl d_L_act_200 ?_
      refine lv_icmp_ge (tgt := 224) hx hb d_L_act_203 (by decide) (fun c_203 => ?_) (fun c_203 => ?_)
      · refine lv_aload_n hx hb d_L_act_224 rfl (lv_at hl 0 rfl) ?_
        refine k_mvi (rest := []) (c_P_read l E ad X Z A) mi_P_read ml_L_52 hx hb hml hts hown hK hP hD hS rvP hl ⟨rfl, rfl⟩ ⟨(Nat.le_of_ble_eq_true rfl), (Nat.le_of_ble_eq_true rfl)⟩ ⟨Nat.zero_le _, Nat.zero_le _⟩ rfl (Nat.le_of_ble_eq_true rfl) rfl d_L_act_225 (fun H locs hP hS => ?_)
        have hP : va_P E.1 vwCl (wb E ad (s_P_read Z).2 ++ X) H := hP
        exact hend _ _ _ _ _ _ (by rw [hq, s_L_act_b196, if_pos c_203]) hP hS d_L_act_228
      · refine lv_aload_n hx hb d_L_act_206 rfl (lv_at hl 0 rfl) ?_
        refine lv_aload hx hb d_L_act_207 (lv_at hl 1 rfl) ?_
        refine lv_iload hx hb d_L_act_209 (lv_at hl 2 rfl) ?_
        refine k_gvi (rest := [.ref (ad 39)]) (c_JS_charAt l tq aK aV A r4 hr4 x5 (UP_nn hv) (Int32.not_le.mp c_203)) mi_JS_charAt ml_L_45 hx hb hml hts hown JX.fb (JX.at hTX hS) (vk_recv hTX.2.2.1 hr4 hS) hl ⟨rfl, rfl⟩ ⟨(Nat.le_of_ble_eq_true rfl), (Nat.le_of_ble_eq_true rfl)⟩ ⟨Nat.zero_le _, Nat.zero_le _⟩ rfl (Nat.le_of_ble_eq_true rfl) rfl d_L_act_211 ?_
        refine k_mvi (rest := []) (c_P_feed l E ad X Z A (tCh r4 x5.toNatClampNeg)) mi_P_feed ml_L_49 hx hb hml hts hown hK hP hD hS rvP hl ⟨rfl, rfl⟩ ⟨(Nat.le_of_ble_eq_true rfl), (Nat.le_of_ble_eq_true rfl)⟩ ⟨Nat.zero_le _, Nat.zero_le _⟩ rfl (Nat.le_of_ble_eq_true rfl) rfl d_L_act_214 (fun H locs hP hS => ?_)
        have hP : va_P E.1 vwCl (wb E ad (s_P_feed Z (tCh r4 x5.toNatClampNeg)).2 ++ X) H := hP
        refine lv_pop hx hb d_L_act_217 rfl ?_
        refine lv_iinc (v := (x5 + 1)) (lv' := [(5, .int (x5 + 1)), (0, .ref (ad 39)), (4, .ref (aK r4))]) hx hb d_L_act_218 hl (k := 2) rfl rfl (by decide) rfl (fun ls hl => ?_)
        refine lv_goto (tgt := 196) hx hb d_L_act_221 (by decide) ?_
        exact ih196 (s_P_feed Z (tCh r4 x5.toNatClampNeg)).2 r4 (x5 + 1) H locs hP hS (UP_up hv c_203) hr4 ls (lv_sub hl [1, 2, 0] rfl) (by rw [hq, s_L_act_b196, if_neg c_203])
  refine lv_iload_n hx hb d_L_act_0 rfl (lv_at hl 1 rfl) ?_
  refine lv_iconst (v := (4 : Int32)) hx hb d_L_act_1 rfl ?_
  refine lv_ishr hx hb d_L_act_2 ?_
  refine lv_ldc (v := (65535 : Int32)) hx hb hown (hts _ kc_L_7) d_L_act_3 ?_
  refine lv_iand hx hb d_L_act_5 ?_
  refine lv_istore_n (lv' := [(2, .int ((a1 >>> ((4 : Int32) &&& 31)) &&& (65535 : Int32))), (0, .ref (ad 39)), (1, .int a1)]) hx hb d_L_act_6 rfl hl (by decide) rfl (fun ls hl => ?_)
  refine lv_aload_n hx hb d_L_act_7 rfl (lv_at hl 1 rfl) ?_
  refine lv_iconst (v := (0 : Int32)) hx hb d_L_act_8 rfl ?_
  refine k_vi (rest := []) (c_P_count l E ad X S (0 : Int32)) mi_P_count ml_L_8 hx hb hml hts hown hK hP rvP hl ⟨rfl, rfl⟩ ⟨(Nat.le_of_ble_eq_true rfl), (Nat.le_of_ble_eq_true rfl)⟩ ⟨Nat.zero_le _, Nat.zero_le _⟩ rfl (Nat.le_of_ble_eq_true rfl) rfl d_L_act_9 ?_
  refine lv_iconst (v := (1 : Int32)) hx hb d_L_act_12 rfl ?_
  refine lv_iadd hx hb d_L_act_13 ?_
  refine lv_istore_n (lv' := [(3, .int ((s_P_count S (0 : Int32)) + (1 : Int32))), (2, .int ((a1 >>> ((4 : Int32) &&& 31)) &&& (65535 : Int32))), (0, .ref (ad 39)), (1, .int a1)]) hx hb d_L_act_14 rfl hl (by decide) rfl (fun ls hl => ?_)
  refine lv_iload_n hx hb d_L_act_15 rfl (lv_at hl 3 rfl) ?_
  refine lv_bipush (v := (15 : Int32)) hx hb d_L_act_16 rfl ?_
  refine lv_iand hx hb d_L_act_18 ?_
  by_cases c_19_0 : (a1 &&& (15 : Int32)) = (0 : Int32)
  · refine lv_tableIn (x := (a1 &&& (15 : Int32))) (off := 73) (tgt := 92) hx hb d_L_act_19 (by rw [c_19_0]; decide) (by rw [c_19_0]; decide) (by rw [c_19_0]; rfl) (by decide) ?_
    refine lv_aload_n hx hb d_L_act_92 rfl (lv_at hl 2 rfl) ?_
    refine lv_iload_n hx hb d_L_act_93 rfl (lv_at hl 1 rfl) ?_
    refine lv_iconst (v := (3 : Int32)) hx hb d_L_act_94 rfl ?_
    refine lv_iand hx hb d_L_act_95 ?_
    refine lv_if_ne (tgt := 111) hx hb d_L_act_96 (by decide) (fun c_96 => ?_) (fun c_96 => ?_)
    · refine lv_iconst (v := (3 : Int32)) hx hb d_L_act_111 rfl ?_
      refine lv_iload_n hx hb d_L_act_112 rfl (lv_at hl 1 rfl) ?_
      refine lv_iconst (v := (2 : Int32)) hx hb d_L_act_113 rfl ?_
      refine lv_ishr hx hb d_L_act_114 ?_
      refine lv_bipush (v := (99 : Int32)) hx hb d_L_act_115 rfl ?_
      refine lv_irem hx hb d_L_act_117 (by decide) ?_
      refine lv_iadd hx hb d_L_act_118 ?_
      exact b119 S ((3 : Int32) + ((((a1 >>> ((4 : Int32) &&& 31)) &&& (65535 : Int32)) >>> ((2 : Int32) &&& 31)) - (((a1 >>> ((4 : Int32) &&& 31)) &&& (65535 : Int32)) >>> ((2 : Int32) &&& 31)) / (99 : Int32) * (99 : Int32))) s.heap [] hP hS ls (lv_sub hl [] rfl) (by rw [s_L_act, if_pos c_19_0, if_neg c_96])
    · refine lv_bipush (v := (-18 : Int32)) hx hb d_L_act_99 rfl ?_
      refine lv_iload_n hx hb d_L_act_101 rfl (lv_at hl 1 rfl) ?_
      refine lv_iconst (v := (2 : Int32)) hx hb d_L_act_102 rfl ?_
      refine lv_ishr hx hb d_L_act_103 ?_
      refine lv_bipush (v := (84 : Int32)) hx hb d_L_act_104 rfl ?_
      refine lv_irem hx hb d_L_act_106 (by decide) ?_
      refine lv_isub hx hb d_L_act_107 ?_
      refine lv_goto (tgt := 119) hx hb d_L_act_108 (by decide) ?_
      exact b119 S ((-18 : Int32) - ((((a1 >>> ((4 : Int32) &&& 31)) &&& (65535 : Int32)) >>> ((2 : Int32) &&& 31)) - (((a1 >>> ((4 : Int32) &&& 31)) &&& (65535 : Int32)) >>> ((2 : Int32) &&& 31)) / (84 : Int32) * (84 : Int32))) s.heap [] hP hS ls (lv_sub hl [] rfl) (by rw [s_L_act, if_pos c_19_0, if_pos c_96])
  by_cases c_19_1 : (a1 &&& (15 : Int32)) = (1 : Int32)
  · refine lv_tableIn (x := (a1 &&& (15 : Int32))) (off := 73) (tgt := 92) hx hb d_L_act_19 (by rw [c_19_1]; decide) (by rw [c_19_1]; decide) (by rw [c_19_1]; rfl) (by decide) ?_
    refine lv_aload_n hx hb d_L_act_92 rfl (lv_at hl 2 rfl) ?_
    refine lv_iload_n hx hb d_L_act_93 rfl (lv_at hl 1 rfl) ?_
    refine lv_iconst (v := (3 : Int32)) hx hb d_L_act_94 rfl ?_
    refine lv_iand hx hb d_L_act_95 ?_
    refine lv_if_ne (tgt := 111) hx hb d_L_act_96 (by decide) (fun c_96 => ?_) (fun c_96 => ?_)
    · refine lv_iconst (v := (3 : Int32)) hx hb d_L_act_111 rfl ?_
      refine lv_iload_n hx hb d_L_act_112 rfl (lv_at hl 1 rfl) ?_
      refine lv_iconst (v := (2 : Int32)) hx hb d_L_act_113 rfl ?_
      refine lv_ishr hx hb d_L_act_114 ?_
      refine lv_bipush (v := (99 : Int32)) hx hb d_L_act_115 rfl ?_
      refine lv_irem hx hb d_L_act_117 (by decide) ?_
      refine lv_iadd hx hb d_L_act_118 ?_
      exact b119 S ((3 : Int32) + ((((a1 >>> ((4 : Int32) &&& 31)) &&& (65535 : Int32)) >>> ((2 : Int32) &&& 31)) - (((a1 >>> ((4 : Int32) &&& 31)) &&& (65535 : Int32)) >>> ((2 : Int32) &&& 31)) / (99 : Int32) * (99 : Int32))) s.heap [] hP hS ls (lv_sub hl [] rfl) (by rw [s_L_act, if_neg c_19_0, if_pos c_19_1, if_neg c_96])
    · refine lv_bipush (v := (-18 : Int32)) hx hb d_L_act_99 rfl ?_
      refine lv_iload_n hx hb d_L_act_101 rfl (lv_at hl 1 rfl) ?_
      refine lv_iconst (v := (2 : Int32)) hx hb d_L_act_102 rfl ?_
      refine lv_ishr hx hb d_L_act_103 ?_
      refine lv_bipush (v := (84 : Int32)) hx hb d_L_act_104 rfl ?_
      refine lv_irem hx hb d_L_act_106 (by decide) ?_
      refine lv_isub hx hb d_L_act_107 ?_
      refine lv_goto (tgt := 119) hx hb d_L_act_108 (by decide) ?_
      exact b119 S ((-18 : Int32) - ((((a1 >>> ((4 : Int32) &&& 31)) &&& (65535 : Int32)) >>> ((2 : Int32) &&& 31)) - (((a1 >>> ((4 : Int32) &&& 31)) &&& (65535 : Int32)) >>> ((2 : Int32) &&& 31)) / (84 : Int32) * (84 : Int32))) s.heap [] hP hS ls (lv_sub hl [] rfl) (by rw [s_L_act, if_neg c_19_0, if_pos c_19_1, if_pos c_96])
  by_cases c_19_2 : (a1 &&& (15 : Int32)) = (2 : Int32)
  · refine lv_tableIn (x := (a1 &&& (15 : Int32))) (off := 73) (tgt := 92) hx hb d_L_act_19 (by rw [c_19_2]; decide) (by rw [c_19_2]; decide) (by rw [c_19_2]; rfl) (by decide) ?_
    refine lv_aload_n hx hb d_L_act_92 rfl (lv_at hl 2 rfl) ?_
    refine lv_iload_n hx hb d_L_act_93 rfl (lv_at hl 1 rfl) ?_
    refine lv_iconst (v := (3 : Int32)) hx hb d_L_act_94 rfl ?_
    refine lv_iand hx hb d_L_act_95 ?_
    refine lv_if_ne (tgt := 111) hx hb d_L_act_96 (by decide) (fun c_96 => ?_) (fun c_96 => ?_)
    · refine lv_iconst (v := (3 : Int32)) hx hb d_L_act_111 rfl ?_
      refine lv_iload_n hx hb d_L_act_112 rfl (lv_at hl 1 rfl) ?_
      refine lv_iconst (v := (2 : Int32)) hx hb d_L_act_113 rfl ?_
      refine lv_ishr hx hb d_L_act_114 ?_
      refine lv_bipush (v := (99 : Int32)) hx hb d_L_act_115 rfl ?_
      refine lv_irem hx hb d_L_act_117 (by decide) ?_
      refine lv_iadd hx hb d_L_act_118 ?_
      exact b119 S ((3 : Int32) + ((((a1 >>> ((4 : Int32) &&& 31)) &&& (65535 : Int32)) >>> ((2 : Int32) &&& 31)) - (((a1 >>> ((4 : Int32) &&& 31)) &&& (65535 : Int32)) >>> ((2 : Int32) &&& 31)) / (99 : Int32) * (99 : Int32))) s.heap [] hP hS ls (lv_sub hl [] rfl) (by rw [s_L_act, if_neg c_19_0, if_neg c_19_1, if_pos c_19_2, if_neg c_96])
    · refine lv_bipush (v := (-18 : Int32)) hx hb d_L_act_99 rfl ?_
      refine lv_iload_n hx hb d_L_act_101 rfl (lv_at hl 1 rfl) ?_
      refine lv_iconst (v := (2 : Int32)) hx hb d_L_act_102 rfl ?_
      refine lv_ishr hx hb d_L_act_103 ?_
      refine lv_bipush (v := (84 : Int32)) hx hb d_L_act_104 rfl ?_
      refine lv_irem hx hb d_L_act_106 (by decide) ?_
      refine lv_isub hx hb d_L_act_107 ?_
      refine lv_goto (tgt := 119) hx hb d_L_act_108 (by decide) ?_
      exact b119 S ((-18 : Int32) - ((((a1 >>> ((4 : Int32) &&& 31)) &&& (65535 : Int32)) >>> ((2 : Int32) &&& 31)) - (((a1 >>> ((4 : Int32) &&& 31)) &&& (65535 : Int32)) >>> ((2 : Int32) &&& 31)) / (84 : Int32) * (84 : Int32))) s.heap [] hP hS ls (lv_sub hl [] rfl) (by rw [s_L_act, if_neg c_19_0, if_neg c_19_1, if_pos c_19_2, if_pos c_96])
  by_cases c_19_3 : (a1 &&& (15 : Int32)) = (3 : Int32)
  · refine lv_tableIn (x := (a1 &&& (15 : Int32))) (off := 104) (tgt := 123) hx hb d_L_act_19 (by rw [c_19_3]; decide) (by rw [c_19_3]; decide) (by rw [c_19_3]; rfl) (by decide) ?_
    refine lv_aload_n hx hb d_L_act_123 rfl (lv_at hl 2 rfl) ?_
    refine lv_iload_n hx hb d_L_act_124 rfl (lv_at hl 1 rfl) ?_
    refine lv_iload_n hx hb d_L_act_125 rfl (lv_at hl 0 rfl) ?_
    refine lv_irem hx hb d_L_act_126 hn0 ?_
    refine lv_iload_n hx hb d_L_act_127 rfl (lv_at hl 1 rfl) ?_
    refine lv_iconst (v := (5 : Int32)) hx hb d_L_act_128 rfl ?_
    refine lv_ishr hx hb d_L_act_129 ?_
    refine lv_sipush (v := (155 : Int32)) hx hb d_L_act_130 rfl ?_
    refine lv_irem hx hb d_L_act_133 (by decide) ?_
    refine lv_bipush (v := (52 : Int32)) hx hb d_L_act_134 rfl ?_
    refine lv_isub hx hb d_L_act_136 ?_
    refine k_mvi (rest := []) (c_P_shift l E ad X S A (((a1 >>> ((4 : Int32) &&& 31)) &&& (65535 : Int32)) - ((a1 >>> ((4 : Int32) &&& 31)) &&& (65535 : Int32)) / ((s_P_count S (0 : Int32)) + (1 : Int32)) * ((s_P_count S (0 : Int32)) + (1 : Int32))) (((((a1 >>> ((4 : Int32) &&& 31)) &&& (65535 : Int32)) >>> ((5 : Int32) &&& 31)) - (((a1 >>> ((4 : Int32) &&& 31)) &&& (65535 : Int32)) >>> ((5 : Int32) &&& 31)) / (155 : Int32) * (155 : Int32)) - (52 : Int32))) mi_P_shift ml_L_17 hx hb hml hts hown hK hP hD hS rvP hl ⟨rfl, rfl⟩ ⟨(Nat.le_of_ble_eq_true rfl), (Nat.le_of_ble_eq_true rfl)⟩ ⟨Nat.zero_le _, Nat.zero_le _⟩ rfl (Nat.le_of_ble_eq_true rfl) rfl d_L_act_137 (fun H locs hP hS => ?_)
    have hP : va_P E.1 vwCl (wb E ad (s_P_shift S (((a1 >>> ((4 : Int32) &&& 31)) &&& (65535 : Int32)) - ((a1 >>> ((4 : Int32) &&& 31)) &&& (65535 : Int32)) / ((s_P_count S (0 : Int32)) + (1 : Int32)) * ((s_P_count S (0 : Int32)) + (1 : Int32))) (((((a1 >>> ((4 : Int32) &&& 31)) &&& (65535 : Int32)) >>> ((5 : Int32) &&& 31)) - (((a1 >>> ((4 : Int32) &&& 31)) &&& (65535 : Int32)) >>> ((5 : Int32) &&& 31)) / (155 : Int32) * (155 : Int32)) - (52 : Int32))).2 ++ X) H := hP
    exact hend _ _ _ _ _ _ (by rw [s_L_act, if_neg c_19_0, if_neg c_19_1, if_neg c_19_2, if_pos c_19_3]) hP hS d_L_act_140
  by_cases c_19_4 : (a1 &&& (15 : Int32)) = (4 : Int32)
  · refine lv_tableIn (x := (a1 &&& (15 : Int32))) (off := 104) (tgt := 123) hx hb d_L_act_19 (by rw [c_19_4]; decide) (by rw [c_19_4]; decide) (by rw [c_19_4]; rfl) (by decide) ?_
    refine lv_aload_n hx hb d_L_act_123 rfl (lv_at hl 2 rfl) ?_
    refine lv_iload_n hx hb d_L_act_124 rfl (lv_at hl 1 rfl) ?_
    refine lv_iload_n hx hb d_L_act_125 rfl (lv_at hl 0 rfl) ?_
    refine lv_irem hx hb d_L_act_126 hn0 ?_
    refine lv_iload_n hx hb d_L_act_127 rfl (lv_at hl 1 rfl) ?_
    refine lv_iconst (v := (5 : Int32)) hx hb d_L_act_128 rfl ?_
    refine lv_ishr hx hb d_L_act_129 ?_
    refine lv_sipush (v := (155 : Int32)) hx hb d_L_act_130 rfl ?_
    refine lv_irem hx hb d_L_act_133 (by decide) ?_
    refine lv_bipush (v := (52 : Int32)) hx hb d_L_act_134 rfl ?_
    refine lv_isub hx hb d_L_act_136 ?_
    refine k_mvi (rest := []) (c_P_shift l E ad X S A (((a1 >>> ((4 : Int32) &&& 31)) &&& (65535 : Int32)) - ((a1 >>> ((4 : Int32) &&& 31)) &&& (65535 : Int32)) / ((s_P_count S (0 : Int32)) + (1 : Int32)) * ((s_P_count S (0 : Int32)) + (1 : Int32))) (((((a1 >>> ((4 : Int32) &&& 31)) &&& (65535 : Int32)) >>> ((5 : Int32) &&& 31)) - (((a1 >>> ((4 : Int32) &&& 31)) &&& (65535 : Int32)) >>> ((5 : Int32) &&& 31)) / (155 : Int32) * (155 : Int32)) - (52 : Int32))) mi_P_shift ml_L_17 hx hb hml hts hown hK hP hD hS rvP hl ⟨rfl, rfl⟩ ⟨(Nat.le_of_ble_eq_true rfl), (Nat.le_of_ble_eq_true rfl)⟩ ⟨Nat.zero_le _, Nat.zero_le _⟩ rfl (Nat.le_of_ble_eq_true rfl) rfl d_L_act_137 (fun H locs hP hS => ?_)
    have hP : va_P E.1 vwCl (wb E ad (s_P_shift S (((a1 >>> ((4 : Int32) &&& 31)) &&& (65535 : Int32)) - ((a1 >>> ((4 : Int32) &&& 31)) &&& (65535 : Int32)) / ((s_P_count S (0 : Int32)) + (1 : Int32)) * ((s_P_count S (0 : Int32)) + (1 : Int32))) (((((a1 >>> ((4 : Int32) &&& 31)) &&& (65535 : Int32)) >>> ((5 : Int32) &&& 31)) - (((a1 >>> ((4 : Int32) &&& 31)) &&& (65535 : Int32)) >>> ((5 : Int32) &&& 31)) / (155 : Int32) * (155 : Int32)) - (52 : Int32))).2 ++ X) H := hP
    exact hend _ _ _ _ _ _ (by rw [s_L_act, if_neg c_19_0, if_neg c_19_1, if_neg c_19_2, if_neg c_19_3, if_pos c_19_4]) hP hS d_L_act_140
  by_cases c_19_5 : (a1 &&& (15 : Int32)) = (5 : Int32)
  · refine lv_tableIn (x := (a1 &&& (15 : Int32))) (off := 122) (tgt := 141) hx hb d_L_act_19 (by rw [c_19_5]; decide) (by rw [c_19_5]; decide) (by rw [c_19_5]; rfl) (by decide) ?_
    refine lv_aload_n hx hb d_L_act_141 rfl (lv_at hl 2 rfl) ?_
    refine lv_iload_n hx hb d_L_act_142 rfl (lv_at hl 1 rfl) ?_
    refine lv_iconst (v := (3 : Int32)) hx hb d_L_act_143 rfl ?_
    refine lv_iand hx hb d_L_act_144 ?_
    refine k_mvi (rest := []) (c_P_pressure l E ad X S A (((a1 >>> ((4 : Int32) &&& 31)) &&& (65535 : Int32)) &&& (3 : Int32))) mi_P_pressure ml_L_21 hx hb hml hts hown hK hP hD hS rvP hl ⟨rfl, rfl⟩ ⟨(Nat.le_of_ble_eq_true rfl), (Nat.le_of_ble_eq_true rfl)⟩ ⟨Nat.zero_le _, Nat.zero_le _⟩ rfl (Nat.le_of_ble_eq_true rfl) rfl d_L_act_145 (fun H locs hP hS => ?_)
    have hP : va_P E.1 vwCl (wb E ad (s_P_pressure S (((a1 >>> ((4 : Int32) &&& 31)) &&& (65535 : Int32)) &&& (3 : Int32))).2 ++ X) H := hP
    exact hend _ _ _ _ _ _ (by rw [s_L_act, if_neg c_19_0, if_neg c_19_1, if_neg c_19_2, if_neg c_19_3, if_neg c_19_4, if_pos c_19_5]) hP hS d_L_act_148
  by_cases c_19_6 : (a1 &&& (15 : Int32)) = (6 : Int32)
  · refine lv_tableIn (x := (a1 &&& (15 : Int32))) (off := 130) (tgt := 149) hx hb d_L_act_19 (by rw [c_19_6]; decide) (by rw [c_19_6]; decide) (by rw [c_19_6]; rfl) (by decide) ?_
    refine lv_aload_n hx hb d_L_act_149 rfl (lv_at hl 2 rfl) ?_
    refine lv_iload_n hx hb d_L_act_150 rfl (lv_at hl 1 rfl) ?_
    refine lv_iload_n hx hb d_L_act_151 rfl (lv_at hl 0 rfl) ?_
    refine lv_irem hx hb d_L_act_152 hn0 ?_
    refine lv_iload_n hx hb d_L_act_153 rfl (lv_at hl 1 rfl) ?_
    refine lv_bipush (v := (6 : Int32)) hx hb d_L_act_154 rfl ?_
    refine lv_ishr hx hb d_L_act_156 ?_
    refine lv_iload_n hx hb d_L_act_157 rfl (lv_at hl 0 rfl) ?_
    refine lv_irem hx hb d_L_act_158 hn0 ?_
    refine k_mvi (rest := []) (c_P_pair l E ad X S A (((a1 >>> ((4 : Int32) &&& 31)) &&& (65535 : Int32)) - ((a1 >>> ((4 : Int32) &&& 31)) &&& (65535 : Int32)) / ((s_P_count S (0 : Int32)) + (1 : Int32)) * ((s_P_count S (0 : Int32)) + (1 : Int32))) ((((a1 >>> ((4 : Int32) &&& 31)) &&& (65535 : Int32)) >>> ((6 : Int32) &&& 31)) - (((a1 >>> ((4 : Int32) &&& 31)) &&& (65535 : Int32)) >>> ((6 : Int32) &&& 31)) / ((s_P_count S (0 : Int32)) + (1 : Int32)) * ((s_P_count S (0 : Int32)) + (1 : Int32)))) mi_P_pair ml_L_24 hx hb hml hts hown hK hP hD hS rvP hl ⟨rfl, rfl⟩ ⟨(Nat.le_of_ble_eq_true rfl), (Nat.le_of_ble_eq_true rfl)⟩ ⟨Nat.zero_le _, Nat.zero_le _⟩ rfl (Nat.le_of_ble_eq_true rfl) rfl d_L_act_159 (fun H locs hP hS => ?_)
    have hP : va_P E.1 vwCl (wb E ad (s_P_pair S (((a1 >>> ((4 : Int32) &&& 31)) &&& (65535 : Int32)) - ((a1 >>> ((4 : Int32) &&& 31)) &&& (65535 : Int32)) / ((s_P_count S (0 : Int32)) + (1 : Int32)) * ((s_P_count S (0 : Int32)) + (1 : Int32))) ((((a1 >>> ((4 : Int32) &&& 31)) &&& (65535 : Int32)) >>> ((6 : Int32) &&& 31)) - (((a1 >>> ((4 : Int32) &&& 31)) &&& (65535 : Int32)) >>> ((6 : Int32) &&& 31)) / ((s_P_count S (0 : Int32)) + (1 : Int32)) * ((s_P_count S (0 : Int32)) + (1 : Int32)))).2 ++ X) H := hP
    exact hend _ _ _ _ _ _ (by rw [s_L_act, if_neg c_19_0, if_neg c_19_1, if_neg c_19_2, if_neg c_19_3, if_neg c_19_4, if_neg c_19_5, if_pos c_19_6]) hP hS d_L_act_162
  by_cases c_19_7 : (a1 &&& (15 : Int32)) = (7 : Int32)
  · refine lv_tableIn (x := (a1 &&& (15 : Int32))) (off := 130) (tgt := 149) hx hb d_L_act_19 (by rw [c_19_7]; decide) (by rw [c_19_7]; decide) (by rw [c_19_7]; rfl) (by decide) ?_
    refine lv_aload_n hx hb d_L_act_149 rfl (lv_at hl 2 rfl) ?_
    refine lv_iload_n hx hb d_L_act_150 rfl (lv_at hl 1 rfl) ?_
    refine lv_iload_n hx hb d_L_act_151 rfl (lv_at hl 0 rfl) ?_
    refine lv_irem hx hb d_L_act_152 hn0 ?_
    refine lv_iload_n hx hb d_L_act_153 rfl (lv_at hl 1 rfl) ?_
    refine lv_bipush (v := (6 : Int32)) hx hb d_L_act_154 rfl ?_
    refine lv_ishr hx hb d_L_act_156 ?_
    refine lv_iload_n hx hb d_L_act_157 rfl (lv_at hl 0 rfl) ?_
    refine lv_irem hx hb d_L_act_158 hn0 ?_
    refine k_mvi (rest := []) (c_P_pair l E ad X S A (((a1 >>> ((4 : Int32) &&& 31)) &&& (65535 : Int32)) - ((a1 >>> ((4 : Int32) &&& 31)) &&& (65535 : Int32)) / ((s_P_count S (0 : Int32)) + (1 : Int32)) * ((s_P_count S (0 : Int32)) + (1 : Int32))) ((((a1 >>> ((4 : Int32) &&& 31)) &&& (65535 : Int32)) >>> ((6 : Int32) &&& 31)) - (((a1 >>> ((4 : Int32) &&& 31)) &&& (65535 : Int32)) >>> ((6 : Int32) &&& 31)) / ((s_P_count S (0 : Int32)) + (1 : Int32)) * ((s_P_count S (0 : Int32)) + (1 : Int32)))) mi_P_pair ml_L_24 hx hb hml hts hown hK hP hD hS rvP hl ⟨rfl, rfl⟩ ⟨(Nat.le_of_ble_eq_true rfl), (Nat.le_of_ble_eq_true rfl)⟩ ⟨Nat.zero_le _, Nat.zero_le _⟩ rfl (Nat.le_of_ble_eq_true rfl) rfl d_L_act_159 (fun H locs hP hS => ?_)
    have hP : va_P E.1 vwCl (wb E ad (s_P_pair S (((a1 >>> ((4 : Int32) &&& 31)) &&& (65535 : Int32)) - ((a1 >>> ((4 : Int32) &&& 31)) &&& (65535 : Int32)) / ((s_P_count S (0 : Int32)) + (1 : Int32)) * ((s_P_count S (0 : Int32)) + (1 : Int32))) ((((a1 >>> ((4 : Int32) &&& 31)) &&& (65535 : Int32)) >>> ((6 : Int32) &&& 31)) - (((a1 >>> ((4 : Int32) &&& 31)) &&& (65535 : Int32)) >>> ((6 : Int32) &&& 31)) / ((s_P_count S (0 : Int32)) + (1 : Int32)) * ((s_P_count S (0 : Int32)) + (1 : Int32)))).2 ++ X) H := hP
    exact hend _ _ _ _ _ _ (by rw [s_L_act, if_neg c_19_0, if_neg c_19_1, if_neg c_19_2, if_neg c_19_3, if_neg c_19_4, if_neg c_19_5, if_neg c_19_6, if_pos c_19_7]) hP hS d_L_act_162
  by_cases c_19_8 : (a1 &&& (15 : Int32)) = (8 : Int32)
  · refine lv_tableIn (x := (a1 &&& (15 : Int32))) (off := 130) (tgt := 149) hx hb d_L_act_19 (by rw [c_19_8]; decide) (by rw [c_19_8]; decide) (by rw [c_19_8]; rfl) (by decide) ?_
    refine lv_aload_n hx hb d_L_act_149 rfl (lv_at hl 2 rfl) ?_
    refine lv_iload_n hx hb d_L_act_150 rfl (lv_at hl 1 rfl) ?_
    refine lv_iload_n hx hb d_L_act_151 rfl (lv_at hl 0 rfl) ?_
    refine lv_irem hx hb d_L_act_152 hn0 ?_
    refine lv_iload_n hx hb d_L_act_153 rfl (lv_at hl 1 rfl) ?_
    refine lv_bipush (v := (6 : Int32)) hx hb d_L_act_154 rfl ?_
    refine lv_ishr hx hb d_L_act_156 ?_
    refine lv_iload_n hx hb d_L_act_157 rfl (lv_at hl 0 rfl) ?_
    refine lv_irem hx hb d_L_act_158 hn0 ?_
    refine k_mvi (rest := []) (c_P_pair l E ad X S A (((a1 >>> ((4 : Int32) &&& 31)) &&& (65535 : Int32)) - ((a1 >>> ((4 : Int32) &&& 31)) &&& (65535 : Int32)) / ((s_P_count S (0 : Int32)) + (1 : Int32)) * ((s_P_count S (0 : Int32)) + (1 : Int32))) ((((a1 >>> ((4 : Int32) &&& 31)) &&& (65535 : Int32)) >>> ((6 : Int32) &&& 31)) - (((a1 >>> ((4 : Int32) &&& 31)) &&& (65535 : Int32)) >>> ((6 : Int32) &&& 31)) / ((s_P_count S (0 : Int32)) + (1 : Int32)) * ((s_P_count S (0 : Int32)) + (1 : Int32)))) mi_P_pair ml_L_24 hx hb hml hts hown hK hP hD hS rvP hl ⟨rfl, rfl⟩ ⟨(Nat.le_of_ble_eq_true rfl), (Nat.le_of_ble_eq_true rfl)⟩ ⟨Nat.zero_le _, Nat.zero_le _⟩ rfl (Nat.le_of_ble_eq_true rfl) rfl d_L_act_159 (fun H locs hP hS => ?_)
    have hP : va_P E.1 vwCl (wb E ad (s_P_pair S (((a1 >>> ((4 : Int32) &&& 31)) &&& (65535 : Int32)) - ((a1 >>> ((4 : Int32) &&& 31)) &&& (65535 : Int32)) / ((s_P_count S (0 : Int32)) + (1 : Int32)) * ((s_P_count S (0 : Int32)) + (1 : Int32))) ((((a1 >>> ((4 : Int32) &&& 31)) &&& (65535 : Int32)) >>> ((6 : Int32) &&& 31)) - (((a1 >>> ((4 : Int32) &&& 31)) &&& (65535 : Int32)) >>> ((6 : Int32) &&& 31)) / ((s_P_count S (0 : Int32)) + (1 : Int32)) * ((s_P_count S (0 : Int32)) + (1 : Int32)))).2 ++ X) H := hP
    exact hend _ _ _ _ _ _ (by rw [s_L_act, if_neg c_19_0, if_neg c_19_1, if_neg c_19_2, if_neg c_19_3, if_neg c_19_4, if_neg c_19_5, if_neg c_19_6, if_neg c_19_7, if_pos c_19_8]) hP hS d_L_act_162
  by_cases c_19_9 : (a1 &&& (15 : Int32)) = (9 : Int32)
  · refine lv_tableIn (x := (a1 &&& (15 : Int32))) (off := 144) (tgt := 163) hx hb d_L_act_19 (by rw [c_19_9]; decide) (by rw [c_19_9]; decide) (by rw [c_19_9]; rfl) (by decide) ?_
    refine lv_iload_n hx hb d_L_act_163 rfl (lv_at hl 1 rfl) ?_
    refine lv_iconst (v := (3 : Int32)) hx hb d_L_act_164 rfl ?_
    refine lv_iand hx hb d_L_act_165 ?_
    refine lv_if_ne (tgt := 176) hx hb d_L_act_166 (by decide) (fun c_166 => ?_) (fun c_166 => ?_)
    · refine lv_aload_n hx hb d_L_act_176 rfl (lv_at hl 2 rfl) ?_
      refine k_vi (rest := []) (c_P_faulty l E ad X S) mi_P_faulty ml_L_31 hx hb hml hts hown hK hP rvP hl ⟨rfl, rfl⟩ ⟨(Nat.le_of_ble_eq_true rfl), (Nat.le_of_ble_eq_true rfl)⟩ ⟨Nat.zero_le _, Nat.zero_le _⟩ rfl (Nat.le_of_ble_eq_true rfl) rfl d_L_act_177 ?_
      exact hend _ _ _ _ _ _ (by rw [s_L_act, if_neg c_19_0, if_neg c_19_1, if_neg c_19_2, if_neg c_19_3, if_neg c_19_4, if_neg c_19_5, if_neg c_19_6, if_neg c_19_7, if_neg c_19_8, if_pos c_19_9, if_neg c_166]) hP hS d_L_act_180
    · refine lv_aload_n hx hb d_L_act_169 rfl (lv_at hl 2 rfl) ?_
      refine k_mvi (rest := []) (c_P_clear l E ad X S A) mi_P_clear ml_L_27 hx hb hml hts hown hK hP hD hS rvP hl ⟨rfl, rfl⟩ ⟨(Nat.le_of_ble_eq_true rfl), (Nat.le_of_ble_eq_true rfl)⟩ ⟨Nat.zero_le _, Nat.zero_le _⟩ rfl (Nat.le_of_ble_eq_true rfl) rfl d_L_act_170 (fun H locs hP hS => ?_)
      have hP : va_P E.1 vwCl (wb E ad (s_P_clear S).2 ++ X) H := hP
      refine lv_goto (tgt := 180) hx hb d_L_act_173 (by decide) ?_
      exact hend _ _ _ _ _ _ (by rw [s_L_act, if_neg c_19_0, if_neg c_19_1, if_neg c_19_2, if_neg c_19_3, if_neg c_19_4, if_neg c_19_5, if_neg c_19_6, if_neg c_19_7, if_neg c_19_8, if_pos c_19_9, if_pos c_166]) hP hS d_L_act_180
  by_cases c_19_10 : (a1 &&& (15 : Int32)) = (10 : Int32)
  · refine lv_tableIn (x := (a1 &&& (15 : Int32))) (off := 162) (tgt := 181) hx hb d_L_act_19 (by rw [c_19_10]; decide) (by rw [c_19_10]; decide) (by rw [c_19_10]; rfl) (by decide) ?_
    refine va_gets hx hb hTX.1 hS hown (hts _ fl_L_34) (fun _ h => h) d_L_act_181 ?_
    refine lv_iload_n hx hb d_L_act_184 rfl (lv_at hl 1 rfl) ?_
    refine va_gets hx hb hTX.1 hS hown (hts _ fl_L_34) (fun _ h => h) d_L_act_185 ?_
    refine va_tlen (v := (10 : Int32)) hx hb hTX.2.1 hS rfl d_L_act_188 ?_
    refine lv_irem hx hb d_L_act_189 (by decide) ?_
    refine vb_tq (v := .ref (aK (((a1 >>> ((4 : Int32) &&& 31)) &&& (65535 : Int32)) - ((a1 >>> ((4 : Int32) &&& 31)) &&& (65535 : Int32)) / (10 : Int32) * (10 : Int32)).toNatClampNeg)) hx hb hTX.2.1 hS (y10_in a1) rfl d_L_act_190 ?_
    refine lv_astore (lv' := [(4, .ref (aK (((a1 >>> ((4 : Int32) &&& 31)) &&& (65535 : Int32)) - ((a1 >>> ((4 : Int32) &&& 31)) &&& (65535 : Int32)) / (10 : Int32) * (10 : Int32)).toNatClampNeg)), (3, .int ((s_P_count S (0 : Int32)) + (1 : Int32))), (2, .int ((a1 >>> ((4 : Int32) &&& 31)) &&& (65535 : Int32))), (0, .ref (ad 39)), (1, .int a1)]) hx hb d_L_act_191 hl (by decide) rfl (fun ls hl => ?_)
    refine lv_iconst (v := (0 : Int32)) hx hb d_L_act_193 rfl ?_
    refine lv_istore (lv' := [(5, .int (0 : Int32)), (4, .ref (aK (((a1 >>> ((4 : Int32) &&& 31)) &&& (65535 : Int32)) - ((a1 >>> ((4 : Int32) &&& 31)) &&& (65535 : Int32)) / (10 : Int32) * (10 : Int32)).toNatClampNeg)), (3, .int ((s_P_count S (0 : Int32)) + (1 : Int32))), (2, .int ((a1 >>> ((4 : Int32) &&& 31)) &&& (65535 : Int32))), (0, .ref (ad 39)), (1, .int a1)]) hx hb d_L_act_194 hl (by decide) rfl (fun ls hl => ?_)
    exact b196 (17) S (((a1 >>> ((4 : Int32) &&& 31)) &&& (65535 : Int32)) - ((a1 >>> ((4 : Int32) &&& 31)) &&& (65535 : Int32)) / (10 : Int32) * (10 : Int32)).toNatClampNeg (0 : Int32) s.heap [] hP hS (UP_in' (by decide) (tLen_f (y10 a1))) (y10 a1) ls (lv_sub hl [4, 1, 0] rfl) (by rw [s_L_act, if_neg c_19_0, if_neg c_19_1, if_neg c_19_2, if_neg c_19_3, if_neg c_19_4, if_neg c_19_5, if_neg c_19_6, if_neg c_19_7, if_neg c_19_8, if_neg c_19_9, if_pos c_19_10])
  by_cases c_19_11 : (a1 &&& (15 : Int32)) = (11 : Int32)
  · refine lv_tableIn (x := (a1 &&& (15 : Int32))) (off := 162) (tgt := 181) hx hb d_L_act_19 (by rw [c_19_11]; decide) (by rw [c_19_11]; decide) (by rw [c_19_11]; rfl) (by decide) ?_
    refine va_gets hx hb hTX.1 hS hown (hts _ fl_L_34) (fun _ h => h) d_L_act_181 ?_
    refine lv_iload_n hx hb d_L_act_184 rfl (lv_at hl 1 rfl) ?_
    refine va_gets hx hb hTX.1 hS hown (hts _ fl_L_34) (fun _ h => h) d_L_act_185 ?_
    refine va_tlen (v := (10 : Int32)) hx hb hTX.2.1 hS rfl d_L_act_188 ?_
    refine lv_irem hx hb d_L_act_189 (by decide) ?_
    refine vb_tq (v := .ref (aK (((a1 >>> ((4 : Int32) &&& 31)) &&& (65535 : Int32)) - ((a1 >>> ((4 : Int32) &&& 31)) &&& (65535 : Int32)) / (10 : Int32) * (10 : Int32)).toNatClampNeg)) hx hb hTX.2.1 hS (y10_in a1) rfl d_L_act_190 ?_
    refine lv_astore (lv' := [(4, .ref (aK (((a1 >>> ((4 : Int32) &&& 31)) &&& (65535 : Int32)) - ((a1 >>> ((4 : Int32) &&& 31)) &&& (65535 : Int32)) / (10 : Int32) * (10 : Int32)).toNatClampNeg)), (3, .int ((s_P_count S (0 : Int32)) + (1 : Int32))), (2, .int ((a1 >>> ((4 : Int32) &&& 31)) &&& (65535 : Int32))), (0, .ref (ad 39)), (1, .int a1)]) hx hb d_L_act_191 hl (by decide) rfl (fun ls hl => ?_)
    refine lv_iconst (v := (0 : Int32)) hx hb d_L_act_193 rfl ?_
    refine lv_istore (lv' := [(5, .int (0 : Int32)), (4, .ref (aK (((a1 >>> ((4 : Int32) &&& 31)) &&& (65535 : Int32)) - ((a1 >>> ((4 : Int32) &&& 31)) &&& (65535 : Int32)) / (10 : Int32) * (10 : Int32)).toNatClampNeg)), (3, .int ((s_P_count S (0 : Int32)) + (1 : Int32))), (2, .int ((a1 >>> ((4 : Int32) &&& 31)) &&& (65535 : Int32))), (0, .ref (ad 39)), (1, .int a1)]) hx hb d_L_act_194 hl (by decide) rfl (fun ls hl => ?_)
    exact b196 (17) S (((a1 >>> ((4 : Int32) &&& 31)) &&& (65535 : Int32)) - ((a1 >>> ((4 : Int32) &&& 31)) &&& (65535 : Int32)) / (10 : Int32) * (10 : Int32)).toNatClampNeg (0 : Int32) s.heap [] hP hS (UP_in' (by decide) (tLen_f (y10 a1))) (y10 a1) ls (lv_sub hl [4, 1, 0] rfl) (by rw [s_L_act, if_neg c_19_0, if_neg c_19_1, if_neg c_19_2, if_neg c_19_3, if_neg c_19_4, if_neg c_19_5, if_neg c_19_6, if_neg c_19_7, if_neg c_19_8, if_neg c_19_9, if_neg c_19_10, if_pos c_19_11])
  by_cases c_19_12 : (a1 &&& (15 : Int32)) = (12 : Int32)
  · refine lv_tableIn (x := (a1 &&& (15 : Int32))) (off := 210) (tgt := 229) hx hb d_L_act_19 (by rw [c_19_12]; decide) (by rw [c_19_12]; decide) (by rw [c_19_12]; rfl) (by decide) ?_
    refine lv_aload_n hx hb d_L_act_229 rfl (lv_at hl 2 rfl) ?_
    refine lv_iload_n hx hb d_L_act_230 rfl (lv_at hl 1 rfl) ?_
    refine lv_iconst (v := (3 : Int32)) hx hb d_L_act_231 rfl ?_
    refine lv_iand hx hb d_L_act_232 ?_
    refine lv_iload_n hx hb d_L_act_233 rfl (lv_at hl 1 rfl) ?_
    refine lv_iconst (v := (2 : Int32)) hx hb d_L_act_234 rfl ?_
    refine lv_ishr hx hb d_L_act_235 ?_
    refine lv_bipush (v := (23 : Int32)) hx hb d_L_act_236 rfl ?_
    refine lv_irem hx hb d_L_act_238 (by decide) ?_
    refine lv_iconst (v := (2 : Int32)) hx hb d_L_act_239 rfl ?_
    refine lv_isub hx hb d_L_act_240 ?_
    refine k_mvi (rest := []) (c_P_row l E ad X S A (((a1 >>> ((4 : Int32) &&& 31)) &&& (65535 : Int32)) &&& (3 : Int32)) (((((a1 >>> ((4 : Int32) &&& 31)) &&& (65535 : Int32)) >>> ((2 : Int32) &&& 31)) - (((a1 >>> ((4 : Int32) &&& 31)) &&& (65535 : Int32)) >>> ((2 : Int32) &&& 31)) / (23 : Int32) * (23 : Int32)) - (2 : Int32))) mi_P_row ml_L_55 hx hb hml hts hown hK hP hD hS rvP hl ⟨rfl, rfl⟩ ⟨(Nat.le_of_ble_eq_true rfl), (Nat.le_of_ble_eq_true rfl)⟩ ⟨Nat.zero_le _, Nat.zero_le _⟩ rfl (Nat.le_of_ble_eq_true rfl) rfl d_L_act_241 (fun H locs hP hS => ?_)
    have hP : va_P E.1 vwCl (wb E ad (s_P_row S (((a1 >>> ((4 : Int32) &&& 31)) &&& (65535 : Int32)) &&& (3 : Int32)) (((((a1 >>> ((4 : Int32) &&& 31)) &&& (65535 : Int32)) >>> ((2 : Int32) &&& 31)) - (((a1 >>> ((4 : Int32) &&& 31)) &&& (65535 : Int32)) >>> ((2 : Int32) &&& 31)) / (23 : Int32) * (23 : Int32)) - (2 : Int32))).2 ++ X) H := hP
    exact hend _ _ _ _ _ _ (by rw [s_L_act, if_neg c_19_0, if_neg c_19_1, if_neg c_19_2, if_neg c_19_3, if_neg c_19_4, if_neg c_19_5, if_neg c_19_6, if_neg c_19_7, if_neg c_19_8, if_neg c_19_9, if_neg c_19_10, if_neg c_19_11, if_pos c_19_12]) hP hS d_L_act_244
  by_cases c_19_13 : (a1 &&& (15 : Int32)) = (13 : Int32)
  · refine lv_tableIn (x := (a1 &&& (15 : Int32))) (off := 226) (tgt := 245) hx hb d_L_act_19 (by rw [c_19_13]; decide) (by rw [c_19_13]; decide) (by rw [c_19_13]; rfl) (by decide) ?_
    refine lv_iload_n hx hb d_L_act_245 rfl (lv_at hl 1 rfl) ?_
    refine lv_iconst (v := (1 : Int32)) hx hb d_L_act_246 rfl ?_
    refine lv_iand hx hb d_L_act_247 ?_
    refine lv_if_ne (tgt := 273) hx hb d_L_act_248 (by decide) (fun c_248 => ?_) (fun c_248 => ?_)
    · refine lv_aload_n hx hb d_L_act_273 rfl (lv_at hl 2 rfl) ?_
      refine lv_iload_n hx hb d_L_act_274 rfl (lv_at hl 1 rfl) ?_
      refine lv_iconst (v := (1 : Int32)) hx hb d_L_act_275 rfl ?_
      refine lv_ishr hx hb d_L_act_276 ?_
      refine lv_iconst (v := (3 : Int32)) hx hb d_L_act_277 rfl ?_
      refine lv_iand hx hb d_L_act_278 ?_
      refine k_mvi (rest := []) (c_P_lay l E ad X S A ((((a1 >>> ((4 : Int32) &&& 31)) &&& (65535 : Int32)) >>> ((1 : Int32) &&& 31)) &&& (3 : Int32))) mi_P_lay ml_L_62 hx hb hml hts hown hK hP hD hS rvP hl ⟨rfl, rfl⟩ ⟨(Nat.le_of_ble_eq_true rfl), (Nat.le_of_ble_eq_true rfl)⟩ ⟨Nat.zero_le _, Nat.zero_le _⟩ rfl (Nat.le_of_ble_eq_true rfl) rfl d_L_act_279 (fun H locs hP hS => ?_)
      have hP : va_P E.1 vwCl (wb E ad (s_P_lay S ((((a1 >>> ((4 : Int32) &&& 31)) &&& (65535 : Int32)) >>> ((1 : Int32) &&& 31)) &&& (3 : Int32))).2 ++ X) H := hP
      exact hend _ _ _ _ _ _ (by rw [s_L_act, if_neg c_19_0, if_neg c_19_1, if_neg c_19_2, if_neg c_19_3, if_neg c_19_4, if_neg c_19_5, if_neg c_19_6, if_neg c_19_7, if_neg c_19_8, if_neg c_19_9, if_neg c_19_10, if_neg c_19_11, if_neg c_19_12, if_pos c_19_13, if_neg c_248]) hP hS d_L_act_282
    · refine lv_aload_n hx hb d_L_act_251 rfl (lv_at hl 2 rfl) ?_
      refine lv_iload_n hx hb d_L_act_252 rfl (lv_at hl 1 rfl) ?_
      refine lv_iconst (v := (1 : Int32)) hx hb d_L_act_253 rfl ?_
      refine lv_ishr hx hb d_L_act_254 ?_
      refine lv_iconst (v := (3 : Int32)) hx hb d_L_act_255 rfl ?_
      refine lv_iand hx hb d_L_act_256 ?_
      refine lv_iload_n hx hb d_L_act_257 rfl (lv_at hl 1 rfl) ?_
      refine lv_iconst (v := (3 : Int32)) hx hb d_L_act_258 rfl ?_
      refine lv_ishr hx hb d_L_act_259 ?_
      refine lv_bipush (v := (20 : Int32)) hx hb d_L_act_260 rfl ?_
      refine lv_irem hx hb d_L_act_262 (by decide) ?_
      refine lv_iload_n hx hb d_L_act_263 rfl (lv_at hl 1 rfl) ?_
      refine lv_iconst (v := (5 : Int32)) hx hb d_L_act_264 rfl ?_
      refine lv_ishr hx hb d_L_act_265 ?_
      refine lv_i2l hx hb d_L_act_266 rfl ?_
      refine k_mvi (rest := []) (c_P_put l E ad X S A ((((a1 >>> ((4 : Int32) &&& 31)) &&& (65535 : Int32)) >>> ((1 : Int32) &&& 31)) &&& (3 : Int32)) ((((a1 >>> ((4 : Int32) &&& 31)) &&& (65535 : Int32)) >>> ((3 : Int32) &&& 31)) - (((a1 >>> ((4 : Int32) &&& 31)) &&& (65535 : Int32)) >>> ((3 : Int32) &&& 31)) / (20 : Int32) * (20 : Int32)) ((((a1 >>> ((4 : Int32) &&& 31)) &&& (65535 : Int32)) >>> ((5 : Int32) &&& 31)).toInt64)) mi_P_put ml_L_58 hx hb hml hts hown hK hP hD hS rvP hl ⟨rfl, rfl⟩ ⟨(Nat.le_of_ble_eq_true rfl), (Nat.le_of_ble_eq_true rfl)⟩ ⟨Nat.zero_le _, Nat.zero_le _⟩ rfl (Nat.le_of_ble_eq_true rfl) rfl d_L_act_267 (fun H locs hP hS => ?_)
      have hP : va_P E.1 vwCl (wb E ad (s_P_put S ((((a1 >>> ((4 : Int32) &&& 31)) &&& (65535 : Int32)) >>> ((1 : Int32) &&& 31)) &&& (3 : Int32)) ((((a1 >>> ((4 : Int32) &&& 31)) &&& (65535 : Int32)) >>> ((3 : Int32) &&& 31)) - (((a1 >>> ((4 : Int32) &&& 31)) &&& (65535 : Int32)) >>> ((3 : Int32) &&& 31)) / (20 : Int32) * (20 : Int32)) ((((a1 >>> ((4 : Int32) &&& 31)) &&& (65535 : Int32)) >>> ((5 : Int32) &&& 31)).toInt64)).2 ++ X) H := hP
      refine lv_goto (tgt := 282) hx hb d_L_act_270 (by decide) ?_
      exact hend _ _ _ _ _ _ (by rw [s_L_act, if_neg c_19_0, if_neg c_19_1, if_neg c_19_2, if_neg c_19_3, if_neg c_19_4, if_neg c_19_5, if_neg c_19_6, if_neg c_19_7, if_neg c_19_8, if_neg c_19_9, if_neg c_19_10, if_neg c_19_11, if_neg c_19_12, if_pos c_19_13, if_pos c_248]) hP hS d_L_act_282
  by_cases c_19_14 : (a1 &&& (15 : Int32)) = (14 : Int32)
  · refine lv_tableIn (x := (a1 &&& (15 : Int32))) (off := 264) (tgt := 283) hx hb d_L_act_19 (by rw [c_19_14]; decide) (by rw [c_19_14]; decide) (by rw [c_19_14]; rfl) (by decide) ?_
    refine lv_aload_n hx hb d_L_act_283 rfl (lv_at hl 2 rfl) ?_
    refine k_mvi (rest := []) (c_P_image l E ad X S A) mi_P_image ml_L_65 hx hb hml hts hown hK hP hD hS rvP hl ⟨rfl, rfl⟩ ⟨(Nat.le_of_ble_eq_true rfl), (Nat.le_of_ble_eq_true rfl)⟩ ⟨Nat.zero_le _, Nat.zero_le _⟩ rfl (Nat.le_of_ble_eq_true rfl) rfl d_L_act_284 (fun H locs hP hS => ?_)
    have hP : va_P E.1 vwCl (wb E ad (s_P_image S).2 ++ X) H := hP
    exact hend _ _ _ _ _ _ (by rw [s_L_act, if_neg c_19_0, if_neg c_19_1, if_neg c_19_2, if_neg c_19_3, if_neg c_19_4, if_neg c_19_5, if_neg c_19_6, if_neg c_19_7, if_neg c_19_8, if_neg c_19_9, if_neg c_19_10, if_neg c_19_11, if_neg c_19_12, if_neg c_19_13, if_pos c_19_14]) hP hS d_L_act_287
  have kd : W p l e (rk 7 152) s m args below meth c s.heap [] 0 0 Q (F0 m 288 ls []) := by
    refine lv_aload_n hx hb d_L_act_288 rfl (lv_at hl 2 rfl) ?_
    refine k_mvi (rest := []) (c_P_undo l E ad X S A) mi_P_undo ml_L_68 hx hb hml hts hown hK hP hD hS rvP hl ⟨rfl, rfl⟩ ⟨(Nat.le_of_ble_eq_true rfl), (Nat.le_of_ble_eq_true rfl)⟩ ⟨Nat.zero_le _, Nat.zero_le _⟩ rfl (Nat.le_of_ble_eq_true rfl) rfl d_L_act_289 (fun H locs hP hS => ?_)
    have hP : va_P E.1 vwCl (wb E ad (s_P_undo S).2 ++ X) H := hP
    exact hend _ _ _ _ _ _ (by rw [s_L_act, if_neg c_19_0, if_neg c_19_1, if_neg c_19_2, if_neg c_19_3, if_neg c_19_4, if_neg c_19_5, if_neg c_19_6, if_neg c_19_7, if_neg c_19_8, if_neg c_19_9, if_neg c_19_10, if_neg c_19_11, if_neg c_19_12, if_neg c_19_13, if_neg c_19_14]) hP hS d_L_act_292
  have n_0 := lv_neT c_19_0 (a := 0) rfl
  have n_1 := lv_neT c_19_1 (a := 1) rfl
  have n_2 := lv_neT c_19_2 (a := 2) rfl
  have n_3 := lv_neT c_19_3 (a := 3) rfl
  have n_4 := lv_neT c_19_4 (a := 4) rfl
  have n_5 := lv_neT c_19_5 (a := 5) rfl
  have n_6 := lv_neT c_19_6 (a := 6) rfl
  have n_7 := lv_neT c_19_7 (a := 7) rfl
  have n_8 := lv_neT c_19_8 (a := 8) rfl
  have n_9 := lv_neT c_19_9 (a := 9) rfl
  have n_10 := lv_neT c_19_10 (a := 10) rfl
  have n_11 := lv_neT c_19_11 (a := 11) rfl
  have n_12 := lv_neT c_19_12 (a := 12) rfl
  have n_13 := lv_neT c_19_13 (a := 13) rfl
  have n_14 := lv_neT c_19_14 (a := 14) rfl
  exact lv_tableOut (x := (a1 &&& (15 : Int32))) (tgt := 288) hx hb d_L_act_19 (by omega) (by decide) kd
