/-! the script's cell; a static call over the bench and the texts -/
def XB (b L : Nat) (xs : Nat → Int32) (U : State) : Prop := va_X b L xs U U.heap
theorem XB.fb {b L : Nat} {xs : Nat → Int32} : FB (XB b L xs) := fun U g mk a h => va_X.moved (u := U) (U := U.calling g mk a) (Vm.Alike.refl U.vm) h
theorem XB.at {b L : Nat} {xs : Nat → Int32} {A : Nat → Prop} {s : State} {H : Heap} {locs : List Loc} (hX : va_X b L xs s s.heap) (hbl : b < s.heap.size) (hbA : ¬ A b) (hS : va_S A s.heap H locs) (U : State) (hU : U.heap = H) (hW : s.WarmedH U.vm) : XB b L xs U := by
  show va_X b L xs U U.heap
  rw [hU]
  exact (hX.kept (hS.2.1 b hbl hbA)).moved hW.alike
def s_L_cell (xs : Nat → Int32) (L : Nat) (i : Int32) : Int32 := if (Int32.ofNat L) = 0 then (401 : Int32) * i else xs (((i &&& (65535 : Int32)) - (i &&& (65535 : Int32)) / (Int32.ofNat L) * (Int32.ofNat L))).toNatClampNeg
theorem cell_in {i : Int32} {L : Nat} (hL : L ≤ 260) (h : ¬ (Int32.ofNat L) = 0) : vp_in ((i &&& (65535 : Int32)) - (i &&& (65535 : Int32)) / (Int32.ofNat L) * (Int32.ofNat L)) L := by
  have eL : (Int32.ofNat L).toInt = (L : Int) := nI_toInt (n := L) (by omega)
  have hp : 0 < (Int32.ofNat L).toInt := by
    rw [eq32, eL, z32] at h
    omega
  have e := i32_rem (x := i &&& (65535 : Int32)) (y := Int32.ofNat L) hp
  rw [eL, Int.tmod_eq_emod_of_nonneg (and_65535 i).1] at e
  have b1 := Int.emod_nonneg (i &&& (65535 : Int32)).toInt (show (L : Int) ≠ 0 by omega)
  have b2 := Int.emod_lt_of_pos (i &&& (65535 : Int32)).toInt (show (0 : Int) < L by omega)
  exact vin_k (by rw [e]; exact ⟨b1, b2⟩)
theorem c_L_cell (l : Launch) (b L : Nat) (xs : Nat → Int32) (i : Int32) (hL : L ≤ 260) : Met l y_L_cell (Cond.code y_L_cell b_L_cell 2 (some .int) :: TB) (rk 0 0) (va_Pc [.ref b, .int i] (XB b L xs)) (vp_Si (fun r => r = s_L_cell xs L i)) 0 0 (fun _ => False) := by
  refine w_gI rfl (Nat.le_of_ble_eq_true rfl) rfl ?_
  intro p e s m args below meth c Q ls hx hb hml hts hown hT hl hend
  have hl : lv_has ls 2 [(0, .ref b), (1, .int i)] := hl
  have hX : va_X b L xs s s.heap := hT
  have hS : va_S (fun _ => False) s.heap s.heap [] := va_S.rf
  have hown : s.vm.findClass R_L = some m.cls := hown
  have hbl : b < s.heap.size := by
    obtain ⟨scr, h1, -⟩ := hX
    exact (Array.getElem?_eq_some_iff.mp h1).1
  have hbA : ¬ (fun _ : Nat => False) b := fun q => q
  have hX0 := hX
  refine lv_aload_n hx hb d_L_cell_0 rfl (lv_at hl 0 rfl) ?_
  refine va_slen hx hb hX hbl hbA hS d_L_cell_1 ?_
  refine lv_if_ne (tgt := 13) hx hb d_L_cell_2 (by decide) (fun c_2 => ?_) (fun c_2 => ?_)
  · refine lv_aload_n hx hb d_L_cell_13 rfl (lv_at hl 0 rfl) ?_
    refine lv_iload_n hx hb d_L_cell_14 rfl (lv_at hl 1 rfl) ?_
    refine lv_ldc (v := (65535 : Int32)) hx hb hown (hts _ kc_L_7) d_L_cell_15 ?_
    refine lv_iand hx hb d_L_cell_17 ?_
    refine lv_aload_n hx hb d_L_cell_18 rfl (lv_at hl 0 rfl) ?_
    refine va_slen hx hb hX hbl hbA hS d_L_cell_19 ?_
    refine lv_irem hx hb d_L_cell_20 c_2 ?_
    refine va_sld hx hb hX hbl hbA hS (cell_in hL c_2) d_L_cell_21 ?_
    exact hend _ _ _ (by rw [s_L_cell, if_neg c_2]) d_L_cell_22
  · refine lv_sipush (v := (401 : Int32)) hx hb d_L_cell_5 rfl ?_
    refine lv_iload_n hx hb d_L_cell_8 rfl (lv_at hl 1 rfl) ?_
    refine lv_imul hx hb d_L_cell_9 ?_
    refine lv_goto (tgt := 22) hx hb d_L_cell_10 (by decide) ?_
    exact hend _ _ _ (by rw [s_L_cell, if_pos c_2]) d_L_cell_22
section GCALLX
variable {p : Program} {l : Launch} {e : Env} {R : Room} {s : State} {m : MethodId} {args : Array Value} {below : List Frame} {meth : Method} {c : Code} {H : Heap} {locs : List Loc} {cells slots : Nat} {Q : State → Prop}
variable {cc bytes : ByteArray} {pc maxL nL n index : Nat} {ls : Array Slot} {lv : List (Nat × Value)} {rest st As : List Value} {own : String} {y : MethodName} {rt : FieldType} {rm : Room} {A : Nat → Prop} {tq : Nat} {aK aV : Nat → Nat}
theorem k_msiX {E : Cx} {Wf : St → va_W} {S : St} {T : Int32 × St} (hM : Met l y (Cond.code y bytes maxL (some rt) :: TB) rm (va_Pc As (preX E A Wf S tq aK aV)) (va_Qi (fun r u => (r, u) = T) (fun u t => va_P E.1 vwCl (Wf u) t.heap) A) 0 0 A) (mi : MIs y n bytes maxL (some rt)) (hlk : Cond.methodLink own index y ∈ TB) (hx : p.tables.exec = Jvm.exec) (hb : c.code = cc) (hml : c.maxLocals = nL) (hts : ∀ w ∈ TB, w.before args s = true) (hown : s.vm.findClass own = some m.cls) (hK : KK E s) (hP : va_P E.1 vwCl (Wf S) H) (hD : ∀ S' : St, va_D A (Wf S')) (hS : va_S A s.heap H locs) (hTX : TX tq aK aV A s s.heap) (hl : lv_has ls nL lv) (h0 : rm.cells = 0 ∧ rm.slots = 0) (hR : rm.frames + 1 ≤ R.frames ∧ 8 + (maxL + 11) + rm.locals ≤ R.locals) (hf : cells ≤ R.cells ∧ slots ≤ R.slots) (hn : As.length = n) (hW : (rest.map fun v => v.category).sum ≤ 8) (hst : st = As.reverse ++ rest) (hdg : decode cc pc = .ok (.invokestatic index, 3))
    (kk : ∀ (H1 : Heap) (locs1 : List Loc), va_P E.1 vwCl (Wf T.2) H1 → va_S A s.heap H1 locs1 → W p l e R s m args below meth c H1 locs1 cells slots Q (F0 m (pc + 3) ls (.int T.1 :: rest))) : W p l e R s m args below meth c H locs cells slots Q (F0 m pc ls st) :=
  va_calli (va_runS ⟨hx, hb, hml, hown, hts⟩ hM ⟨tb_cb hts mi.1 hlk h0 hR, hts _ mi.2⟩ ⟨fb_X, fun U hU hW => ⟨rfl, ⟨by rw [hU]; exact hP, hK.warm hW, hD⟩, JX.at hTX hS U hU hW⟩⟩ rfl hn hl.1 hst (lv_room hW) hdg hf) hS (fun _ _ h => h) (fun _ h => h) (fun r u t H1 locs1 ht _ hw hB _ _ hS1 => by
    subst hw
    rw [ht] at hB
    exact kk H1 locs1 hB hS1)
end GCALLX
