/-! contracts that read old cells: wrappers, rows; the texts; the JDK's methods over them -/
def vp_Svv : Array Value → State → Outcome → State → Prop := fun _ st o t => o = .returned none ∧ t.heap = st.heap
theorem w_gI {l : Launch} {y : MethodName} {cc : ByteArray} {maxL : Nat} {rt : FieldType} {rm : Room} {av : List Value} {B : State → Prop} {T : Int32} (hy : plainName y.cls = true) (hsl : (lg_sl av).length ≤ maxL) (hn : narrow rt (.int T) = .int T)
    (body : ∀ (p : Program) (e : Env) (s : State) (m : MethodId) (args : Array Value) (below : List Frame) (meth : Method) (c : Code) (Q : State → Prop) (ls : Array Slot), p.tables.exec = Jvm.exec → c.code = cc → c.maxLocals = maxL → (∀ w ∈ TB, w.before args s = true) → s.vm.findClass y.cls = some m.cls → B s → lv_has ls maxL (lv_args 0 av) →
      (∀ (pc : Nat) (ls : Array Slot) (r : Int32), r = T → decode cc pc = .ok (.ireturn, 1) → W p l e rm s m args below meth c s.heap [] 0 0 Q (F0 m pc ls [.int r])) → W p l e rm s m args below meth c s.heap [] 0 0 Q (F0 m 0 ls [])) :
    Met l y (Cond.code y cc maxL (some rt) :: TB) rm (va_Pc av B) (vp_Si (fun r => r = T)) 0 0 (fun _ => False) := by
  refine Met.ofW (cc := cc) (maxL := maxL) (ret := some rt) hy rfl ?_
  intro p e s m args below meth c s₁ B0 hml hv
  obtain ⟨rfl, hB⟩ := hv
  have hts0 := atoms_spec (ws := Cond.code y cc maxL (some rt) :: TB) B0.pre
  have hown : s.vm.findClass y.cls = some m.cls := findClass_of_methodNamed B0.named
  rw [lg_entry_eq]
  exact body p e s m _ below meth c _ _ B0.exec B0.bytes hml (fun w h => hts0 w (List.mem_cons_of_mem _ h)) hown hB (lv_entry av hsl) (fun pc ls r hrT hdg => W.zret B0.exec B0.bytes B0.returns (by rw [hrT]; exact hn) (fun t ht hW => ⟨r, rfl, hrT, ht⟩) (fun q h => by cases h) hdg (hlocks := B0.notSynchronized))
theorem w_gD {l : Launch} {y : MethodName} {cc : ByteArray} {maxL : Nat} {rm : Room} {av : List Value} {B : State → Prop} {T : UInt64} (hy : plainFor y = true) (hsl : (lg_sl av).length ≤ maxL)
    (body : ∀ (p : Program) (e : Env) (s : State) (m : MethodId) (args : Array Value) (below : List Frame) (meth : Method) (c : Code) (Q : State → Prop) (ls : Array Slot), p.tables.exec = Jvm.exec → c.code = cc → c.maxLocals = maxL → (∀ w ∈ TB, w.before args s = true) → s.vm.findClass y.cls = some m.cls → B s → lv_has ls maxL (lv_args 0 av) →
      (∀ (pc : Nat) (ls : Array Slot) (r : UInt64), r = T → decode cc pc = .ok (.dreturn, 1) → W p l e rm s m args below meth c s.heap [] 0 0 Q (F0 m pc ls [.double r])) → W p l e rm s m args below meth c s.heap [] 0 0 Q (F0 m 0 ls [])) :
    Met l y (Cond.code y cc maxL (some .double) :: TB) rm (va_Pc av B) (vp_Sd (fun r => r = T)) 0 0 (fun _ => False) := by
  refine va_MetF (cc := cc) (maxL := maxL) (ret := some .double) hy rfl ?_
  intro p e s m args below meth c s₁ B0 hml hv
  obtain ⟨rfl, hB⟩ := hv
  have hts0 := atoms_spec (ws := Cond.code y cc maxL (some .double) :: TB) B0.pre
  have hown : s.vm.findClass y.cls = some m.cls := findClass_of_methodNamed B0.named
  rw [lg_entry_eq]
  exact body p e s m _ below meth c _ _ B0.exec B0.bytes hml (fun w h => hts0 w (List.mem_cons_of_mem _ h)) hown hB (lv_entry av hsl) (fun pc ls r hrT hdg => W.dret B0.exec B0.bytes B0.returns (fun t ht hW => ⟨r, rfl, hrT, ht⟩) (fun q h => by cases h) hdg (hlocks := B0.notSynchronized))
theorem w_gV {l : Launch} {y : MethodName} {cc : ByteArray} {maxL : Nat} {rm : Room} {av : List Value} {B : State → Prop} (hy : plainName y.cls = true) (hsl : (lg_sl av).length ≤ maxL)
    (body : ∀ (p : Program) (e : Env) (s : State) (m : MethodId) (args : Array Value) (below : List Frame) (meth : Method) (c : Code) (Q : State → Prop) (ls : Array Slot), p.tables.exec = Jvm.exec → c.code = cc → c.maxLocals = maxL → (∀ w ∈ TB, w.before args s = true) → s.vm.findClass y.cls = some m.cls → B s → lv_has ls maxL (lv_args 0 av) →
      (∀ (pc : Nat) (ls : Array Slot), decode cc pc = .ok (.return_, 1) → W p l e rm s m args below meth c s.heap [] 0 0 Q (F0 m pc ls [])) → W p l e rm s m args below meth c s.heap [] 0 0 Q (F0 m 0 ls [])) :
    Met l y (Cond.code y cc maxL none :: TB) rm (va_Pc av B) vp_Svv 0 0 (fun _ => False) := by
  refine Met.ofW (cc := cc) (maxL := maxL) (ret := none) hy rfl ?_
  intro p e s m args below meth c s₁ B0 hml hv
  obtain ⟨rfl, hB⟩ := hv
  have hts0 := atoms_spec (ws := Cond.code y cc maxL none :: TB) B0.pre
  have hown : s.vm.findClass y.cls = some m.cls := findClass_of_methodNamed B0.named
  rw [lg_entry_eq]
  exact body p e s m _ below meth c _ _ B0.exec B0.bytes hml (fun w h => hts0 w (List.mem_cons_of_mem _ h)) hown hB (lv_entry av hsl) (fun pc ls hdg => W.vret B0.exec B0.bytes B0.returns (fun t ht hW => ⟨rfl, ht⟩) (fun q h => by cases h) hdg (hlocks := B0.notSynchronized))
/-- a picture that a call leaves as it is -/
def FB (B : State → Prop) : Prop := ∀ (U : State) (g : JFrame) (mk : MethodId) (a : Array Value), B U → B (U.calling g mk a)
theorem FB.of {B : State → Prop} (h : FB B) {av : List Value} : FrameBlind (va_Pc av B) := fun a U g mk q => ⟨q.1, h U g mk a q.2⟩
section GCALLS
variable {p : Program} {l : Launch} {e : Env} {R : Room} {s : State} {m : MethodId} {args : Array Value} {below : List Frame} {meth : Method} {c : Code} {H : Heap} {locs : List Loc} {cells slots : Nat} {Q : State → Prop}
variable {cc bytes : ByteArray} {pc maxL nL n index : Nat} {ls : Array Slot} {lv : List (Nat × Value)} {rest st As : List Value} {own host : String} {y : MethodName} {rt : FieldType} {rm : Room} {b : Nat} {A : Nat → Prop} {H0 : Heap} {B : State → Prop}
theorem k_gvi {T : Int32} (hM : Met l y (Cond.code y bytes maxL (some rt) :: TB) rm (va_Pc (.ref b :: As) B) (vp_Si (fun r => r = T)) 0 0 (fun _ => False)) (mi : MIv y n bytes maxL (some rt)) (hlk : Cond.methodLink own index y ∈ TB) (hx : p.tables.exec = Jvm.exec) (hb : c.code = cc) (hml : c.maxLocals = nL) (hts : ∀ w ∈ TB, w.before args s = true) (hown : s.vm.findClass own = some m.cls) (hfb : FB B) (hB : ∀ U : State, U.heap = H → s.WarmedH U.vm → B U) (hrv : ∃ cell : Cell, H[b]? = some cell ∧ cell.vm.isStatics = false ∧ s.vm.findClass y.cls = some cell.cls) (hl : lv_has ls nL lv) (h0 : rm.cells = 0 ∧ rm.slots = 0) (hR : rm.frames + 1 ≤ R.frames ∧ 8 + (maxL + 11) + rm.locals ≤ R.locals) (hf : cells ≤ R.cells ∧ slots ≤ R.slots) (hn : As.length = n) (hW : (rest.map fun v => v.category).sum ≤ 8) (hst : st = As.reverse ++ .ref b :: rest) (hdg : decode cc pc = .ok (.invokevirtual index, 3))
    (kk : W p l e R s m args below meth c H locs cells slots Q (F0 m (pc + 3) ls (.int T :: rest))) : W p l e R s m args below meth c H locs cells slots Q (F0 m pc ls st) :=
  vp_callSi (W.runV ⟨hx, hb, hml, hown, hts⟩ hM ⟨tb_cb hts mi.1 hlk h0 hR, hts _ mi.2.1, hts _ mi.2.2⟩ ⟨hfb.of, hrv, fun U hU hW => ⟨rfl, hB U hU hW⟩⟩ rfl hn hl.1 hst (lv_room hW) hdg hf) (fun r hr => by rw [hr]; exact kk)
theorem k_gsi {T : Int32} (hM : Met l y (Cond.code y bytes maxL (some rt) :: TB) rm (va_Pc As B) (vp_Si (fun r => r = T)) 0 0 (fun _ => False)) (mi : MIs y n bytes maxL (some rt)) (hlk : Cond.methodLink own index y ∈ TB) (hx : p.tables.exec = Jvm.exec) (hb : c.code = cc) (hml : c.maxLocals = nL) (hts : ∀ w ∈ TB, w.before args s = true) (hown : s.vm.findClass own = some m.cls) (hfb : FB B) (hB : ∀ U : State, U.heap = H → s.WarmedH U.vm → B U) (hl : lv_has ls nL lv) (h0 : rm.cells = 0 ∧ rm.slots = 0) (hR : rm.frames + 1 ≤ R.frames ∧ 8 + (maxL + 11) + rm.locals ≤ R.locals) (hf : cells ≤ R.cells ∧ slots ≤ R.slots) (hn : As.length = n) (hW : (rest.map fun v => v.category).sum ≤ 8) (hst : st = As.reverse ++ rest) (hdg : decode cc pc = .ok (.invokestatic index, 3))
    (kk : W p l e R s m args below meth c H locs cells slots Q (F0 m (pc + 3) ls (.int T :: rest))) : W p l e R s m args below meth c H locs cells slots Q (F0 m pc ls st) :=
  vp_callSi (W.runS ⟨hx, hb, hml, hown, hts⟩ hM ⟨tb_cb hts mi.1 hlk h0 hR, hts _ mi.2⟩ ⟨hfb.of, fun U hU hW => ⟨rfl, hB U hU hW⟩⟩ rfl hn hl.1 hst (lv_room hW) hdg hf) (fun r hr => by rw [hr]; exact kk)
theorem k_gsd {T : UInt64} (hM : Met l y (Cond.code y bytes maxL (some rt) :: TB) rm (va_Pc As B) (vp_Sd (fun r => r = T)) 0 0 (fun _ => False)) (mi : MIs y n bytes maxL (some rt)) (hlk : Cond.methodLink own index y ∈ TB) (hx : p.tables.exec = Jvm.exec) (hb : c.code = cc) (hml : c.maxLocals = nL) (hts : ∀ w ∈ TB, w.before args s = true) (hown : s.vm.findClass own = some m.cls) (hfb : FB B) (hB : ∀ U : State, U.heap = H → s.WarmedH U.vm → B U) (hl : lv_has ls nL lv) (h0 : rm.cells = 0 ∧ rm.slots = 0) (hR : rm.frames + 1 ≤ R.frames ∧ 8 + (maxL + 11) + rm.locals ≤ R.locals) (hf : cells ≤ R.cells ∧ slots ≤ R.slots) (hn : As.length = n) (hW : (rest.map fun v => v.category).sum ≤ 8) (hst : st = As.reverse ++ rest) (hdg : decode cc pc = .ok (.invokestatic index, 3))
    (kk : W p l e R s m args below meth c H locs cells slots Q (F0 m (pc + 3) ls (.double T :: rest))) : W p l e R s m args below meth c H locs cells slots Q (F0 m pc ls st) :=
  vp_callSd (W.runS ⟨hx, hb, hml, hown, hts⟩ hM ⟨tb_cb hts mi.1 hlk h0 hR, hts _ mi.2⟩ ⟨hfb.of, fun U hU hW => ⟨rfl, hB U hU hW⟩⟩ rfl hn hl.1 hst (lv_room hW) hdg hf) (fun r hr => by rw [hr]; exact kk)
theorem k_gsv (hM : Met l y (Cond.code y bytes maxL none :: TB) rm (va_Pc As B) vp_Svv 0 0 (fun _ => False)) (mi : MIs y n bytes maxL none) (hlk : Cond.methodLink own index y ∈ TB) (hx : p.tables.exec = Jvm.exec) (hb : c.code = cc) (hml : c.maxLocals = nL) (hts : ∀ w ∈ TB, w.before args s = true) (hown : s.vm.findClass own = some m.cls) (hfb : FB B) (hB : ∀ U : State, U.heap = H → s.WarmedH U.vm → B U) (hl : lv_has ls nL lv) (h0 : rm.cells = 0 ∧ rm.slots = 0) (hR : rm.frames + 1 ≤ R.frames ∧ 8 + (maxL + 11) + rm.locals ≤ R.locals) (hf : cells ≤ R.cells ∧ slots ≤ R.slots) (hn : As.length = n) (hW : (rest.map fun v => v.category).sum ≤ 8) (hst : st = As.reverse ++ rest) (hdg : decode cc pc = .ok (.invokestatic index, 3))
    (kk : W p l e R s m args below meth c H locs cells slots Q (F0 m (pc + 3) ls rest)) : W p l e R s m args below meth c H locs cells slots Q (F0 m pc ls st) := by
  have hr := W.runS (e := e) (below := below) (meth := meth) (locs := locs) ⟨hx, hb, hml, hown, hts⟩ hM ⟨tb_cb hts mi.1 hlk h0 hR, hts _ mi.2⟩ ⟨hfb.of, fun U hU hW => ⟨rfl, hB U hU hW⟩⟩ (g := F0 m pc ls st) rfl hn hl.1 hst (lv_room hW) hdg hf
  intro T1 hT X
  obtain ⟨v, st₀, t, T', L, h0, X', hL, e1, ⟨hv, hh⟩, hs⟩ := hr T1 hT X
  cases hv
  obtain ⟨t2, a1, b1⟩ := kk T' (by rw [e1, hh, h0]) (Stand.forget X' (fun q h => (hL q h).elim))
  exact ⟨t2, hs t2 a1, b1⟩
/-- a static call that changes the world and answers an int -/
theorem k_msi {E : Cx} {Wf : St → va_W} {S : St} {T : Int32 × St} (hM : Met l y (Cond.code y bytes maxL (some rt) :: TB) rm (va_Pc As (preM E A Wf S)) (va_Qi (fun r u => (r, u) = T) (fun u t => va_P E.1 vwCl (Wf u) t.heap) A) 0 0 A) (mi : MIs y n bytes maxL (some rt)) (hlk : Cond.methodLink own index y ∈ TB) (hx : p.tables.exec = Jvm.exec) (hb : c.code = cc) (hml : c.maxLocals = nL) (hts : ∀ w ∈ TB, w.before args s = true) (hown : s.vm.findClass own = some m.cls) (hK : KK E s) (hP : va_P E.1 vwCl (Wf S) H) (hD : ∀ S' : St, va_D A (Wf S')) (hS : va_S A H0 H locs) (hl : lv_has ls nL lv) (h0 : rm.cells = 0 ∧ rm.slots = 0) (hR : rm.frames + 1 ≤ R.frames ∧ 8 + (maxL + 11) + rm.locals ≤ R.locals) (hf : cells ≤ R.cells ∧ slots ≤ R.slots) (hn : As.length = n) (hW : (rest.map fun v => v.category).sum ≤ 8) (hst : st = As.reverse ++ rest) (hdg : decode cc pc = .ok (.invokestatic index, 3))
    (kk : ∀ (H1 : Heap) (locs1 : List Loc), va_P E.1 vwCl (Wf T.2) H1 → va_S A H0 H1 locs1 → W p l e R s m args below meth c H1 locs1 cells slots Q (F0 m (pc + 3) ls (.int T.1 :: rest))) : W p l e R s m args below meth c H locs cells slots Q (F0 m pc ls st) :=
  va_calli (va_runS ⟨hx, hb, hml, hown, hts⟩ hM ⟨tb_cb hts mi.1 hlk h0 hR, hts _ mi.2⟩ ⟨fb_M, fun U hU hW => ⟨rfl, by rw [hU]; exact hP, hK.warm hW, hD⟩⟩ rfl hn hl.1 hst (lv_room hW) hdg hf) hS (fun _ _ h => h) (fun _ h => h) (fun r u t H1 locs1 ht _ hw hB _ _ hS1 => by
    subst hw
    rw [ht] at hB
    exact kk H1 locs1 hB hS1)
end GCALLS
/-- the law's texts, and the two statics of the JDK's that their reading meets: cells that nobody writes -/
def TX (tq : Nat) (aK aV : Nat → Nat) (A : Nat → Prop) (U : State) (H : Heap) : Prop :=
  va_Z R_L "TEXTS" "[Ljava/lang/String;" (.ref tq) A U H ∧ va_T (.object "java/lang/String") tq 10 (fun j => .ref (aK j)) A U H ∧ vk_S 10 TLN TBY aK aV A U H ∧ va_Z R_JS "COMPACT_STRINGS" "Z" (.int 1) A U H ∧ va_Zq R_JP "SIOOBE_FORMATTER" "Ljava/util/function/BiFunction;" A U H
theorem TX.moved {tq : Nat} {aK aV : Nat → Nat} {A : Nat → Prop} {u U : State} {H : Heap} (hvm : u.vm.Alike U.vm) (h : TX tq aK aV A u H) : TX tq aK aV A U H :=
  ⟨va_Z.moved hvm h.1, va_T.moved hvm h.2.1, vk_S.moved hvm h.2.2.1, va_Z.moved hvm h.2.2.2.1, va_Zq.moved hvm h.2.2.2.2⟩
theorem TX.kept {tq : Nat} {aK aV : Nat → Nat} {A : Nat → Prop} {U : State} {H H1 : Heap} (h : TX tq aK aV A U H) (hq : ∀ a : Nat, a < H.size → ¬ A a → H1[a]? = H[a]?) : TX tq aK aV A U H1 :=
  ⟨h.1.kept hq, h.2.1.kept hq, h.2.2.1.kept hq, h.2.2.2.1.kept hq, h.2.2.2.2.kept hq⟩
def JX (tq : Nat) (aK aV : Nat → Nat) (A : Nat → Prop) (U : State) : Prop := TX tq aK aV A U U.heap
theorem JX.fb {tq : Nat} {aK aV : Nat → Nat} {A : Nat → Prop} : FB (JX tq aK aV A) := fun U g mk a h => TX.moved (u := U) (U := U.calling g mk a) (Vm.Alike.refl U.vm) h
theorem JX.at {tq : Nat} {aK aV : Nat → Nat} {A : Nat → Prop} {s : State} {H : Heap} {locs : List Loc} (h : TX tq aK aV A s s.heap) (hS : va_S A s.heap H locs) (U : State) (hU : U.heap = H) (hW : s.WarmedH U.vm) : JX tq aK aV A U := by
  show TX tq aK aV A U U.heap
  rw [hU]
  exact (h.kept hS.2.1).moved hW.alike
theorem fbT : FB (fun _ => True) := fun _ _ _ _ _ => trivial
theorem c_JP_checkIndex (l : Launch) (i n : Int32) (q : Value) (hq : q.category = 1) (h0 : ¬ i < 0) (h1 : i < n) : Met l y_JP_checkIndex (Cond.code y_JP_checkIndex b_JP_checkIndex 3 (some .int) :: TB) (rk 0 0) (va_Pc [.int i, .int n, q] (fun _ => True)) (vp_Si (fun r => r = i)) 0 0 (fun _ => False) := by
  refine w_gI rfl (by cases q <;> first | exact Nat.le_of_ble_eq_true rfl | (simp [Value.category] at hq)) rfl ?_
  intro p e s m args below meth c Q ls hx hb hml hts hown _ hl hend
  have hl : lv_has ls 3 [(0, .int i), (1, .int n), (2, q)] := hl
  refine lv_iload_n hx hb d_JP_checkIndex_0 rfl (lv_at hl 0 rfl) ?_
  refine lv_if_lt (tgt := 9) hx hb d_JP_checkIndex_1 (by decide) (fun c_1 => absurd c_1 h0) (fun c_1 => ?_)
  refine lv_iload_n hx hb d_JP_checkIndex_4 rfl (lv_at hl 0 rfl) ?_
  refine lv_iload_n hx hb d_JP_checkIndex_5 rfl (lv_at hl 1 rfl) ?_
  refine lv_icmp_lt (tgt := 16) hx hb d_JP_checkIndex_6 (by decide) (fun c_6 => ?_) (fun c_6 => absurd h1 c_6)
  refine lv_iload_n hx hb d_JP_checkIndex_16 rfl (lv_at hl 0 rfl) ?_
  exact hend _ _ _ rfl d_JP_checkIndex_17
theorem c_JS_checkIndex (l : Launch) (tq : Nat) (aK aV : Nat → Nat) (A : Nat → Prop) (i n : Int32) (h0 : ¬ i < 0) (h1 : i < n) : Met l y_JS_checkIndex (Cond.code y_JS_checkIndex b_JS_checkIndex 2 none :: TB) (rk 1 22) (va_Pc [.int i, .int n] (JX tq aK aV A)) vp_Svv 0 0 (fun _ => False) := by
  refine w_gV rfl (Nat.le_of_ble_eq_true rfl) ?_
  intro p e s m args below meth c Q ls hx hb hml hts hown hT hl hend
  have hl : lv_has ls 2 [(0, .int i), (1, .int n)] := hl
  have hT : TX tq aK aV A s s.heap := hT
  have hS : va_S A s.heap s.heap [] := va_S.rf
  have hown : s.vm.findClass R_JS = some m.cls := hown
  have go : ∀ q : Value, q.category = 1 → W p l e (rk 1 22) s m args below meth c s.heap [] 0 0 Q (F0 m 5 ls [q, .int n, .int i]) := by
    intro q hq
    refine k_gsi (rest := []) (c_JP_checkIndex l i n q hq h0 h1) mi_JP_checkIndex ml_JS_1059 hx hb hml hts hown fbT (fun _ _ _ => trivial) hl ⟨rfl, rfl⟩ ⟨Nat.le_of_ble_eq_true rfl, Nat.le_of_ble_eq_true rfl⟩ ⟨Nat.zero_le _, Nat.zero_le _⟩ rfl (Nat.le_of_ble_eq_true rfl) rfl d_JS_checkIndex_5 ?_
    refine lv_pop hx hb d_JS_checkIndex_8 rfl ?_
    exact hend _ _ d_JS_checkIndex_9
  refine lv_iload_n hx hb d_JS_checkIndex_0 rfl (lv_at hl 0 rfl) ?_
  refine lv_iload_n hx hb d_JS_checkIndex_1 rfl (lv_at hl 1 rfl) ?_
  rcases hT.2.2.2.2 with hz | ⟨t, hz⟩
  · exact va_gets hx hb hz hS hown (hts _ fl_JS_1053) (fun _ h => h) d_JS_checkIndex_2 (go .null rfl)
  · exact va_gets hx hb hz hS hown (hts _ fl_JS_1053) (fun _ h => h) d_JS_checkIndex_2 (go (.ref t) rfl)
theorem c_JS_coder (l : Launch) (tq : Nat) (aK aV : Nat → Nat) (A : Nat → Prop) (k : Nat) (hk : k < 10) : Met l y_JS_coder (Cond.code y_JS_coder b_JS_coder 1 (some .byte) :: TB) (rk 0 0) (va_Pc [.ref (aK k)] (JX tq aK aV A)) (vp_Si (fun r => r = 0)) 0 0 (fun _ => False) := by
  refine w_gI rfl (Nat.le_of_ble_eq_true rfl) rfl ?_
  intro p e s m args below meth c Q ls hx hb hml hts hown hT hl hend
  have hl : lv_has ls 1 [(0, .ref (aK k))] := hl
  have hT : TX tq aK aV A s s.heap := hT
  have hS : va_S A s.heap s.heap [] := va_S.rf
  have hown : s.vm.findClass R_JS = some m.cls := hown
  refine va_gets hx hb hT.2.2.2.1 hS hown (hts _ fl_JS_38) (fun _ h => h) d_JS_coder_0 ?_
  refine lv_if_eq (tgt := 13) hx hb d_JS_coder_3 (by decide) (fun c_3 => absurd c_3 (by decide)) (fun c_3 => ?_)
  refine lv_aload_n hx hb d_JS_coder_6 rfl (lv_at hl 0 rfl) ?_
  refine vk_getf hx hb (hT.2.2.1.1 k hk).2.1 hS hown (hts _ fl_JS_15) (fun _ h => h) d_JS_coder_7 ?_
  refine lv_goto (tgt := 14) hx hb d_JS_coder_10 (by decide) ?_
  exact hend _ _ _ rfl d_JS_coder_14
theorem c_JS_isLatin1 (l : Launch) (tq : Nat) (aK aV : Nat → Nat) (A : Nat → Prop) (k : Nat) (hk : k < 10) : Met l y_JS_isLatin1 (Cond.code y_JS_isLatin1 b_JS_isLatin1 1 (some .boolean) :: TB) (rk 0 0) (va_Pc [.ref (aK k)] (JX tq aK aV A)) (vp_Si (fun r => r = 1)) 0 0 (fun _ => False) := by
  refine w_gI rfl (Nat.le_of_ble_eq_true rfl) rfl ?_
  intro p e s m args below meth c Q ls hx hb hml hts hown hT hl hend
  have hl : lv_has ls 1 [(0, .ref (aK k))] := hl
  have hT : TX tq aK aV A s s.heap := hT
  have hS : va_S A s.heap s.heap [] := va_S.rf
  have hown : s.vm.findClass R_JS = some m.cls := hown
  refine va_gets hx hb hT.2.2.2.1 hS hown (hts _ fl_JS_38) (fun _ h => h) d_JS_isLatin1_0 ?_
  refine lv_if_eq (tgt := 17) hx hb d_JS_isLatin1_3 (by decide) (fun c_3 => absurd c_3 (by decide)) (fun c_3 => ?_)
  refine lv_aload_n hx hb d_JS_isLatin1_6 rfl (lv_at hl 0 rfl) ?_
  refine vk_getf hx hb (hT.2.2.1.1 k hk).2.1 hS hown (hts _ fl_JS_15) (fun _ h => h) d_JS_isLatin1_7 ?_
  refine lv_if_ne (tgt := 17) hx hb d_JS_isLatin1_10 (by decide) (fun c_3 => absurd rfl c_3) (fun c_3 => ?_)
  refine lv_iconst (v := (1 : Int32)) hx hb d_JS_isLatin1_13 rfl ?_
  refine lv_goto (tgt := 18) hx hb d_JS_isLatin1_14 (by decide) ?_
  exact hend _ _ _ rfl d_JS_isLatin1_18
theorem tLen_lt {k : Nat} (hk : k < 10) : tLen k < 16 := by
  match k, hk with
  | 0, _ => decide
  | 1, _ => decide
  | 2, _ => decide
  | 3, _ => decide
  | 4, _ => decide
  | 5, _ => decide
  | 6, _ => decide
  | 7, _ => decide
  | 8, _ => decide
  | 9, _ => decide
theorem shr_0 (x : Int32) : x >>> ((0 : Int32) &&& 31) = x := by
  have e : ((0 : Int32) &&& 31) = 0 := by decide
  rw [e]
  exact Int32.shiftRight_zero
theorem c_JS_length (l : Launch) (tq : Nat) (aK aV : Nat → Nat) (A : Nat → Prop) (k : Nat) (hk : k < 10) : Met l y_JS_length (Cond.code y_JS_length b_JS_length 1 (some .int) :: TB) (rk 1 20) (va_Pc [.ref (aK k)] (JX tq aK aV A)) (vp_Si (fun r => r = nI (tLen k))) 0 0 (fun _ => False) := by
  refine w_gI rfl (Nat.le_of_ble_eq_true rfl) rfl ?_
  intro p e s m args below meth c Q ls hx hb hml hts hown hT hl hend
  have hl : lv_has ls 1 [(0, .ref (aK k))] := hl
  have hT : TX tq aK aV A s s.heap := hT
  have hS : va_S A s.heap s.heap [] := va_S.rf
  have hown : s.vm.findClass R_JS = some m.cls := hown
  refine lv_aload_n hx hb d_JS_length_0 rfl (lv_at hl 0 rfl) ?_
  refine vk_getf hx hb (hT.2.2.1.1 k hk).2.2.1 hS hown (hts _ fl_JS_9) (fun _ h => h) d_JS_length_1 ?_
  refine va_tlen (v := nI (tLen k)) hx hb (hT.2.2.1.1 k hk).2.2.2 hS rfl d_JS_length_4 ?_
  refine lv_aload_n hx hb d_JS_length_5 rfl (lv_at hl 0 rfl) ?_
  refine k_gvi (rest := [.int (nI (tLen k))]) (c_JS_coder l tq aK aV A k hk) mi_JS_coder ml_JS_335 hx hb hml hts hown JX.fb (JX.at hT hS) (vk_recv hT.2.2.1 hk hS) hl ⟨rfl, rfl⟩ ⟨Nat.le_of_ble_eq_true rfl, Nat.le_of_ble_eq_true rfl⟩ ⟨Nat.zero_le _, Nat.zero_le _⟩ rfl (Nat.le_of_ble_eq_true rfl) rfl d_JS_length_6 ?_
  refine lv_ishr hx hb d_JS_length_9 ?_
  rw [shr_0]
  exact hend _ _ _ rfl d_JS_length_10
theorem tCh_nar {k j : Nat} (hk : k < 10) (hj : j < tLen k) : narrow .char (.int (tCh k j)) = .int (tCh k j) := by
  have h : ∀ k : Nat, k < 10 → ∀ j : Nat, j < tLen k → (tCh k j).toUInt32.toUInt16.toUInt32.toInt32 = tCh k j := by decide +kernel
  show Value.int _ = _
  rw [h k hk j hj]
theorem tIn {k : Nat} {i : Int32} (hk : k < 10) (h0 : ¬ i < 0) (h1 : i < nI (tLen k)) : vp_in i (tLen k) ∧ i.toNatClampNeg < tLen k := by
  have hL := tLen_lt hk
  have e : (nI (tLen k)).toInt = (tLen k : Int) := nI_toInt (by omega)
  rw [Int32.lt_iff_toInt_lt, e] at h1
  rw [Int32.lt_iff_toInt_lt] at h0
  have z : (0 : Int32).toInt = 0 := by decide
  rw [z] at h0
  refine ⟨vp_in_iff.mpr ⟨by omega, h1⟩, ?_⟩
  unfold Int32.toNatClampNeg
  omega
theorem c_JL_charAt (l : Launch) (tq : Nat) (aK aV : Nat → Nat) (A : Nat → Prop) (k : Nat) (hk : k < 10) (i : Int32) (h0 : ¬ i < 0) (h1 : i < nI (tLen k)) : Met l y_JL_charAt (Cond.code y_JL_charAt b_JL_charAt 2 (some .char) :: TB) (rk 2 43) (va_Pc [.ref (aV k), .int i] (JX tq aK aV A)) (vp_Si (fun r => r = tCh k i.toNatClampNeg)) 0 0 (fun _ => False) := by
  refine w_gI rfl (Nat.le_of_ble_eq_true rfl) (tCh_nar hk (tIn hk h0 h1).2) ?_
  intro p e s m args below meth c Q ls hx hb hml hts hown hT hl hend
  have hl : lv_has ls 2 [(0, .ref (aV k)), (1, .int i)] := hl
  have hT : TX tq aK aV A s s.heap := hT
  have hS : va_S A s.heap s.heap [] := va_S.rf
  have hown : s.vm.findClass R_JL = some m.cls := hown
  refine lv_iload_n hx hb d_JL_charAt_0 rfl (lv_at hl 1 rfl) ?_
  refine lv_aload_n hx hb d_JL_charAt_1 rfl (lv_at hl 0 rfl) ?_
  refine va_tlen (v := nI (tLen k)) hx hb (hT.2.2.1.1 k hk).2.2.2 hS rfl d_JL_charAt_2 ?_
  refine k_gsv (rest := []) (c_JS_checkIndex l tq aK aV A i (nI (tLen k)) h0 h1) mi_JS_checkIndex ml_JL_9 hx hb hml hts hown JX.fb (JX.at hT hS) hl ⟨rfl, rfl⟩ ⟨Nat.le_of_ble_eq_true rfl, Nat.le_of_ble_eq_true rfl⟩ ⟨Nat.zero_le _, Nat.zero_le _⟩ rfl (Nat.le_of_ble_eq_true rfl) rfl d_JL_charAt_3 ?_
  refine lv_aload_n hx hb d_JL_charAt_6 rfl (lv_at hl 0 rfl) ?_
  refine lv_iload_n hx hb d_JL_charAt_7 rfl (lv_at hl 1 rfl) ?_
  refine va_tb (v := .int ((TBY.getD k []).getD i.toNatClampNeg 0)) hx hb (hT.2.2.1.1 k hk).2.2.2 hS (tIn hk h0 h1).1 rfl d_JL_charAt_8 ?_
  refine lv_sipush (v := (255 : Int32)) hx hb d_JL_charAt_9 rfl ?_
  refine lv_iand hx hb d_JL_charAt_12 ?_
  refine lv_i2c (v := tCh k i.toNatClampNeg) hx hb d_JL_charAt_13 rfl ?_
  exact hend _ _ _ rfl d_JL_charAt_14
theorem c_JS_charAt (l : Launch) (tq : Nat) (aK aV : Nat → Nat) (A : Nat → Prop) (k : Nat) (hk : k < 10) (i : Int32) (h0 : ¬ i < 0) (h1 : i < nI (tLen k)) : Met l y_JS_charAt (Cond.code y_JS_charAt b_JS_charAt 2 (some .char) :: TB) (rk 3 64) (va_Pc [.ref (aK k), .int i] (JX tq aK aV A)) (vp_Si (fun r => r = tCh k i.toNatClampNeg)) 0 0 (fun _ => False) := by
  refine w_gI rfl (Nat.le_of_ble_eq_true rfl) (tCh_nar hk (tIn hk h0 h1).2) ?_
  intro p e s m args below meth c Q ls hx hb hml hts hown hT hl hend
  have hl : lv_has ls 2 [(0, .ref (aK k)), (1, .int i)] := hl
  have hT : TX tq aK aV A s s.heap := hT
  have hS : va_S A s.heap s.heap [] := va_S.rf
  have hown : s.vm.findClass R_JS = some m.cls := hown
  refine lv_aload_n hx hb d_JS_charAt_0 rfl (lv_at hl 0 rfl) ?_
  refine k_gvi (rest := []) (c_JS_isLatin1 l tq aK aV A k hk) mi_JS_isLatin1 ml_JS_492 hx hb hml hts hown JX.fb (JX.at hT hS) (vk_recv hT.2.2.1 hk hS) hl ⟨rfl, rfl⟩ ⟨Nat.le_of_ble_eq_true rfl, Nat.le_of_ble_eq_true rfl⟩ ⟨Nat.zero_le _, Nat.zero_le _⟩ rfl (Nat.le_of_ble_eq_true rfl) rfl d_JS_charAt_1 ?_
  refine lv_if_eq (tgt := 16) hx hb d_JS_charAt_4 (by decide) (fun c_3 => absurd c_3 (by decide)) (fun c_3 => ?_)
  refine lv_aload_n hx hb d_JS_charAt_7 rfl (lv_at hl 0 rfl) ?_
  refine vk_getf hx hb (hT.2.2.1.1 k hk).2.2.1 hS hown (hts _ fl_JS_9) (fun _ h => h) d_JS_charAt_8 ?_
  refine lv_iload_n hx hb d_JS_charAt_11 rfl (lv_at hl 1 rfl) ?_
  refine k_gsi (rest := []) (c_JL_charAt l tq aK aV A k hk i h0 h1) mi_JL_charAt ml_JS_495 hx hb hml hts hown JX.fb (JX.at hT hS) hl ⟨rfl, rfl⟩ ⟨Nat.le_of_ble_eq_true rfl, Nat.le_of_ble_eq_true rfl⟩ ⟨Nat.zero_le _, Nat.zero_le _⟩ rfl (Nat.le_of_ble_eq_true rfl) rfl d_JS_charAt_12 ?_
  exact hend _ _ _ rfl d_JS_charAt_15
