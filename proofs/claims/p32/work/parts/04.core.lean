/-! the state of a world, its picture, the wrappers of contracts, the calls -/
abbrev St : Type := (Nat → Int32) × (Nat → Nat → Int32) × (Nat → Nat → Int64)
abbrev Cx : Type := va_G × ClassId × ClassId × ClassId
def sV (S : St) (k : Nat) (x : Int32) : St := (upd S.1 k x, S.2.1, S.2.2)
def sF (S : St) (k : Nat) (f : Nat → Int32) : St := (S.1, va_up S.2.1 k f, S.2.2)
def sG (S : St) (k : Nat) (f : Nat → Int64) : St := (S.1, S.2.1, va_up S.2.2 k f)
def sA (S : St) (k j : Nat) (x : Int32) : St := sF S k (upd (S.2.1 k) j x)
def sL (S : St) (k j : Nat) (x : Int64) : St := sG S k (vp_updL (S.2.2 k) j x)
abbrev rk (f lo : Nat) : Room := { frames := f, cells := 0, slots := 0, locals := lo }
def TY (E : Cx) : List (ClassId × FieldType) := [(E.2.1, .int), (E.2.2.1, .long), (E.2.2.2, .object "PinionBench$Row")]
def NW (U : State) : Prop := ∀ q ∈ nestW, va_Nw (.methodLinkNest q.1 q.2.1 q.2.2.1 q.2.2.2) U
def KK (E : Cx) (U : State) : Prop := va_K E.1 vwCl (TY E) U ∧ NW U
theorem KK.warm {E : Cx} {s U : State} (hW : s.WarmedH U.vm) (h : KK E s) : KK E U := ⟨va_K.moved hW.alike h.1, fun q hq => va_Nw.warmM hW (h.2 q hq)⟩
theorem KK.call {E : Cx} {U : State} {g : JFrame} {mk : MethodId} {a : Array Value} (h : KK E U) : KK E (U.calling g mk a) := ⟨va_K.moved (Vm.Alike.refl U.vm) h.1, fun q hq => va_Nw.same rfl rfl (h.2 q hq)⟩
def preR (E : Cx) (ws : va_W) (U : State) : Prop := va_P E.1 vwCl ws U.heap ∧ KK E U
def preM (E : Cx) (A : Nat → Prop) (Wf : St → va_W) (S : St) (U : State) : Prop := va_P E.1 vwCl (Wf S) U.heap ∧ KK E U ∧ ∀ S' : St, va_D A (Wf S')
theorem fb_R {av : List Value} {E : Cx} {ws : va_W} : FrameBlind (va_Pc av (preR E ws)) := fun a U g mk q => ⟨q.1, q.2.1, q.2.2.call⟩
theorem fb_M {av : List Value} {E : Cx} {A : Nat → Prop} {Wf : St → va_W} {S : St} : FrameBlind (va_Pc av (preM E A Wf S)) := fun a U g mk q => ⟨q.1, q.2.1, q.2.2.1.call, q.2.2.2⟩
theorem va_nil {E : Cx} {H : Heap} : va_P E.1 vwCl [] H := fun k q h => by simp at h
theorem tb_ws {y : MethodName} {cc : ByteArray} {maxL : Nat} {ret : Option FieldType} {args : Array Value} {s : State} (hts : ∀ w ∈ TB, w.before args s = true) (hc : Cond.code y cc maxL ret ∈ TB) : ∀ w ∈ (Cond.code y cc maxL ret :: TB), ∀ (a' : Array Value) (U : State), s.WarmedH U.vm → w.before a' U = true := fun w hw a' U hW => by
  have hw' : w ∈ TB := (List.mem_cons.mp hw).elim (fun e => by rw [e]; exact hc) id
  exact word_at hW (tb_good w hw') (hts w hw')
theorem tb_cb {R rm : Room} {s : State} {args : Array Value} {own : String} {index n : Nat} {y : MethodName} {cc : ByteArray} {maxL : Nat} {ret : Option FieldType} (hts : ∀ w ∈ TB, w.before args s = true) (mi : MI y n cc maxL ret) (hlk : Cond.methodLink own index y ∈ TB) (h0 : rm.cells = 0 ∧ rm.slots = 0) (hR : rm.frames + 1 ≤ R.frames ∧ 8 + (maxL + 11) + rm.locals ≤ R.locals) : CallB R s args own index y cc maxL ret (Cond.code y cc maxL ret :: TB) rm 0 0 n :=
  ⟨h0.1, h0.2, hR.1, hR.2, tb_ws hts mi.2.2, List.mem_cons_self, hts _ mi.2.2, hts _ mi.2.1, ⟨mi.1.1, mi.1.2.1⟩, fun sig h => by have h2 := mi.1.2.2; rw [h] at h2; exact (Option.some.inj h2).symm, hts _ hlk⟩
theorem tb_cn {R rm : Room} {s : State} {args : Array Value} {own host : String} {index n : Nat} {y : MethodName} {cc : ByteArray} {maxL : Nat} {ret : Option FieldType} {E : Cx} (hts : ∀ w ∈ TB, w.before args s = true) (mi : MI y n cc maxL ret) (hK : KK E s) (hlk : (own, index, y, host) ∈ nestW) (h0 : rm.cells = 0 ∧ rm.slots = 0) (hR : rm.frames + 1 ≤ R.frames ∧ 8 + (maxL + 11) + rm.locals ≤ R.locals) : va_CN R s args own index y host cc maxL ret (Cond.code y cc maxL ret :: TB) rm 0 0 n :=
  ⟨⟨h0.1, h0.2, hR.1, hR.2, tb_ws hts mi.2.2, List.mem_cons_self⟩, hts _ mi.2.2, hts _ mi.2.1, ⟨mi.1.1, mi.1.2.1⟩, fun sig h => by have h2 := mi.1.2.2; rw [h] at h2; exact (Option.some.inj h2).symm, va_Nw.use rfl (hK.2 _ hlk)⟩
def RV (ws : va_W) (b : Nat) (C : String) : Prop := ∃ (k ci : Nat) (fs : List Value) (q : vw_C), ws[k]? = some (b, .inr (ci, fs)) ∧ vwCl[ci]? = some q ∧ q.1 = C
theorem RV.recv {E : Cx} {ws : va_W} {b : Nat} {C : String} {s : State} {H : Heap} (hK : KK E s) (hP : va_P E.1 vwCl ws H) (h : RV ws b C) : ∃ cell : Cell, H[b]? = some cell ∧ cell.vm.isStatics = false ∧ s.vm.findClass C = some cell.cls := by
  obtain ⟨k, ci, fs, q, h1, h2, rfl⟩ := h
  exact va_recv hK.1 hP h2 h1
section CALLS
variable {p : Program} {l : Launch} {e : Env} {R : Room} {s : State} {m : MethodId} {args : Array Value} {below : List Frame} {meth : Method} {c : Code} {H : Heap} {locs : List Loc} {cells slots : Nat} {Q : State → Prop}
variable {cc bytes : ByteArray} {pc maxL nL n index : Nat} {ls : Array Slot} {lv : List (Nat × Value)} {rest st As : List Value} {E : Cx} {ws : va_W} {own host : String} {y : MethodName} {rt : FieldType} {rm : Room} {b : Nat} {A : Nat → Prop} {Wf : St → va_W} {S : St} {H0 : Heap}
theorem k_run_of {mc ms : Nat} {g : JFrame} {Qa : State → Outcome → State → Prop} {free : Addr → Prop} (h : va_Run p l e R s m args below meth c H locs cells slots mc ms g rest Qa free) : CallRun p l e R s m args below meth c H locs cells slots mc ms g rest Qa free := fun T hT X => by
  obtain ⟨v, st₀, t, T', L, h0, X', hL, e1, -, hq, hs⟩ := h T hT X
  exact ⟨v, st₀, t, T', L, h0, X', hL, e1, hq, hs⟩
theorem k_vi {T : Int32} (hM : Met l y (Cond.code y bytes maxL (some rt) :: TB) rm (va_Pc (.ref b :: As) (preR E ws)) (vp_Si (fun r => r = T)) 0 0 (fun _ => False)) (mi : MIv y n bytes maxL (some rt)) (hlk : Cond.methodLink own index y ∈ TB) (hx : p.tables.exec = Jvm.exec) (hb : c.code = cc) (hml : c.maxLocals = nL) (hts : ∀ w ∈ TB, w.before args s = true) (hown : s.vm.findClass own = some m.cls) (hK : KK E s) (hP : va_P E.1 vwCl ws H) (hrv : RV ws b y.cls) (hl : lv_has ls nL lv) (h0 : rm.cells = 0 ∧ rm.slots = 0) (hR : rm.frames + 1 ≤ R.frames ∧ 8 + (maxL + 11) + rm.locals ≤ R.locals) (hf : cells ≤ R.cells ∧ slots ≤ R.slots) (hn : As.length = n) (hW : (rest.map fun v => v.category).sum ≤ 8) (hst : st = As.reverse ++ .ref b :: rest) (hdg : decode cc pc = .ok (.invokevirtual index, 3))
    (kk : W p l e R s m args below meth c H locs cells slots Q (F0 m (pc + 3) ls (.int T :: rest))) : W p l e R s m args below meth c H locs cells slots Q (F0 m pc ls st) :=
  vp_callSi (W.runV ⟨hx, hb, hml, hown, hts⟩ hM ⟨tb_cb hts mi.1 hlk h0 hR, hts _ mi.2.1, hts _ mi.2.2⟩ ⟨fb_R, hrv.recv hK hP, fun U hU hW => ⟨rfl, by rw [hU]; exact hP, hK.warm hW⟩⟩ rfl hn hl.1 hst (lv_room hW) hdg hf) (fun r hr => by rw [hr]; exact kk)
theorem k_vl {T : Int64} (hM : Met l y (Cond.code y bytes maxL (some rt) :: TB) rm (va_Pc (.ref b :: As) (preR E ws)) (vp_Sl (fun r => r = T)) 0 0 (fun _ => False)) (mi : MIv y n bytes maxL (some rt)) (hlk : Cond.methodLink own index y ∈ TB) (hx : p.tables.exec = Jvm.exec) (hb : c.code = cc) (hml : c.maxLocals = nL) (hts : ∀ w ∈ TB, w.before args s = true) (hown : s.vm.findClass own = some m.cls) (hK : KK E s) (hP : va_P E.1 vwCl ws H) (hrv : RV ws b y.cls) (hl : lv_has ls nL lv) (h0 : rm.cells = 0 ∧ rm.slots = 0) (hR : rm.frames + 1 ≤ R.frames ∧ 8 + (maxL + 11) + rm.locals ≤ R.locals) (hf : cells ≤ R.cells ∧ slots ≤ R.slots) (hn : As.length = n) (hW : (rest.map fun v => v.category).sum ≤ 8) (hst : st = As.reverse ++ .ref b :: rest) (hdg : decode cc pc = .ok (.invokevirtual index, 3))
    (kk : W p l e R s m args below meth c H locs cells slots Q (F0 m (pc + 3) ls (.long T :: rest))) : W p l e R s m args below meth c H locs cells slots Q (F0 m pc ls st) :=
  vp_callSl (W.runV ⟨hx, hb, hml, hown, hts⟩ hM ⟨tb_cb hts mi.1 hlk h0 hR, hts _ mi.2.1, hts _ mi.2.2⟩ ⟨fb_R, hrv.recv hK hP, fun U hU hW => ⟨rfl, by rw [hU]; exact hP, hK.warm hW⟩⟩ rfl hn hl.1 hst (lv_room hW) hdg hf) (fun r hr => by rw [hr]; exact kk)
theorem k_si {T : Int32} (hM : Met l y (Cond.code y bytes maxL (some rt) :: TB) rm (va_Pc As (preR E ws)) (vp_Si (fun r => r = T)) 0 0 (fun _ => False)) (mi : MIs y n bytes maxL (some rt)) (hlk : Cond.methodLink own index y ∈ TB) (hx : p.tables.exec = Jvm.exec) (hb : c.code = cc) (hml : c.maxLocals = nL) (hts : ∀ w ∈ TB, w.before args s = true) (hown : s.vm.findClass own = some m.cls) (hK : KK E s) (hP : va_P E.1 vwCl ws H) (hl : lv_has ls nL lv) (h0 : rm.cells = 0 ∧ rm.slots = 0) (hR : rm.frames + 1 ≤ R.frames ∧ 8 + (maxL + 11) + rm.locals ≤ R.locals) (hf : cells ≤ R.cells ∧ slots ≤ R.slots) (hn : As.length = n) (hW : (rest.map fun v => v.category).sum ≤ 8) (hst : st = As.reverse ++ rest) (hdg : decode cc pc = .ok (.invokestatic index, 3))
    (kk : W p l e R s m args below meth c H locs cells slots Q (F0 m (pc + 3) ls (.int T :: rest))) : W p l e R s m args below meth c H locs cells slots Q (F0 m pc ls st) :=
  vp_callSi (W.runS ⟨hx, hb, hml, hown, hts⟩ hM ⟨tb_cb hts mi.1 hlk h0 hR, hts _ mi.2⟩ ⟨fb_R, fun U hU hW => ⟨rfl, by rw [hU]; exact hP, hK.warm hW⟩⟩ rfl hn hl.1 hst (lv_room hW) hdg hf) (fun r hr => by rw [hr]; exact kk)
theorem k_sl {T : Int64} (hM : Met l y (Cond.code y bytes maxL (some rt) :: TB) rm (va_Pc As (preR E ws)) (vp_Sl (fun r => r = T)) 0 0 (fun _ => False)) (mi : MIs y n bytes maxL (some rt)) (hlk : Cond.methodLink own index y ∈ TB) (hx : p.tables.exec = Jvm.exec) (hb : c.code = cc) (hml : c.maxLocals = nL) (hts : ∀ w ∈ TB, w.before args s = true) (hown : s.vm.findClass own = some m.cls) (hK : KK E s) (hP : va_P E.1 vwCl ws H) (hl : lv_has ls nL lv) (h0 : rm.cells = 0 ∧ rm.slots = 0) (hR : rm.frames + 1 ≤ R.frames ∧ 8 + (maxL + 11) + rm.locals ≤ R.locals) (hf : cells ≤ R.cells ∧ slots ≤ R.slots) (hn : As.length = n) (hW : (rest.map fun v => v.category).sum ≤ 8) (hst : st = As.reverse ++ rest) (hdg : decode cc pc = .ok (.invokestatic index, 3))
    (kk : W p l e R s m args below meth c H locs cells slots Q (F0 m (pc + 3) ls (.long T :: rest))) : W p l e R s m args below meth c H locs cells slots Q (F0 m pc ls st) :=
  vp_callSl (W.runS ⟨hx, hb, hml, hown, hts⟩ hM ⟨tb_cb hts mi.1 hlk h0 hR, hts _ mi.2⟩ ⟨fb_R, fun U hU hW => ⟨rfl, by rw [hU]; exact hP, hK.warm hW⟩⟩ rfl hn hl.1 hst (lv_room hW) hdg hf) (fun r hr => by rw [hr]; exact kk)
theorem k_ni {T : Int32} (hM : Met l y (Cond.code y bytes maxL (some rt) :: TB) rm (va_Pc As (preR E ws)) (vp_Si (fun r => r = T)) 0 0 (fun _ => False)) (mi : MIs y n bytes maxL (some rt)) (hlk : (own, index, y, host) ∈ nestW) (hx : p.tables.exec = Jvm.exec) (hb : c.code = cc) (hml : c.maxLocals = nL) (hts : ∀ w ∈ TB, w.before args s = true) (hown : s.vm.findClass own = some m.cls) (hK : KK E s) (hP : va_P E.1 vwCl ws H) (hl : lv_has ls nL lv) (h0 : rm.cells = 0 ∧ rm.slots = 0) (hR : rm.frames + 1 ≤ R.frames ∧ 8 + (maxL + 11) + rm.locals ≤ R.locals) (hf : cells ≤ R.cells ∧ slots ≤ R.slots) (hn : As.length = n) (hW : (rest.map fun v => v.category).sum ≤ 8) (hst : st = As.reverse ++ rest) (hdg : decode cc pc = .ok (.invokestatic index, 3))
    (kk : W p l e R s m args below meth c H locs cells slots Q (F0 m (pc + 3) ls (.int T :: rest))) : W p l e R s m args below meth c H locs cells slots Q (F0 m pc ls st) :=
  vp_callSi (k_run_of (va_runSN ⟨hx, hb, hml, hown, hts⟩ hM ⟨tb_cn hts mi.1 hK hlk h0 hR, hts _ mi.2, trivial⟩ ⟨fb_R, fun U hU hW => ⟨rfl, by rw [hU]; exact hP, hK.warm hW⟩⟩ rfl hn hl.1 hst (lv_room hW) hdg hf)) (fun r hr => by rw [hr]; exact kk)
theorem k_nl {T : Int64} (hM : Met l y (Cond.code y bytes maxL (some rt) :: TB) rm (va_Pc As (preR E ws)) (vp_Sl (fun r => r = T)) 0 0 (fun _ => False)) (mi : MIs y n bytes maxL (some rt)) (hlk : (own, index, y, host) ∈ nestW) (hx : p.tables.exec = Jvm.exec) (hb : c.code = cc) (hml : c.maxLocals = nL) (hts : ∀ w ∈ TB, w.before args s = true) (hown : s.vm.findClass own = some m.cls) (hK : KK E s) (hP : va_P E.1 vwCl ws H) (hl : lv_has ls nL lv) (h0 : rm.cells = 0 ∧ rm.slots = 0) (hR : rm.frames + 1 ≤ R.frames ∧ 8 + (maxL + 11) + rm.locals ≤ R.locals) (hf : cells ≤ R.cells ∧ slots ≤ R.slots) (hn : As.length = n) (hW : (rest.map fun v => v.category).sum ≤ 8) (hst : st = As.reverse ++ rest) (hdg : decode cc pc = .ok (.invokestatic index, 3))
    (kk : W p l e R s m args below meth c H locs cells slots Q (F0 m (pc + 3) ls (.long T :: rest))) : W p l e R s m args below meth c H locs cells slots Q (F0 m pc ls st) :=
  vp_callSl (k_run_of (va_runSN ⟨hx, hb, hml, hown, hts⟩ hM ⟨tb_cn hts mi.1 hK hlk h0 hR, hts _ mi.2, trivial⟩ ⟨fb_R, fun U hU hW => ⟨rfl, by rw [hU]; exact hP, hK.warm hW⟩⟩ rfl hn hl.1 hst (lv_room hW) hdg hf)) (fun r hr => by rw [hr]; exact kk)
/-! calls that change the world -/
theorem k_mvi {T : Int32 × St} (hM : Met l y (Cond.code y bytes maxL (some rt) :: TB) rm (va_Pc (.ref b :: As) (preM E A Wf S)) (va_Qi (fun r u => (r, u) = T) (fun u t => va_P E.1 vwCl (Wf u) t.heap) A) 0 0 A) (mi : MIv y n bytes maxL (some rt)) (hlk : Cond.methodLink own index y ∈ TB) (hx : p.tables.exec = Jvm.exec) (hb : c.code = cc) (hml : c.maxLocals = nL) (hts : ∀ w ∈ TB, w.before args s = true) (hown : s.vm.findClass own = some m.cls) (hK : KK E s) (hP : va_P E.1 vwCl (Wf S) H) (hD : ∀ S' : St, va_D A (Wf S')) (hS : va_S A H0 H locs) (hrv : RV (Wf S) b y.cls) (hl : lv_has ls nL lv) (h0 : rm.cells = 0 ∧ rm.slots = 0) (hR : rm.frames + 1 ≤ R.frames ∧ 8 + (maxL + 11) + rm.locals ≤ R.locals) (hf : cells ≤ R.cells ∧ slots ≤ R.slots) (hn : As.length = n) (hW : (rest.map fun v => v.category).sum ≤ 8) (hst : st = As.reverse ++ .ref b :: rest) (hdg : decode cc pc = .ok (.invokevirtual index, 3))
    (kk : ∀ (H1 : Heap) (locs1 : List Loc), va_P E.1 vwCl (Wf T.2) H1 → va_S A H0 H1 locs1 → W p l e R s m args below meth c H1 locs1 cells slots Q (F0 m (pc + 3) ls (.int T.1 :: rest))) : W p l e R s m args below meth c H locs cells slots Q (F0 m pc ls st) :=
  va_calli (va_runV ⟨hx, hb, hml, hown, hts⟩ hM ⟨tb_cb hts mi.1 hlk h0 hR, hts _ mi.2.1, hts _ mi.2.2⟩ ⟨fb_M, hrv.recv hK hP, fun U hU hW => ⟨rfl, by rw [hU]; exact hP, hK.warm hW, hD⟩⟩ rfl hn hl.1 hst (lv_room hW) hdg hf) hS (fun _ _ h => h) (fun _ h => h) (fun r u t H1 locs1 ht _ hw hB _ _ hS1 => by
    subst hw
    rw [ht] at hB
    exact kk H1 locs1 hB hS1)
theorem k_mvl {T : Int64 × St} (hM : Met l y (Cond.code y bytes maxL (some rt) :: TB) rm (va_Pc (.ref b :: As) (preM E A Wf S)) (va_Ql (fun r u => (r, u) = T) (fun u t => va_P E.1 vwCl (Wf u) t.heap) A) 0 0 A) (mi : MIv y n bytes maxL (some rt)) (hlk : Cond.methodLink own index y ∈ TB) (hx : p.tables.exec = Jvm.exec) (hb : c.code = cc) (hml : c.maxLocals = nL) (hts : ∀ w ∈ TB, w.before args s = true) (hown : s.vm.findClass own = some m.cls) (hK : KK E s) (hP : va_P E.1 vwCl (Wf S) H) (hD : ∀ S' : St, va_D A (Wf S')) (hS : va_S A H0 H locs) (hrv : RV (Wf S) b y.cls) (hl : lv_has ls nL lv) (h0 : rm.cells = 0 ∧ rm.slots = 0) (hR : rm.frames + 1 ≤ R.frames ∧ 8 + (maxL + 11) + rm.locals ≤ R.locals) (hf : cells ≤ R.cells ∧ slots ≤ R.slots) (hn : As.length = n) (hW : (rest.map fun v => v.category).sum ≤ 8) (hst : st = As.reverse ++ .ref b :: rest) (hdg : decode cc pc = .ok (.invokevirtual index, 3))
    (kk : ∀ (H1 : Heap) (locs1 : List Loc), va_P E.1 vwCl (Wf T.2) H1 → va_S A H0 H1 locs1 → W p l e R s m args below meth c H1 locs1 cells slots Q (F0 m (pc + 3) ls (.long T.1 :: rest))) : W p l e R s m args below meth c H locs cells slots Q (F0 m pc ls st) :=
  va_calll (va_runV ⟨hx, hb, hml, hown, hts⟩ hM ⟨tb_cb hts mi.1 hlk h0 hR, hts _ mi.2.1, hts _ mi.2.2⟩ ⟨fb_M, hrv.recv hK hP, fun U hU hW => ⟨rfl, by rw [hU]; exact hP, hK.warm hW, hD⟩⟩ rfl hn hl.1 hst (lv_room hW) hdg hf) hS (fun _ _ h => h) (fun _ h => h) (fun r u t H1 locs1 ht _ hw hB _ _ hS1 => by
    subst hw
    rw [ht] at hB
    exact kk H1 locs1 hB hS1)
theorem k_mvv {T : St} (hM : Met l y (Cond.code y bytes maxL none :: TB) rm (va_Pc (.ref b :: As) (preM E A Wf S)) (va_Qv (fun u => u = T) (fun u t => va_P E.1 vwCl (Wf u) t.heap) A) 0 0 A) (mi : MIv y n bytes maxL none) (hlk : Cond.methodLink own index y ∈ TB) (hx : p.tables.exec = Jvm.exec) (hb : c.code = cc) (hml : c.maxLocals = nL) (hts : ∀ w ∈ TB, w.before args s = true) (hown : s.vm.findClass own = some m.cls) (hK : KK E s) (hP : va_P E.1 vwCl (Wf S) H) (hD : ∀ S' : St, va_D A (Wf S')) (hS : va_S A H0 H locs) (hrv : RV (Wf S) b y.cls) (hl : lv_has ls nL lv) (h0 : rm.cells = 0 ∧ rm.slots = 0) (hR : rm.frames + 1 ≤ R.frames ∧ 8 + (maxL + 11) + rm.locals ≤ R.locals) (hf : cells ≤ R.cells ∧ slots ≤ R.slots) (hn : As.length = n) (hW : (rest.map fun v => v.category).sum ≤ 8) (hst : st = As.reverse ++ .ref b :: rest) (hdg : decode cc pc = .ok (.invokevirtual index, 3))
    (kk : ∀ (H1 : Heap) (locs1 : List Loc), va_P E.1 vwCl (Wf T) H1 → va_S A H0 H1 locs1 → W p l e R s m args below meth c H1 locs1 cells slots Q (F0 m (pc + 3) ls rest)) : W p l e R s m args below meth c H locs cells slots Q (F0 m pc ls st) :=
  va_callv (va_runV ⟨hx, hb, hml, hown, hts⟩ hM ⟨tb_cb hts mi.1 hlk h0 hR, hts _ mi.2.1, hts _ mi.2.2⟩ ⟨fb_M, hrv.recv hK hP, fun U hU hW => ⟨rfl, by rw [hU]; exact hP, hK.warm hW, hD⟩⟩ rfl hn hl.1 hst (lv_room hW) hdg hf) hS (fun _ _ h => h) (fun _ h => h) (fun u t H1 locs1 ht _ hw hB _ _ hS1 => by
    subst hw
    rw [ht] at hB
    exact kk H1 locs1 hB hS1)
theorem k_msv {T : St} (hM : Met l y (Cond.code y bytes maxL none :: TB) rm (va_Pc As (preM E A Wf S)) (va_Qv (fun u => u = T) (fun u t => va_P E.1 vwCl (Wf u) t.heap) A) 0 0 A) (mi : MIs y n bytes maxL none) (hlk : Cond.methodLink own index y ∈ TB) (hx : p.tables.exec = Jvm.exec) (hb : c.code = cc) (hml : c.maxLocals = nL) (hts : ∀ w ∈ TB, w.before args s = true) (hown : s.vm.findClass own = some m.cls) (hK : KK E s) (hP : va_P E.1 vwCl (Wf S) H) (hD : ∀ S' : St, va_D A (Wf S')) (hS : va_S A H0 H locs) (hl : lv_has ls nL lv) (h0 : rm.cells = 0 ∧ rm.slots = 0) (hR : rm.frames + 1 ≤ R.frames ∧ 8 + (maxL + 11) + rm.locals ≤ R.locals) (hf : cells ≤ R.cells ∧ slots ≤ R.slots) (hn : As.length = n) (hW : (rest.map fun v => v.category).sum ≤ 8) (hst : st = As.reverse ++ rest) (hdg : decode cc pc = .ok (.invokestatic index, 3))
    (kk : ∀ (H1 : Heap) (locs1 : List Loc), va_P E.1 vwCl (Wf T) H1 → va_S A H0 H1 locs1 → W p l e R s m args below meth c H1 locs1 cells slots Q (F0 m (pc + 3) ls rest)) : W p l e R s m args below meth c H locs cells slots Q (F0 m pc ls st) :=
  va_callv (va_runS ⟨hx, hb, hml, hown, hts⟩ hM ⟨tb_cb hts mi.1 hlk h0 hR, hts _ mi.2⟩ ⟨fb_M, fun U hU hW => ⟨rfl, by rw [hU]; exact hP, hK.warm hW, hD⟩⟩ rfl hn hl.1 hst (lv_room hW) hdg hf) hS (fun _ _ h => h) (fun _ h => h) (fun u t H1 locs1 ht _ hw hB _ _ hS1 => by
    subst hw
    rw [ht] at hB
    exact kk H1 locs1 hB hS1)
theorem k_vq {T : Option Nat} (hM : Met l y (Cond.code y bytes maxL (some rt) :: TB) rm (va_Pc (.ref b :: As) (preR E ws)) (va_Sq (fun r => r = T)) 0 0 (fun _ => False)) (mi : MIv y n bytes maxL (some rt)) (hlk : Cond.methodLink own index y ∈ TB) (hx : p.tables.exec = Jvm.exec) (hb : c.code = cc) (hml : c.maxLocals = nL) (hts : ∀ w ∈ TB, w.before args s = true) (hown : s.vm.findClass own = some m.cls) (hK : KK E s) (hP : va_P E.1 vwCl ws H) (hrv : RV ws b y.cls) (hl : lv_has ls nL lv) (h0 : rm.cells = 0 ∧ rm.slots = 0) (hR : rm.frames + 1 ≤ R.frames ∧ 8 + (maxL + 11) + rm.locals ≤ R.locals) (hf : cells ≤ R.cells ∧ slots ≤ R.slots) (hn : As.length = n) (hW : (rest.map fun v => v.category).sum ≤ 8) (hst : st = As.reverse ++ .ref b :: rest) (hdg : decode cc pc = .ok (.invokevirtual index, 3))
    (kk : W p l e R s m args below meth c H locs cells slots Q (F0 m (pc + 3) ls (va_rf T :: rest))) : W p l e R s m args below meth c H locs cells slots Q (F0 m pc ls st) := by
  have hr := W.runV (e := e) (below := below) (meth := meth) (locs := locs) ⟨hx, hb, hml, hown, hts⟩ hM ⟨tb_cb hts mi.1 hlk h0 hR, hts _ mi.2.1, hts _ mi.2.2⟩ ⟨fb_R, hrv.recv hK hP, fun U hU hW => ⟨rfl, by rw [hU]; exact hP, hK.warm hW⟩⟩ (g := F0 m pc ls st) rfl hn hl.1 hst (lv_room hW) hdg hf
  intro T1 hT X
  obtain ⟨v, st₀, t, T', L, h0, X', hL, e1, ⟨r, hv, hp, hh⟩, hs⟩ := hr T1 hT X
  cases hv
  subst hp
  obtain ⟨t2, a1, b1⟩ := kk T' (by rw [e1, hh, h0]) (Stand.forget X' (fun q h => (hL q h).elim))
  exact ⟨t2, hs t2 a1, b1⟩
end CALLS
/-! wrappers: a contract out of one walk -/
theorem w_roI {l : Launch} {y : MethodName} {cc : ByteArray} {maxL : Nat} {rt : FieldType} {rm : Room} {av : List Value} {E : Cx} {ws : va_W} {T : Int32} (hy : plainName y.cls = true) (hsl : (lg_sl av).length ≤ maxL) (hn : narrow rt (.int T) = .int T)
    (body : ∀ (p : Program) (e : Env) (s : State) (m : MethodId) (args : Array Value) (below : List Frame) (meth : Method) (c : Code) (Q : State → Prop) (ls : Array Slot), p.tables.exec = Jvm.exec → c.code = cc → c.maxLocals = maxL → (∀ w ∈ TB, w.before args s = true) → s.vm.findClass y.cls = some m.cls → va_P E.1 vwCl ws s.heap → KK E s → lv_has ls maxL (lv_args 0 av) →
      (∀ (pc : Nat) (ls : Array Slot) (r : Int32), r = T → decode cc pc = .ok (.ireturn, 1) → W p l e rm s m args below meth c s.heap [] 0 0 Q (F0 m pc ls [.int r])) → W p l e rm s m args below meth c s.heap [] 0 0 Q (F0 m 0 ls [])) :
    Met l y (Cond.code y cc maxL (some rt) :: TB) rm (va_Pc av (preR E ws)) (vp_Si (fun r => r = T)) 0 0 (fun _ => False) := by
  refine Met.ofW (cc := cc) (maxL := maxL) (ret := some rt) hy rfl ?_
  intro p e s m args below meth c s₁ B hml hv
  obtain ⟨rfl, hP, hK⟩ := hv
  have hts0 := atoms_spec (ws := Cond.code y cc maxL (some rt) :: TB) B.pre
  have hown : s.vm.findClass y.cls = some m.cls := findClass_of_methodNamed B.named
  rw [lg_entry_eq]
  exact body p e s m _ below meth c _ _ B.exec B.bytes hml (fun w h => hts0 w (List.mem_cons_of_mem _ h)) hown hP hK (lv_entry av hsl) (fun pc ls r hrT hdg => W.zret B.exec B.bytes B.returns (by rw [hrT]; exact hn) (fun t ht hW => ⟨r, rfl, hrT, ht⟩) (fun q h => by cases h) hdg (hlocks := B.notSynchronized))
theorem w_roL {l : Launch} {y : MethodName} {cc : ByteArray} {maxL : Nat} {rm : Room} {av : List Value} {E : Cx} {ws : va_W} {T : Int64} (hy : plainName y.cls = true) (hsl : (lg_sl av).length ≤ maxL)
    (body : ∀ (p : Program) (e : Env) (s : State) (m : MethodId) (args : Array Value) (below : List Frame) (meth : Method) (c : Code) (Q : State → Prop) (ls : Array Slot), p.tables.exec = Jvm.exec → c.code = cc → c.maxLocals = maxL → (∀ w ∈ TB, w.before args s = true) → s.vm.findClass y.cls = some m.cls → va_P E.1 vwCl ws s.heap → KK E s → lv_has ls maxL (lv_args 0 av) →
      (∀ (pc : Nat) (ls : Array Slot) (r : Int64), r = T → decode cc pc = .ok (.lreturn, 1) → W p l e rm s m args below meth c s.heap [] 0 0 Q (F0 m pc ls [.long r])) → W p l e rm s m args below meth c s.heap [] 0 0 Q (F0 m 0 ls [])) :
    Met l y (Cond.code y cc maxL (some .long) :: TB) rm (va_Pc av (preR E ws)) (vp_Sl (fun r => r = T)) 0 0 (fun _ => False) := by
  refine Met.ofW (cc := cc) (maxL := maxL) (ret := some .long) hy rfl ?_
  intro p e s m args below meth c s₁ B hml hv
  obtain ⟨rfl, hP, hK⟩ := hv
  have hts0 := atoms_spec (ws := Cond.code y cc maxL (some .long) :: TB) B.pre
  have hown : s.vm.findClass y.cls = some m.cls := findClass_of_methodNamed B.named
  rw [lg_entry_eq]
  exact body p e s m _ below meth c _ _ B.exec B.bytes hml (fun w h => hts0 w (List.mem_cons_of_mem _ h)) hown hP hK (lv_entry av hsl) (fun pc ls r hrT hdg => W.lret B.exec B.bytes B.returns (fun t ht hW => ⟨r, rfl, hrT, ht⟩) (fun q h => by cases h) hdg (hlocks := B.notSynchronized))
theorem w_roQ {l : Launch} {y : MethodName} {cc : ByteArray} {maxL : Nat} {rt : FieldType} {rm : Room} {av : List Value} {E : Cx} {ws : va_W} {T : Option Nat} (hy : plainName y.cls = true) (hsl : (lg_sl av).length ≤ maxL) (hrt : (∃ n, rt = .object n) ∨ ∃ t, rt = .array t)
    (body : ∀ (p : Program) (e : Env) (s : State) (m : MethodId) (args : Array Value) (below : List Frame) (meth : Method) (c : Code) (Q : State → Prop) (ls : Array Slot), p.tables.exec = Jvm.exec → c.code = cc → c.maxLocals = maxL → (∀ w ∈ TB, w.before args s = true) → s.vm.findClass y.cls = some m.cls → va_P E.1 vwCl ws s.heap → KK E s → lv_has ls maxL (lv_args 0 av) →
      (∀ (pc : Nat) (ls : Array Slot) (r : Value), r = va_rf T → decode cc pc = .ok (.areturn, 1) → W p l e rm s m args below meth c s.heap [] 0 0 Q (F0 m pc ls [r])) → W p l e rm s m args below meth c s.heap [] 0 0 Q (F0 m 0 ls [])) :
    Met l y (Cond.code y cc maxL (some rt) :: TB) rm (va_Pc av (preR E ws)) (va_Sq (fun r => r = T)) 0 0 (fun _ => False) := by
  refine Met.ofW (cc := cc) (maxL := maxL) (ret := some rt) hy rfl ?_
  intro p e s m args below meth c s₁ B hml hv
  obtain ⟨rfl, hP, hK⟩ := hv
  have hts0 := atoms_spec (ws := Cond.code y cc maxL (some rt) :: TB) B.pre
  have hown : s.vm.findClass y.cls = some m.cls := findClass_of_methodNamed B.named
  rw [lg_entry_eq]
  exact body p e s m _ below meth c _ _ B.exec B.bytes hml (fun w h => hts0 w (List.mem_cons_of_mem _ h)) hown hP hK (lv_entry av hsl) (fun pc ls r hrT hdg => W.aret B.exec B.bytes B.returns hrt (by rw [hrT]; cases T with
    | none => exact Or.inl rfl
    | some a => exact Or.inr ⟨a, rfl⟩) (fun t ht hW => ⟨T, by rw [hrT], rfl, ht⟩) (fun q h => by cases h) hdg (hlocks := B.notSynchronized))
theorem w_muI {l : Launch} {y : MethodName} {cc : ByteArray} {maxL : Nat} {rt : FieldType} {rm : Room} {av : List Value} {E : Cx} {A : Nat → Prop} {Wf : St → va_W} {S : St} {T : Int32 × St} (hy : plainName y.cls = true) (hsl : (lg_sl av).length ≤ maxL) (hn : narrow rt (.int T.1) = .int T.1)
    (body : ∀ (p : Program) (e : Env) (s : State) (m : MethodId) (args : Array Value) (below : List Frame) (meth : Method) (c : Code) (Q : State → Prop) (ls : Array Slot), p.tables.exec = Jvm.exec → c.code = cc → c.maxLocals = maxL → (∀ w ∈ TB, w.before args s = true) → s.vm.findClass y.cls = some m.cls → va_P E.1 vwCl (Wf S) s.heap → KK E s → (∀ S' : St, va_D A (Wf S')) → va_S A s.heap s.heap [] → lv_has ls maxL (lv_args 0 av) →
      (∀ (pc : Nat) (ls : Array Slot) (r : Int32) (u : St) (H : Heap) (locs : List Loc), (r, u) = T → va_P E.1 vwCl (Wf u) H → va_S A s.heap H locs → decode cc pc = .ok (.ireturn, 1) → W p l e rm s m args below meth c H locs 0 0 Q (F0 m pc ls [.int r])) → W p l e rm s m args below meth c s.heap [] 0 0 Q (F0 m 0 ls [])) :
    Met l y (Cond.code y cc maxL (some rt) :: TB) rm (va_Pc av (preM E A Wf S)) (va_Qi (fun r u => (r, u) = T) (fun u t => va_P E.1 vwCl (Wf u) t.heap) A) 0 0 A := by
  refine Met.ofW (cc := cc) (maxL := maxL) (ret := some rt) hy rfl ?_
  intro p e s m args below meth c s₁ B hml hv
  obtain ⟨rfl, hP, hK, hD⟩ := hv
  have hts0 := atoms_spec (ws := Cond.code y cc maxL (some rt) :: TB) B.pre
  have hown : s.vm.findClass y.cls = some m.cls := findClass_of_methodNamed B.named
  rw [lg_entry_eq]
  exact body p e s m _ below meth c _ _ B.exec B.bytes hml (fun w h => hts0 w (List.mem_cons_of_mem _ h)) hown hP hK hD va_S.rf (lv_entry av hsl) (fun pc ls r u H locs hrT hP1 hS1 hdg => W.zret B.exec B.bytes B.returns (by rw [← hrT] at hn; exact hn) (fun t ht hW => ⟨⟨r, u, rfl, hrT, by show va_P E.1 vwCl (Wf u) t.heap; rw [ht]; exact hP1⟩, hS1.F ht⟩) hS1.2.2 hdg (hlocks := B.notSynchronized))
theorem w_muL {l : Launch} {y : MethodName} {cc : ByteArray} {maxL : Nat} {rm : Room} {av : List Value} {E : Cx} {A : Nat → Prop} {Wf : St → va_W} {S : St} {T : Int64 × St} (hy : plainName y.cls = true) (hsl : (lg_sl av).length ≤ maxL)
    (body : ∀ (p : Program) (e : Env) (s : State) (m : MethodId) (args : Array Value) (below : List Frame) (meth : Method) (c : Code) (Q : State → Prop) (ls : Array Slot), p.tables.exec = Jvm.exec → c.code = cc → c.maxLocals = maxL → (∀ w ∈ TB, w.before args s = true) → s.vm.findClass y.cls = some m.cls → va_P E.1 vwCl (Wf S) s.heap → KK E s → (∀ S' : St, va_D A (Wf S')) → va_S A s.heap s.heap [] → lv_has ls maxL (lv_args 0 av) →
      (∀ (pc : Nat) (ls : Array Slot) (r : Int64) (u : St) (H : Heap) (locs : List Loc), (r, u) = T → va_P E.1 vwCl (Wf u) H → va_S A s.heap H locs → decode cc pc = .ok (.lreturn, 1) → W p l e rm s m args below meth c H locs 0 0 Q (F0 m pc ls [.long r])) → W p l e rm s m args below meth c s.heap [] 0 0 Q (F0 m 0 ls [])) :
    Met l y (Cond.code y cc maxL (some .long) :: TB) rm (va_Pc av (preM E A Wf S)) (va_Ql (fun r u => (r, u) = T) (fun u t => va_P E.1 vwCl (Wf u) t.heap) A) 0 0 A := by
  refine Met.ofW (cc := cc) (maxL := maxL) (ret := some .long) hy rfl ?_
  intro p e s m args below meth c s₁ B hml hv
  obtain ⟨rfl, hP, hK, hD⟩ := hv
  have hts0 := atoms_spec (ws := Cond.code y cc maxL (some .long) :: TB) B.pre
  have hown : s.vm.findClass y.cls = some m.cls := findClass_of_methodNamed B.named
  rw [lg_entry_eq]
  exact body p e s m _ below meth c _ _ B.exec B.bytes hml (fun w h => hts0 w (List.mem_cons_of_mem _ h)) hown hP hK hD va_S.rf (lv_entry av hsl) (fun pc ls r u H locs hrT hP1 hS1 hdg => W.lret B.exec B.bytes B.returns (fun t ht hW => ⟨⟨r, u, rfl, hrT, by show va_P E.1 vwCl (Wf u) t.heap; rw [ht]; exact hP1⟩, hS1.F ht⟩) hS1.2.2 hdg (hlocks := B.notSynchronized))
theorem w_muV {l : Launch} {y : MethodName} {cc : ByteArray} {maxL : Nat} {rm : Room} {av : List Value} {E : Cx} {A : Nat → Prop} {Wf : St → va_W} {S : St} {T : St} (hy : plainName y.cls = true) (hsl : (lg_sl av).length ≤ maxL)
    (body : ∀ (p : Program) (e : Env) (s : State) (m : MethodId) (args : Array Value) (below : List Frame) (meth : Method) (c : Code) (Q : State → Prop) (ls : Array Slot), p.tables.exec = Jvm.exec → c.code = cc → c.maxLocals = maxL → (∀ w ∈ TB, w.before args s = true) → s.vm.findClass y.cls = some m.cls → va_P E.1 vwCl (Wf S) s.heap → KK E s → (∀ S' : St, va_D A (Wf S')) → va_S A s.heap s.heap [] → lv_has ls maxL (lv_args 0 av) →
      (∀ (pc : Nat) (ls : Array Slot) (u : St) (H : Heap) (locs : List Loc), u = T → va_P E.1 vwCl (Wf u) H → va_S A s.heap H locs → decode cc pc = .ok (.return_, 1) → W p l e rm s m args below meth c H locs 0 0 Q (F0 m pc ls [])) → W p l e rm s m args below meth c s.heap [] 0 0 Q (F0 m 0 ls [])) :
    Met l y (Cond.code y cc maxL none :: TB) rm (va_Pc av (preM E A Wf S)) (va_Qv (fun u => u = T) (fun u t => va_P E.1 vwCl (Wf u) t.heap) A) 0 0 A := by
  refine Met.ofW (cc := cc) (maxL := maxL) (ret := none) hy rfl ?_
  intro p e s m args below meth c s₁ B hml hv
  obtain ⟨rfl, hP, hK, hD⟩ := hv
  have hts0 := atoms_spec (ws := Cond.code y cc maxL none :: TB) B.pre
  have hown : s.vm.findClass y.cls = some m.cls := findClass_of_methodNamed B.named
  rw [lg_entry_eq]
  exact body p e s m _ below meth c _ _ B.exec B.bytes hml (fun w h => hts0 w (List.mem_cons_of_mem _ h)) hown hP hK hD va_S.rf (lv_entry av hsl) (fun pc ls u H locs hrT hP1 hS1 hdg => W.vret B.exec B.bytes B.returns (fun t ht hW => ⟨⟨u, rfl, hrT, by show va_P E.1 vwCl (Wf u) t.heap; rw [ht]; exact hP1⟩, hS1.F ht⟩) hS1.2.2 hdg (hlocks := B.notSynchronized))
theorem k_nb {x : Int32} (h : x = 0 ∨ x = 1) : narrow .boolean (.int x) = .int x := by rcases h with rfl | rfl <;> rfl
