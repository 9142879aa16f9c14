/-! Math.abs of a double: the machine has an entry of its own for it, run in place of its bytecode -/
def dAbs (x : UInt64) : UInt64 := x &&& 0x7fffffffffffffff
def dabsN : NativeRow := (NativeRow.find? Native.java_lang_Math.nans.rows "java/lang/Math" "abs" "(D)D").get (by decide +kernel)
set_option maxRecDepth 100000 in
theorem dabsN_at (p : Program) : NativeRow.find? p.tables.natives "java/lang/Math" "abs" "(D)D" = some dabsN := by
  cases p <;> rfl
theorem dabs_n {x : UInt64} (hx : vf_n64 x) : dAbs x &&& 0x7fffffffffffffff ≤ 0x7ff0000000000000 := by
  show (x &&& 0x7fffffffffffffff) &&& 0x7fffffffffffffff ≤ _
  rw [UInt64.and_assoc, UInt64.and_self]
  exact hx
theorem dabsN_does {x : UInt64} (hx : vf_n64 x) (e : Env) (U : State) : ∃ acts, (dabsN.sem #[.double x]).run e U = .ok (some (.double (dAbs x))) U acts := by
  have hn := dabs_n hx
  have h1 : wpRun (dabsN.sem #[.double x]) (fun v U' _ => v = some (.double (dAbs x)) ∧ U' = U) (fun _ _ _ => False) e U := by
    show wpRun (do
      let r ← anyNaN64 (dAbs x)
      mark "nat.java_lang_Math.abs"
      Pure.pure (some (Value.double r))) (fun v U' _ => v = some (.double (dAbs x)) ∧ U' = U) (fun _ _ _ => False) e U
    simp [jvm, wpRun, anyNaN64, hn]
  have h2 := (wpRun_iff_run _ _ _ _ _).mp h1
  cases hr : (dabsN.sem #[.double x]).run e U with
  | ok v U' acts =>
    rw [hr] at h2
    exact ⟨acts, by rw [h2.1, h2.2]⟩
  | ctl k U' acts =>
    rw [hr] at h2
    cases k <;> exact h2.elim
section DABS
variable {p : Program} {l : Launch} {e : Env} {R : Room} {s : State} {m : MethodId} {args : Array Value} {below : List Frame} {meth : Method} {c : Code} {H : Heap} {locs : List Loc} {cells slots : Nat} {Q : State → Prop}
theorem dabs_step {T target : State} (X : Stand p l e R s m args below meth c T locs cells slots) {mk : MethodId} {mM : Method} {cM : Code} {kM : Class} (hn : T.methodNamed? y_JM_abs = some mk) (hk : T.vm.classes[mk.cls]? = some kM) (hkn : kM.name = "java/lang/Math") (hboot : kM.loader = none) (hm : T.vm.method? mk = some mM) (hnm : mM.name = "abs") (hds : mM.desc = "(D)D") (hst : mM.isStatic = true) (hsig : mM.sig = { parameters := [.double], returnType := some .double }) (hc : mM.code = some cM) (hmx : cM.maxLocals = 2) (hlk : mM.locks = false)
    {g : JFrame} (hg : g.method = m) (hsize : g.locals.size = c.maxLocals) {x : UInt64} (hx : vf_n64 x) (hframes : 1 ≤ R.frames) (hlocals : 2 * g.monitorRoom + (g.stack.map fun v => v.category).sum + 13 ≤ R.locals) {ig : Instr} {len : Nat} (hdg : decode c.code g.pc = .ok (ig, len)) (acts : List Action)
    (hgo : Steps p.tables e below (T.setTop { g with pc := g.pc + len, stack := .double (dAbs x) :: g.stack }) target) : Steps p.tables e below (doInvoke e (T.setTop g) acts mk #[.double x]).1 target := by
  subst hg
  obtain ⟨g0, hg0⟩ := Option.isSome_iff_exists.mp X.here.top
  obtain ⟨r, hr⟩ := State.topJava?_eq_some.mp hg0
  have hrb : r = below := by have h := X.tail; rw [hr] at h; exact h
  have hcur : T.cur < T.threads.size := State.cur_lt_of_frames hr
  have hfull := X.notFull (g := g) hsize (vars := 2) hframes hlocals
  have hmt : (T.setTop g).vm.method? mk = some mM := hm
  rw [(doInvoke_java (s := T.setTop g) (e := e) (acts := acts) (args := #[.double x]) (meth := mM) (code := cM) hmt hc hlk (by rw [hmx]; exact hfull)).1, hmx]
  have hmm : kM.methods[mk.idx]? = some mM := by simpa [Vm.method?, hk] using hm
  have e1 : (T.setTop g).pushFrame (.java { method := mk, pc := 0, locals := argsToLocals #[.double x] 2, stack := [], locked := none }) = T.setFrames (.java (entryFrame mk #[.double x] 2) :: .java g :: r) := by
    rw [State.pushFrame, State.frames_setTop _ hr, State.setTop_of_frames _ hr, State.setFrames_setFrames]
    rfl
  rw [e1]
  have ef : (T.setFrames (.java (entryFrame mk #[.double x] 2) :: .java g :: r)).frames = .java (entryFrame mk #[.double x] 2) :: .java g :: r := State.frames_setFrames _ hcur
  have eov : overridden p.tables e (T.setFrames (.java (entryFrame mk #[.double x] 2) :: .java g :: r)) (entryFrame mk #[.double x] 2) = some dabsN := by
    have q0 : (entryFrame mk #[.double x] 2).pc = 0 := rfl
    have q1 : (T.setFrames (.java (entryFrame mk #[.double x] 2) :: .java g :: r)).vm.classes[(entryFrame mk #[.double x] 2).method.cls]? = some kM := hk
    have q2 : kM.methods[(entryFrame mk #[.double x] 2).method.idx]? = some mM := hmm
    have q3 : overriddenIn.contains kM.name = true := by rw [hkn]; decide
    have q4 : NativeRow.find? p.tables.natives kM.name mM.name mM.desc = some dabsN := by rw [hkn, hnm, hds]; exact dabsN_at p
    simp only [overridden, q0, q1, q2, q3, hboot]
    simpa using q4
  obtain ⟨acts2, hrun⟩ := dabsN_does hx e (T.setFrames (.native { method := mk, args := #[.double x] } :: .java g :: r))
  have ecode : ∀ F : List Frame, (T.setFrames F).code? g.method = some c := fun F => by
    have h := X.here.code
    rw [State.code?_eq] at h ⊢
    simpa [State.setFrames] using h
  have ehand : handOver (T.setFrames (.native { method := mk, args := #[.double x] } :: .java g :: r)) (some (.double (dAbs x))) (.java g :: r) = some (.java { g with pc := g.pc + len, stack := .double (dAbs x) :: g.stack } :: r) := by
    simp [handOver, ecode, hdg, Except.toOption]
  have earg : argCount (T.setFrames (.java (entryFrame mk #[.double x] 2) :: .java g :: r)) (entryFrame mk #[.double x] 2).method = 1 := by
    have q : ((T.setFrames (.java (entryFrame mk #[.double x] 2) :: .java g :: r)).vm.classes[mk.cls]?).bind (·.methods[mk.idx]?) = some mM := by
      show (T.vm.classes[mk.cls]?).bind (·.methods[mk.idx]?) = some mM
      rw [hk]
      exact hmm
    show argCount _ mk = 1
    unfold argCount
    rw [q]
    simp [hsig, hst]
  have egiven : ((entryFrame mk #[.double x] 2).locals.toList.filterMap (fun | .val v => some v | _ => none)).toArray.extract 0 1 = #[Value.double x] := by
    simp [entryFrame, argsToLocals, Value.category]
  have estep : (stepThread p.tables e (T.setFrames (.java (entryFrame mk #[.double x] 2) :: .java g :: r))).1 = T.setTop { g with pc := g.pc + len, stack := .double (dAbs x) :: g.stack } := by
    unfold stepThread
    simp only [ef, eov, earg, egiven]
    have e2 : (T.setFrames (.java (entryFrame mk #[.double x] 2) :: .java g :: r)).setFrames (.native { method := mk, args := #[.double x] } :: .java g :: r) = T.setFrames (.native { method := mk, args := #[.double x] } :: .java g :: r) := State.setFrames_setFrames ..
    show (afterNative e _ _ (Sem.run (dabsN.sem #[.double x]) e ((T.setFrames (.java (entryFrame mk #[.double x] 2) :: .java g :: r)).setFrames (.native { method := mk, args := #[.double x] } :: .java g :: r)))).1 = _
    rw [e2, hrun]
    simp only [afterNative]
    rw [doReturn_native (f := { method := mk, args := #[.double x] }) (below := .java g :: r) (State.frames_setFrames _ hcur) rfl ehand, State.setFrames_setFrames, ← State.setTop_of_frames _ hr]
  refine Steps.head ⟨X.here.running, by simpa using X.here.runnable, by simpa using X.here.alone⟩ ⟨[.java (entryFrame mk #[.double x] 2), .java g], by rw [ef, hrb]; rfl, by simp, by simp⟩ ?_
  rw [estep]
  exact hgo
theorem k_dabs {cc : ByteArray} {pc nL index : Nat} {ls : Array Slot} {lv : List (Nat × Value)} {rest : List Value} {own : String} {x : UInt64} (hx : p.tables.exec = Jvm.exec) (hb : c.code = cc) (hml : c.maxLocals = nL) (hts : ∀ w ∈ TB, w.before args s = true) (hown : s.vm.findClass own = some m.cls) (hlk : Cond.methodLink own index y_JM_abs ∈ TB) (hl : lv_has ls nL lv) (hn : vf_n64 x) (hframes : 1 ≤ R.frames) (hlocals : (rest.map fun v => v.category).sum + 13 ≤ R.locals) (hdg : decode cc pc = .ok (.invokestatic index, 3))
    (kk : W p l e R s m args below meth c H locs cells slots Q (F0 m (pc + 3) ls (.double (dAbs x) :: rest))) : W p l e R s m args below meth c H locs cells slots Q (F0 m pc ls (.double x :: rest)) := by
  have hcode := hts _ mi_JM_abs.1.2.2
  have hstat := hts _ mi_JM_abs.2
  have hinit := hts _ mi_JM_abs.1.2.1
  obtain ⟨mk, hnamed⟩ := Cond.code_named hcode
  obtain ⟨mM, cM, hmM, hcM, -, hmx, -, hlocks, -, hsig⟩ := Cond.code_spec hnamed hcode
  have hstatic : mM.isStatic = true := Cond.static_spec hnamed hmM hstat
  obtain ⟨kM, hkM, hkname⟩ := className_of_methodNamed hnamed
  have hinitM : kM.init = .initialized := Cond.initialized_spec (findClass_of_methodNamed hnamed) hkM hinit
  have hd : parseMethodDescriptor y_JM_abs.desc = some { parameters := [.double], returnType := some .double } := by decide +kernel
  have hs2 : mM.sig = { parameters := [.double], returnType := some .double } := by rw [hd] at hsig; exact (Option.some.inj hsig).symm
  intro T hT X
  obtain ⟨vm1, X1, hstep1⟩ := X.invokestatic hx hown (hts _ hlk) hnamed hmM hstatic hkM hinitM ⟨mi_JM_abs.1.1.1, mi_JM_abs.1.1.2.1⟩ (g := F0 m pc ls (.double x :: rest)) rfl (argsL := [.double x]) (rest := rest) (by rw [hs2]; rfl) rfl (by rw [hb]; exact hdg)
  have hn1 : (T.setVm vm1).methodNamed? y_JM_abs = some mk := X1.named hnamed
  obtain ⟨kN, hkN, hkNn⟩ := className_of_methodNamed hn1
  have hcode1 : (Cond.code y_JM_abs b_JM_abs 2 (some .double)).before args (T.setVm vm1) = true := Cond.tabsOnly_warm (args' := args) (T := T.setVm vm1) X1.warmed _ rfl hcode
  obtain ⟨mN, cN, hmN, hcN, -, hmxN, -, hlN, -, hsN⟩ := Cond.code_spec hn1 hcode1
  obtain ⟨hnmN, hdsN⟩ := name_of_methodNamed hn1 hmN
  have hstN : mN.isStatic = true := Cond.static_spec hn1 hmN (Cond.tabsOnly_warm (args' := args) (T := T.setVm vm1) X1.warmed _ rfl hstat)
  have hs3 : mN.sig = { parameters := [.double], returnType := some .double } := by rw [hd] at hsN; exact (Option.some.inj hsN).symm
  obtain ⟨t, a1, b1⟩ := kk (T.setVm vm1) hT X1
  refine ⟨t, hstep1 t (fun acts => ?_), b1⟩
  exact dabs_step X1 (g := F0 m pc ls rest) hn1 hkN hkNn (Vm.bootOf_findClass (findClass_of_methodNamed hn1) hkN) hmN hnmN hdsN hstN hs3 hcN hmxN hlN rfl (by rw [← hml] at hl; exact hl.1) hn hframes (by show 2 * 0 + (rest.map fun v => v.category).sum + 13 ≤ R.locals; omega) (by rw [hb]; exact hdg) acts a1
end DABS
