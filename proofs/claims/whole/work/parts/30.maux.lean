/-! the reference: rows by places, what its state always is: by program (wip/whole/maux.py) -/
theorem lm_g {p : Program} {l : Launch} {e : Env} {R : Room} {s : State} {m : MethodId} {args : Array Value} {below : List Frame} {meth : Method} {c : Code} {H : Heap} {locs : List Loc} {cells slots : Nat} {Q : State → Prop} {cc : ByteArray} {pc : Nat} {ls : Array Slot} {rest : List Value} {E : Cx} {ad : Nat → Nat} {S : St} {X : va_W} (hx : p.tables.exec = Jvm.exec) (hb : c.code = cc) (hK : KK E s) (hP : va_P E.1 vwCl (wm E ad S ++ X) H) {j : Int32} {k : Nat} {v : Int32} (hk : j.toNatClampNeg = k) (hv : S.2.1 0 k = v) (hin : vp_in j 53) (hdg : decode cc pc = .ok (.iaload, 1)) (kk : W p l e R s m args below meth c H locs cells slots Q (F0 m (pc + 1) ls (.int v :: rest))) : W p l e R s m args below meth c H locs cells slots Q (F0 m pc ls (.int j :: .ref (ad 1) :: rest)) := l_M_g hx hb hK hP hin hdg (by rw [hk, hv]; exact kk)
theorem am_g {p : Program} {l : Launch} {e : Env} {R : Room} {s : State} {m : MethodId} {args : Array Value} {below : List Frame} {meth : Method} {c : Code} {H : Heap} {locs : List Loc} {cells slots : Nat} {Q : State → Prop} {cc : ByteArray} {pc : Nat} {ls : Array Slot} {rest : List Value} {E : Cx} {ad : Nat → Nat} {S : St} {X : va_W} {A : Nat → Prop} {H0 : Heap} (hx : p.tables.exec = Jvm.exec) (hb : c.code = cc) (hK : KK E s) (hP : va_P E.1 vwCl (wm E ad S ++ X) H) (hD : ∀ S' : St, va_D A (wm E ad S' ++ X)) (hS : va_S A H0 H locs) {j : Int32} {x : Int32} {k : Nat} (hk : j.toNatClampNeg = k) (hin : vp_in j 53) (hdg : decode cc pc = .ok (.iastore, 1)) (kk : ∀ (H1 : Heap) (locs1 : List Loc), va_P E.1 vwCl (wm E ad (sA S 0 k x) ++ X) H1 → va_S A H0 H1 locs1 → W p l e R s m args below meth c H1 locs1 cells slots Q (F0 m (pc + 1) ls rest)) : W p l e R s m args below meth c H locs cells slots Q (F0 m pc ls (.int x :: .int j :: .ref (ad 1) :: rest)) := by subst hk; exact a_M_g hx hb hK hP hD hS hin hdg kk
theorem lm_kept {p : Program} {l : Launch} {e : Env} {R : Room} {s : State} {m : MethodId} {args : Array Value} {below : List Frame} {meth : Method} {c : Code} {H : Heap} {locs : List Loc} {cells slots : Nat} {Q : State → Prop} {cc : ByteArray} {pc : Nat} {ls : Array Slot} {rest : List Value} {E : Cx} {ad : Nat → Nat} {S : St} {X : va_W} (hx : p.tables.exec = Jvm.exec) (hb : c.code = cc) (hK : KK E s) (hP : va_P E.1 vwCl (wm E ad S ++ X) H) {j : Int32} {k : Nat} {v : Int32} (hk : j.toNatClampNeg = k) (hv : S.2.1 1 k = v) (hin : vp_in j 53) (hdg : decode cc pc = .ok (.iaload, 1)) (kk : W p l e R s m args below meth c H locs cells slots Q (F0 m (pc + 1) ls (.int v :: rest))) : W p l e R s m args below meth c H locs cells slots Q (F0 m pc ls (.int j :: .ref (ad 2) :: rest)) := l_M_kept hx hb hK hP hin hdg (by rw [hk, hv]; exact kk)
theorem am_kept {p : Program} {l : Launch} {e : Env} {R : Room} {s : State} {m : MethodId} {args : Array Value} {below : List Frame} {meth : Method} {c : Code} {H : Heap} {locs : List Loc} {cells slots : Nat} {Q : State → Prop} {cc : ByteArray} {pc : Nat} {ls : Array Slot} {rest : List Value} {E : Cx} {ad : Nat → Nat} {S : St} {X : va_W} {A : Nat → Prop} {H0 : Heap} (hx : p.tables.exec = Jvm.exec) (hb : c.code = cc) (hK : KK E s) (hP : va_P E.1 vwCl (wm E ad S ++ X) H) (hD : ∀ S' : St, va_D A (wm E ad S' ++ X)) (hS : va_S A H0 H locs) {j : Int32} {x : Int32} {k : Nat} (hk : j.toNatClampNeg = k) (hin : vp_in j 53) (hdg : decode cc pc = .ok (.iastore, 1)) (kk : ∀ (H1 : Heap) (locs1 : List Loc), va_P E.1 vwCl (wm E ad (sA S 1 k x) ++ X) H1 → va_S A H0 H1 locs1 → W p l e R s m args below meth c H1 locs1 cells slots Q (F0 m (pc + 1) ls rest)) : W p l e R s m args below meth c H locs cells slots Q (F0 m pc ls (.int x :: .int j :: .ref (ad 2) :: rest)) := by subst hk; exact a_M_kept hx hb hK hP hD hS hin hdg kk
theorem lm_ahead {p : Program} {l : Launch} {e : Env} {R : Room} {s : State} {m : MethodId} {args : Array Value} {below : List Frame} {meth : Method} {c : Code} {H : Heap} {locs : List Loc} {cells slots : Nat} {Q : State → Prop} {cc : ByteArray} {pc : Nat} {ls : Array Slot} {rest : List Value} {E : Cx} {ad : Nat → Nat} {S : St} {X : va_W} (hx : p.tables.exec = Jvm.exec) (hb : c.code = cc) (hK : KK E s) (hP : va_P E.1 vwCl (wm E ad S ++ X) H) {j : Int32} {k : Nat} {v : Int32} (hk : j.toNatClampNeg = k) (hv : S.2.1 2 k = v) (hin : vp_in j 53) (hdg : decode cc pc = .ok (.iaload, 1)) (kk : W p l e R s m args below meth c H locs cells slots Q (F0 m (pc + 1) ls (.int v :: rest))) : W p l e R s m args below meth c H locs cells slots Q (F0 m pc ls (.int j :: .ref (ad 3) :: rest)) := l_M_ahead hx hb hK hP hin hdg (by rw [hk, hv]; exact kk)
theorem am_ahead {p : Program} {l : Launch} {e : Env} {R : Room} {s : State} {m : MethodId} {args : Array Value} {below : List Frame} {meth : Method} {c : Code} {H : Heap} {locs : List Loc} {cells slots : Nat} {Q : State → Prop} {cc : ByteArray} {pc : Nat} {ls : Array Slot} {rest : List Value} {E : Cx} {ad : Nat → Nat} {S : St} {X : va_W} {A : Nat → Prop} {H0 : Heap} (hx : p.tables.exec = Jvm.exec) (hb : c.code = cc) (hK : KK E s) (hP : va_P E.1 vwCl (wm E ad S ++ X) H) (hD : ∀ S' : St, va_D A (wm E ad S' ++ X)) (hS : va_S A H0 H locs) {j : Int32} {x : Int32} {k : Nat} (hk : j.toNatClampNeg = k) (hin : vp_in j 53) (hdg : decode cc pc = .ok (.iastore, 1)) (kk : ∀ (H1 : Heap) (locs1 : List Loc), va_P E.1 vwCl (wm E ad (sA S 2 k x) ++ X) H1 → va_S A H0 H1 locs1 → W p l e R s m args below meth c H1 locs1 cells slots Q (F0 m (pc + 1) ls rest)) : W p l e R s m args below meth c H locs cells slots Q (F0 m pc ls (.int x :: .int j :: .ref (ad 3) :: rest)) := by subst hk; exact a_M_ahead hx hb hK hP hD hS hin hdg kk
theorem lm_squares {p : Program} {l : Launch} {e : Env} {R : Room} {s : State} {m : MethodId} {args : Array Value} {below : List Frame} {meth : Method} {c : Code} {H : Heap} {locs : List Loc} {cells slots : Nat} {Q : State → Prop} {cc : ByteArray} {pc : Nat} {ls : Array Slot} {rest : List Value} {E : Cx} {ad : Nat → Nat} {S : St} {X : va_W} (hx : p.tables.exec = Jvm.exec) (hb : c.code = cc) (hK : KK E s) (hP : va_P E.1 vwCl (wm E ad S ++ X) H) {j : Int32} {k : Nat} {v : Int32} (hk : j.toNatClampNeg = k) (hv : sqF k = v) (hin : vp_in j 3) (hdg : decode cc pc = .ok (.iaload, 1)) (kk : W p l e R s m args below meth c H locs cells slots Q (F0 m (pc + 1) ls (.int v :: rest))) : W p l e R s m args below meth c H locs cells slots Q (F0 m pc ls (.int j :: .ref (ad 4) :: rest)) := l_M_squares hx hb hK hP hin hdg (by rw [hk, hv]; exact kk)
theorem lm_sines {p : Program} {l : Launch} {e : Env} {R : Room} {s : State} {m : MethodId} {args : Array Value} {below : List Frame} {meth : Method} {c : Code} {H : Heap} {locs : List Loc} {cells slots : Nat} {Q : State → Prop} {cc : ByteArray} {pc : Nat} {ls : Array Slot} {rest : List Value} {E : Cx} {ad : Nat → Nat} {S : St} {X : va_W} (hx : p.tables.exec = Jvm.exec) (hb : c.code = cc) (hK : KK E s) (hP : va_P E.1 vwCl (wm E ad S ++ X) H) {j : Int32} {k : Nat} {v : Int32} (hk : j.toNatClampNeg = k) (hv : snF k = v) (hin : vp_in j 9) (hdg : decode cc pc = .ok (.iaload, 1)) (kk : W p l e R s m args below meth c H locs cells slots Q (F0 m (pc + 1) ls (.int v :: rest))) : W p l e R s m args below meth c H locs cells slots Q (F0 m pc ls (.int j :: .ref (ad 5) :: rest)) := l_M_sines hx hb hK hP hin hdg (by rw [hk, hv]; exact kk)
theorem lm_tape {p : Program} {l : Launch} {e : Env} {R : Room} {s : State} {m : MethodId} {args : Array Value} {below : List Frame} {meth : Method} {c : Code} {H : Heap} {locs : List Loc} {cells slots : Nat} {Q : State → Prop} {cc : ByteArray} {pc : Nat} {ls : Array Slot} {rest : List Value} {E : Cx} {ad : Nat → Nat} {S : St} {X : va_W} (hx : p.tables.exec = Jvm.exec) (hb : c.code = cc) (hK : KK E s) (hP : va_P E.1 vwCl (wm E ad S ++ X) H) {j : Int32} {k : Nat} {v : Int32} (hk : j.toNatClampNeg = k) (hv : S.2.1 3 k = v) (hin : vp_in j 80) (hdg : decode cc pc = .ok (.iaload, 1)) (kk : W p l e R s m args below meth c H locs cells slots Q (F0 m (pc + 1) ls (.int v :: rest))) : W p l e R s m args below meth c H locs cells slots Q (F0 m pc ls (.int j :: .ref (ad 6) :: rest)) := l_M_tape hx hb hK hP hin hdg (by rw [hk, hv]; exact kk)
theorem am_tape {p : Program} {l : Launch} {e : Env} {R : Room} {s : State} {m : MethodId} {args : Array Value} {below : List Frame} {meth : Method} {c : Code} {H : Heap} {locs : List Loc} {cells slots : Nat} {Q : State → Prop} {cc : ByteArray} {pc : Nat} {ls : Array Slot} {rest : List Value} {E : Cx} {ad : Nat → Nat} {S : St} {X : va_W} {A : Nat → Prop} {H0 : Heap} (hx : p.tables.exec = Jvm.exec) (hb : c.code = cc) (hK : KK E s) (hP : va_P E.1 vwCl (wm E ad S ++ X) H) (hD : ∀ S' : St, va_D A (wm E ad S' ++ X)) (hS : va_S A H0 H locs) {j : Int32} {x : Int32} {k : Nat} (hk : j.toNatClampNeg = k) (hin : vp_in j 80) (hdg : decode cc pc = .ok (.iastore, 1)) (kk : ∀ (H1 : Heap) (locs1 : List Loc), va_P E.1 vwCl (wm E ad (sA S 3 k x) ++ X) H1 → va_S A H0 H1 locs1 → W p l e R s m args below meth c H1 locs1 cells slots Q (F0 m (pc + 1) ls rest)) : W p l e R s m args below meth c H locs cells slots Q (F0 m pc ls (.int x :: .int j :: .ref (ad 6) :: rest)) := by subst hk; exact a_M_tape hx hb hK hP hD hS hin hdg kk
theorem lm_letters {p : Program} {l : Launch} {e : Env} {R : Room} {s : State} {m : MethodId} {args : Array Value} {below : List Frame} {meth : Method} {c : Code} {H : Heap} {locs : List Loc} {cells slots : Nat} {Q : State → Prop} {cc : ByteArray} {pc : Nat} {ls : Array Slot} {rest : List Value} {E : Cx} {ad : Nat → Nat} {S : St} {X : va_W} (hx : p.tables.exec = Jvm.exec) (hb : c.code = cc) (hK : KK E s) (hP : va_P E.1 vwCl (wm E ad S ++ X) H) {j : Int32} {k : Nat} {v : Int32} (hk : j.toNatClampNeg = k) (hv : S.2.1 4 k = v) (hin : vp_in j 41) (hdg : decode cc pc = .ok (.iaload, 1)) (kk : W p l e R s m args below meth c H locs cells slots Q (F0 m (pc + 1) ls (.int v :: rest))) : W p l e R s m args below meth c H locs cells slots Q (F0 m pc ls (.int j :: .ref (ad 7) :: rest)) := l_M_letters hx hb hK hP hin hdg (by rw [hk, hv]; exact kk)
theorem am_letters {p : Program} {l : Launch} {e : Env} {R : Room} {s : State} {m : MethodId} {args : Array Value} {below : List Frame} {meth : Method} {c : Code} {H : Heap} {locs : List Loc} {cells slots : Nat} {Q : State → Prop} {cc : ByteArray} {pc : Nat} {ls : Array Slot} {rest : List Value} {E : Cx} {ad : Nat → Nat} {S : St} {X : va_W} {A : Nat → Prop} {H0 : Heap} (hx : p.tables.exec = Jvm.exec) (hb : c.code = cc) (hK : KK E s) (hP : va_P E.1 vwCl (wm E ad S ++ X) H) (hD : ∀ S' : St, va_D A (wm E ad S' ++ X)) (hS : va_S A H0 H locs) {j : Int32} {x : Int32} {k : Nat} (hk : j.toNatClampNeg = k) (hin : vp_in j 41) (hdg : decode cc pc = .ok (.iastore, 1)) (kk : ∀ (H1 : Heap) (locs1 : List Loc), va_P E.1 vwCl (wm E ad (sA S 4 k x) ++ X) H1 → va_S A H0 H1 locs1 → W p l e R s m args below meth c H1 locs1 cells slots Q (F0 m (pc + 1) ls rest)) : W p l e R s m args below meth c H locs cells slots Q (F0 m pc ls (.int x :: .int j :: .ref (ad 7) :: rest)) := by subst hk; exact a_M_letters hx hb hK hP hD hS hin hdg kk
theorem lm_firsts {p : Program} {l : Launch} {e : Env} {R : Room} {s : State} {m : MethodId} {args : Array Value} {below : List Frame} {meth : Method} {c : Code} {H : Heap} {locs : List Loc} {cells slots : Nat} {Q : State → Prop} {cc : ByteArray} {pc : Nat} {ls : Array Slot} {rest : List Value} {E : Cx} {ad : Nat → Nat} {S : St} {X : va_W} (hx : p.tables.exec = Jvm.exec) (hb : c.code = cc) (hK : KK E s) (hP : va_P E.1 vwCl (wm E ad S ++ X) H) {j : Int32} {k : Nat} {v : Int32} (hk : j.toNatClampNeg = k) (hv : S.2.1 5 k = v) (hin : vp_in j 41) (hdg : decode cc pc = .ok (.iaload, 1)) (kk : W p l e R s m args below meth c H locs cells slots Q (F0 m (pc + 1) ls (.int v :: rest))) : W p l e R s m args below meth c H locs cells slots Q (F0 m pc ls (.int j :: .ref (ad 8) :: rest)) := l_M_firsts hx hb hK hP hin hdg (by rw [hk, hv]; exact kk)
theorem am_firsts {p : Program} {l : Launch} {e : Env} {R : Room} {s : State} {m : MethodId} {args : Array Value} {below : List Frame} {meth : Method} {c : Code} {H : Heap} {locs : List Loc} {cells slots : Nat} {Q : State → Prop} {cc : ByteArray} {pc : Nat} {ls : Array Slot} {rest : List Value} {E : Cx} {ad : Nat → Nat} {S : St} {X : va_W} {A : Nat → Prop} {H0 : Heap} (hx : p.tables.exec = Jvm.exec) (hb : c.code = cc) (hK : KK E s) (hP : va_P E.1 vwCl (wm E ad S ++ X) H) (hD : ∀ S' : St, va_D A (wm E ad S' ++ X)) (hS : va_S A H0 H locs) {j : Int32} {x : Int32} {k : Nat} (hk : j.toNatClampNeg = k) (hin : vp_in j 41) (hdg : decode cc pc = .ok (.iastore, 1)) (kk : ∀ (H1 : Heap) (locs1 : List Loc), va_P E.1 vwCl (wm E ad (sA S 5 k x) ++ X) H1 → va_S A H0 H1 locs1 → W p l e R s m args below meth c H1 locs1 cells slots Q (F0 m (pc + 1) ls rest)) : W p l e R s m args below meth c H locs cells slots Q (F0 m pc ls (.int x :: .int j :: .ref (ad 8) :: rest)) := by subst hk; exact a_M_firsts hx hb hK hP hD hS hin hdg kk
theorem lm_seconds {p : Program} {l : Launch} {e : Env} {R : Room} {s : State} {m : MethodId} {args : Array Value} {below : List Frame} {meth : Method} {c : Code} {H : Heap} {locs : List Loc} {cells slots : Nat} {Q : State → Prop} {cc : ByteArray} {pc : Nat} {ls : Array Slot} {rest : List Value} {E : Cx} {ad : Nat → Nat} {S : St} {X : va_W} (hx : p.tables.exec = Jvm.exec) (hb : c.code = cc) (hK : KK E s) (hP : va_P E.1 vwCl (wm E ad S ++ X) H) {j : Int32} {k : Nat} {v : Int32} (hk : j.toNatClampNeg = k) (hv : S.2.1 6 k = v) (hin : vp_in j 41) (hdg : decode cc pc = .ok (.iaload, 1)) (kk : W p l e R s m args below meth c H locs cells slots Q (F0 m (pc + 1) ls (.int v :: rest))) : W p l e R s m args below meth c H locs cells slots Q (F0 m pc ls (.int j :: .ref (ad 9) :: rest)) := l_M_seconds hx hb hK hP hin hdg (by rw [hk, hv]; exact kk)
theorem am_seconds {p : Program} {l : Launch} {e : Env} {R : Room} {s : State} {m : MethodId} {args : Array Value} {below : List Frame} {meth : Method} {c : Code} {H : Heap} {locs : List Loc} {cells slots : Nat} {Q : State → Prop} {cc : ByteArray} {pc : Nat} {ls : Array Slot} {rest : List Value} {E : Cx} {ad : Nat → Nat} {S : St} {X : va_W} {A : Nat → Prop} {H0 : Heap} (hx : p.tables.exec = Jvm.exec) (hb : c.code = cc) (hK : KK E s) (hP : va_P E.1 vwCl (wm E ad S ++ X) H) (hD : ∀ S' : St, va_D A (wm E ad S' ++ X)) (hS : va_S A H0 H locs) {j : Int32} {x : Int32} {k : Nat} (hk : j.toNatClampNeg = k) (hin : vp_in j 41) (hdg : decode cc pc = .ok (.iastore, 1)) (kk : ∀ (H1 : Heap) (locs1 : List Loc), va_P E.1 vwCl (wm E ad (sA S 6 k x) ++ X) H1 → va_S A H0 H1 locs1 → W p l e R s m args below meth c H1 locs1 cells slots Q (F0 m (pc + 1) ls rest)) : W p l e R s m args below meth c H locs cells slots Q (F0 m pc ls (.int x :: .int j :: .ref (ad 9) :: rest)) := by subst hk; exact a_M_seconds hx hb hK hP hD hS hin hdg kk
theorem lm_sizes {p : Program} {l : Launch} {e : Env} {R : Room} {s : State} {m : MethodId} {args : Array Value} {below : List Frame} {meth : Method} {c : Code} {H : Heap} {locs : List Loc} {cells slots : Nat} {Q : State → Prop} {cc : ByteArray} {pc : Nat} {ls : Array Slot} {rest : List Value} {E : Cx} {ad : Nat → Nat} {S : St} {X : va_W} (hx : p.tables.exec = Jvm.exec) (hb : c.code = cc) (hK : KK E s) (hP : va_P E.1 vwCl (wm E ad S ++ X) H) {j : Int32} {k : Nat} {v : Int32} (hk : j.toNatClampNeg = k) (hv : S.2.1 7 k = v) (hin : vp_in j 3) (hdg : decode cc pc = .ok (.iaload, 1)) (kk : W p l e R s m args below meth c H locs cells slots Q (F0 m (pc + 1) ls (.int v :: rest))) : W p l e R s m args below meth c H locs cells slots Q (F0 m pc ls (.int j :: .ref (ad 10) :: rest)) := l_M_sizes hx hb hK hP hin hdg (by rw [hk, hv]; exact kk)
theorem am_sizes {p : Program} {l : Launch} {e : Env} {R : Room} {s : State} {m : MethodId} {args : Array Value} {below : List Frame} {meth : Method} {c : Code} {H : Heap} {locs : List Loc} {cells slots : Nat} {Q : State → Prop} {cc : ByteArray} {pc : Nat} {ls : Array Slot} {rest : List Value} {E : Cx} {ad : Nat → Nat} {S : St} {X : va_W} {A : Nat → Prop} {H0 : Heap} (hx : p.tables.exec = Jvm.exec) (hb : c.code = cc) (hK : KK E s) (hP : va_P E.1 vwCl (wm E ad S ++ X) H) (hD : ∀ S' : St, va_D A (wm E ad S' ++ X)) (hS : va_S A H0 H locs) {j : Int32} {x : Int32} {k : Nat} (hk : j.toNatClampNeg = k) (hin : vp_in j 3) (hdg : decode cc pc = .ok (.iastore, 1)) (kk : ∀ (H1 : Heap) (locs1 : List Loc), va_P E.1 vwCl (wm E ad (sA S 7 k x) ++ X) H1 → va_S A H0 H1 locs1 → W p l e R s m args below meth c H1 locs1 cells slots Q (F0 m (pc + 1) ls rest)) : W p l e R s m args below meth c H locs cells slots Q (F0 m pc ls (.int x :: .int j :: .ref (ad 10) :: rest)) := by subst hk; exact a_M_sizes hx hb hK hP hD hS hin hdg kk
theorem lm_items {p : Program} {l : Launch} {e : Env} {R : Room} {s : State} {m : MethodId} {args : Array Value} {below : List Frame} {meth : Method} {c : Code} {H : Heap} {locs : List Loc} {cells slots : Nat} {Q : State → Prop} {cc : ByteArray} {pc : Nat} {ls : Array Slot} {rest : List Value} {E : Cx} {ad : Nat → Nat} {S : St} {X : va_W} (hx : p.tables.exec = Jvm.exec) (hb : c.code = cc) (hK : KK E s) (hP : va_P E.1 vwCl (wm E ad S ++ X) H) {j : Int32} {k : Nat} {v : Int64} (hk : j.toNatClampNeg = k) (hv : S.2.2 0 k = v) (hin : vp_in j 60) (hdg : decode cc pc = .ok (.laload, 1)) (kk : W p l e R s m args below meth c H locs cells slots Q (F0 m (pc + 1) ls (.long v :: rest))) : W p l e R s m args below meth c H locs cells slots Q (F0 m pc ls (.int j :: .ref (ad 11) :: rest)) := l_M_items hx hb hK hP hin hdg (by rw [hk, hv]; exact kk)
theorem am_items {p : Program} {l : Launch} {e : Env} {R : Room} {s : State} {m : MethodId} {args : Array Value} {below : List Frame} {meth : Method} {c : Code} {H : Heap} {locs : List Loc} {cells slots : Nat} {Q : State → Prop} {cc : ByteArray} {pc : Nat} {ls : Array Slot} {rest : List Value} {E : Cx} {ad : Nat → Nat} {S : St} {X : va_W} {A : Nat → Prop} {H0 : Heap} (hx : p.tables.exec = Jvm.exec) (hb : c.code = cc) (hK : KK E s) (hP : va_P E.1 vwCl (wm E ad S ++ X) H) (hD : ∀ S' : St, va_D A (wm E ad S' ++ X)) (hS : va_S A H0 H locs) {j : Int32} {x : Int64} {k : Nat} (hk : j.toNatClampNeg = k) (hin : vp_in j 60) (hdg : decode cc pc = .ok (.lastore, 1)) (kk : ∀ (H1 : Heap) (locs1 : List Loc), va_P E.1 vwCl (wm E ad (sL S 0 k x) ++ X) H1 → va_S A H0 H1 locs1 → W p l e R s m args below meth c H1 locs1 cells slots Q (F0 m (pc + 1) ls rest)) : W p l e R s m args below meth c H locs cells slots Q (F0 m pc ls (.long x :: .int j :: .ref (ad 11) :: rest)) := by subst hk; exact a_M_items hx hb hK hP hD hS hin hdg kk
theorem sV_f {S : St} {k r j : Nat} {x : Int32} : (sV S k x).2.1 r j = S.2.1 r j := rfl
theorem sV_l {S : St} {k r j : Nat} {x : Int32} : (sV S k x).2.2 r j = S.2.2 r j := rfl
theorem sA_l {S : St} {i k r j : Nat} {x : Int32} : (sA S i k x).2.2 r j = S.2.2 r j := rfl
theorem sL_f {S : St} {i k r j : Nat} {x : Int64} : (sL S i k x).2.1 r j = S.2.1 r j := rfl
theorem sA_f {S : St} {i k r j : Nat} {x : Int32} (h : r ≠ i) : (sA S i k x).2.1 r j = S.2.1 r j := by simp [sA, sF, va_up, h]

theorem k_topi {p : Program} {l : Launch} {e : Env} {R : Room} {s : State} {m : MethodId} {args : Array Value} {below : List Frame} {meth : Method} {c : Code} {H : Heap} {locs : List Loc} {cells slots : Nat} {Q : State → Prop} {pc : Nat} {ls : Array Slot} {rest : List Value} {x y : Int32} (h : x = y) (k : W p l e R s m args below meth c H locs cells slots Q (F0 m pc ls (.int y :: rest))) : W p l e R s m args below meth c H locs cells slots Q (F0 m pc ls (.int x :: rest)) := by rw [h]; exact k
theorem k_topl {p : Program} {l : Launch} {e : Env} {R : Room} {s : State} {m : MethodId} {args : Array Value} {below : List Frame} {meth : Method} {c : Code} {H : Heap} {locs : List Loc} {cells slots : Nat} {Q : State → Prop} {pc : Nat} {ls : Array Slot} {rest : List Value} {x y : Int64} (h : x = y) (k : W p l e R s m args below meth c H locs cells slots Q (F0 m pc ls (.long y :: rest))) : W p l e R s m args below meth c H locs cells slots Q (F0 m pc ls (.long x :: rest)) := by rw [h]; exact k
theorem vin_k {x : Int32} {n : Nat} (h : 0 ≤ x.toInt ∧ x.toInt < n) : vp_in x n := vp_in_iff.mpr h
def w16 (w : Int32) : Prop := 0 ≤ w.toInt ∧ w.toInt < 16
def w9 (w : Int32) : Prop := 0 ≤ w.toInt ∧ w.toInt < 9
def w41 (w : Int32) : Prop := 0 ≤ w.toInt ∧ w.toInt < 41
def TV (t : Int32) : Prop := (-99 ≤ t.toInt ∧ t.toInt ≤ -20) ∨ (5 ≤ t.toInt ∧ t.toInt ≤ 99)
def wl (g : Nat → Int32) (w : Int32) : Prop := 0 ≤ w.toInt ∧ w.toInt < (g 0).toInt
/-- what the reference's row g always is -/
def GI (g : Nat → Int32) : Prop := (0 ≤ (g 0).toInt ∧ (g 0).toInt ≤ 16) ∧ (0 ≤ (g 33).toInt ∧ (g 33).toInt ≤ 2) ∧ (0 ≤ (g 34).toInt ∧ (g 34).toInt ≤ 9) ∧ (∀ k : Nat, (k : Int) < (g 0).toInt → TV (g (1 + k))) ∧ (∀ k : Nat, (k : Int) < (g 34).toInt → wl g (g (35 + k)) ∧ wl g (g (44 + k)))
theorem i32_tn {x : Int32} (h : 0 ≤ x.toInt) : (x.toNatClampNeg : Int) = x.toInt := by unfold Int32.toNatClampNeg; omega
theorem ad_tn {c w : Int32} {C : Nat} (hC : c.toInt = (C : Int)) (hw : 0 ≤ w.toInt) (h : (C : Int) + w.toInt < 2147483648) : (c + w).toNatClampNeg = C + w.toNatClampNeg := by
  have e : (c + w).toInt = c.toInt + w.toInt := i32_add (by omega) (by omega)
  have h1 := i32_tn (x := c + w) (by omega)
  have h2 := i32_tn (x := w) hw
  omega
theorem ix_add {c w : Int32} {n : Nat} (hw : w16 w) (h : 0 ≤ c.toInt ∧ c.toInt + 15 < n ∧ n ≤ 1000) : vp_in (c + w) n := by
  obtain ⟨h1, h2⟩ := hw
  refine vin_k ?_
  rw [i32_add (by omega) (by omega)]
  omega
theorem ix_add9 {c w : Int32} {n : Nat} (hw : w9 w) (h : 0 ≤ c.toInt ∧ c.toInt + 8 < n ∧ n ≤ 1000) : vp_in (c + w) n := by
  obtain ⟨h1, h2⟩ := hw
  refine vin_k ?_
  rw [i32_add (by omega) (by omega)]
  omega
theorem gi_w {g : Nat → Int32} (h : GI g) (c : ¬ g 0 = 16) : w16 (g 0) := by
  obtain ⟨h1, -⟩ := h
  have : (g 0).toInt ≠ 16 := fun q => c (Int32.toInt_inj.mp (by rw [q]; decide))
  exact ⟨h1.1, by omega⟩
theorem gi_p {g : Nat → Int32} (h : GI g) : 0 ≤ (g 33).toInt ∧ (g 33).toInt < (3 : Nat) := ⟨h.2.1.1, by have := h.2.1.2; omega⟩
theorem gi_m {g : Nat → Int32} (h : GI g) (c : ¬ g 34 = 9) : w9 (g 34) := by
  obtain ⟨-, -, h1, -⟩ := h
  have : (g 34).toInt ≠ 9 := fun q => c (Int32.toInt_inj.mp (by rw [q]; decide))
  exact ⟨h1.1, by omega⟩
theorem wl_w16 {g : Nat → Int32} {w : Int32} (h : GI g) (hw : wl g w) : w16 w := ⟨hw.1, by have := h.1.2; have := hw.2; omega⟩
theorem wl_of {g : Nat → Int32} {w : Int32} (h0 : 0 ≤ w.toInt) (c : ¬ g 0 ≤ w) : wl g w := by
  rw [Int32.le_iff_toInt_le] at c
  exact ⟨h0, by omega⟩
theorem w9_of {g : Nat → Int32} {k : Int32} (h0 : 0 ≤ k.toInt) (c : ¬ g 34 ≤ k) (h : GI g) : w9 k := by
  rw [Int32.le_iff_toInt_le] at c
  have := h.2.2.1.2
  exact ⟨h0, by omega⟩
theorem w16_lt {x y : Int32} (h0 : 0 ≤ y.toInt) (c : ¬ x ≤ y) (hx : w16 x) : w16 y := by
  rw [Int32.le_iff_toInt_le] at c
  have := hx.2
  exact ⟨h0, by omega⟩
theorem pr_1 {g : Nat → Int32} {k : Int32} (h : GI g) (h0 : 0 ≤ k.toInt) (c : ¬ g 34 ≤ k) : wl g (g ((35 : Int32) + k).toNatClampNeg) ∧ wl g (g ((44 : Int32) + k).toNatClampNeg) := by
  have h9 := w9_of h0 c h
  rw [Int32.le_iff_toInt_le] at c
  obtain ⟨-, -, -, -, h5⟩ := h
  have e1 : ((35 : Int32) + k).toNatClampNeg = 35 + k.toNatClampNeg := ad_tn (C := 35) (by decide) h0 (by have := h9.2; omega)
  have e2 : ((44 : Int32) + k).toNatClampNeg = 44 + k.toNatClampNeg := ad_tn (C := 44) (by decide) h0 (by have := h9.2; omega)
  rw [e1, e2]
  exact h5 k.toNatClampNeg (by rw [i32_tn h0]; omega)
theorem lcmp_lt {x y : Int64} : lg_cmp x y < 0 ↔ x < y := by
  unfold lg_cmp
  by_cases h1 : y < x
  · rw [if_pos h1]
    exact ⟨fun h => absurd h (by decide), fun h => absurd (Int64.lt_trans h h1) (Int64.lt_irrefl)⟩
  · by_cases h2 : x = y
    · rw [if_neg h1, if_pos h2, h2]
      exact ⟨fun h => absurd h (by decide), fun h => absurd h Int64.lt_irrefl⟩
    · rw [if_neg h1, if_neg h2]
      refine ⟨fun _ => ?_, fun _ => by decide⟩
      rw [Int64.lt_iff_toInt_lt] at h1 ⊢
      have : x.toInt ≠ y.toInt := fun e => h2 (Int64.toInt_inj.mp e)
      omega
theorem lcmp_gt {x y : Int64} : 0 < lg_cmp x y ↔ y < x := by
  unfold lg_cmp
  by_cases h1 : y < x
  · rw [if_pos h1]
    exact ⟨fun _ => h1, fun _ => by decide⟩
  · by_cases h2 : x = y
    · rw [if_neg h1, if_pos h2]
      exact ⟨fun h => absurd h (by decide), fun h => absurd h h1⟩
    · rw [if_neg h1, if_neg h2]
      exact ⟨fun h => absurd h (by decide), fun h => absurd h h1⟩
theorem lcmp_eq {x y : Int64} : lg_cmp x y = 0 ↔ x = y := by
  unfold lg_cmp
  by_cases h1 : y < x
  · rw [if_pos h1]
    exact ⟨fun h => absurd h (by decide), fun h => absurd (h ▸ h1) Int64.lt_irrefl⟩
  · by_cases h2 : x = y
    · rw [if_neg h1, if_pos h2]
      exact ⟨fun _ => h2, fun _ => rfl⟩
    · rw [if_neg h1, if_neg h2]
      exact ⟨fun h => absurd h (by decide), fun h => absurd h h2⟩
theorem lcmp_ge {x y : Int64} : 0 ≤ lg_cmp x y ↔ y ≤ x := by
  rw [← Int32.not_lt, ← Int64.not_lt, lcmp_lt]
theorem lcmp_le {x y : Int64} : lg_cmp x y ≤ 0 ↔ x ≤ y := by
  rw [← Int32.not_lt, ← Int64.not_lt, lcmp_gt]
theorem i64_of (x : Int32) : x.toInt64.toInt = x.toInt := by simp
theorem i2l_lo (x : Int32) : -9223372036854775807 ≤ x.toInt64.toInt := by rw [i64_of]; have := i32_lo x; omega
def LI (n : Nat) (x y : Int64) : Prop := 0 < n ∧ y.toInt < (n : Int) ∧ 0 ≤ y.toInt ∧ 0 ≤ x.toInt ∧ (0 < x.toInt ∨ 0 < y.toInt)
theorem LI_z {x y : Int64} : ¬ LI 0 x y := fun h => Nat.lt_irrefl 0 h.1
theorem i64_lo (x : Int64) : -9223372036854775808 ≤ x.toInt := by have h := Int64.le_toInt x; simpa using h
theorem i64_hi (x : Int64) : x.toInt < 9223372036854775808 := by have h := Int64.toInt_lt x; simpa using h
theorem i64_add {x y : Int64} (h1 : -9223372036854775808 ≤ x.toInt + y.toInt) (h2 : x.toInt + y.toInt < 9223372036854775808) : (x + y).toInt = x.toInt + y.toInt := by
  rw [Int64.toInt_add]
  exact Int.bmod_eq_of_le (by omega) (by omega)
theorem i64_sub {x y : Int64} (h1 : -9223372036854775808 ≤ x.toInt - y.toInt) (h2 : x.toInt - y.toInt < 9223372036854775808) : (x - y).toInt = x.toInt - y.toInt := by
  rw [Int64.toInt_sub]
  exact Int.bmod_eq_of_le (by omega) (by omega)
theorem i64_mul {x y : Int64} (h1 : -9223372036854775808 ≤ x.toInt * y.toInt) (h2 : x.toInt * y.toInt < 9223372036854775808) : (x * y).toInt = x.toInt * y.toInt := by
  rw [Int64.toInt_mul]
  exact Int.bmod_eq_of_le (by omega) (by omega)
theorem i64_neg {x : Int64} (h : -9223372036854775808 < x.toInt) : (-x).toInt = -x.toInt := by
  have := i64_hi x
  rw [Int64.toInt_neg]
  exact Int.bmod_eq_of_le (by omega) (by omega)
theorem i64_div {x y : Int64} (hy : 0 < y.toInt) : (x / y).toInt = x.toInt.tdiv y.toInt := Int64.toInt_div_of_ne_right x y (fun e => by rw [e] at hy; exact absurd hy (by decide))
theorem i64_rem {x y : Int64} (hy : 0 < y.toInt) : (x - x / y * y).toInt = x.toInt.tmod y.toInt := by
  obtain ⟨e, h1, h2, h3, h4⟩ := tq_b (x := x.toInt) hy
  have hl := i64_lo x
  have hh := i64_hi x
  have hb : (x / y * y).toInt = y.toInt * x.toInt.tdiv y.toInt := by
    rw [Int64.toInt_mul, i64_div hy, Int.mul_comm]
    refine Int.bmod_eq_of_le ?_ ?_ <;> rcases Int.le_total 0 x.toInt with h | h <;> (have q1 := h1; have q2 := h2; first | (have q := h1 h; omega) | (have q := h2 h; omega))
  rw [Int64.toInt_sub, hb]
  have : x.toInt - y.toInt * x.toInt.tdiv y.toInt = x.toInt.tmod y.toInt := by omega
  rw [this]
  have hyh := i64_hi y
  exact Int.bmod_eq_of_le (by omega) (by omega)
theorem z64 : (0 : Int64).toInt = 0 := by decide
theorem LI_pos {a b : Int64} (c : 0 ≤ lg_cmp a 0) (hb : 0 < b.toInt) : LI (b.toInt.toNat + 1) a b := by
  rw [lcmp_ge, Int64.le_iff_toInt_le, z64] at c
  exact ⟨by omega, by omega, by omega, c, Or.inr hb⟩
theorem LI_neg {a b : Int64} (ha : -9223372036854775807 ≤ a.toInt) (c : ¬ 0 ≤ lg_cmp a 0) (hb : 0 < b.toInt) : LI (b.toInt.toNat + 1) (-a) b := by
  rw [lcmp_ge, Int64.le_iff_toInt_le, z64] at c
  have e := i64_neg (x := a) (by omega)
  exact ⟨by omega, by omega, by omega, by omega, Or.inr hb⟩
theorem LI_st {n : Nat} {x y : Int64} (h : LI (n + 1) x y) (c : ¬ lg_cmp y 0 = 0) : LI n y (x - x / y * y) := by
  obtain ⟨h1, h2, h3, h4, h5⟩ := h
  have hy : y.toInt ≠ 0 := fun e => c (lcmp_eq.mpr (Int64.toInt_inj.mp (by rw [e, z64])))
  have e := i64_rem (x := x) (y := y) (by omega)
  obtain ⟨-, q1, -, q3, -⟩ := tq_b (x := x.toInt) (y := y.toInt) (by omega)
  have q := q1 h4
  exact ⟨by omega, by omega, by omega, by omega, Or.inl (by omega)⟩
theorem LI_ne {n : Nat} {x y : Int64} (h : LI n x y) (c : lg_cmp y 0 = 0) : ¬ x = 0 := by
  obtain ⟨h1, h2, h3, h4, h5⟩ := h
  have hy := lcmp_eq.mp c
  intro e
  rw [hy, e, z64] at h5
  omega
def RT (n : Nat) (x y : Int64) : Prop := 0 < n ∧ 0 ≤ x.toInt ∧ x.toInt < y.toInt ∧ y.toInt ≤ 3000000 ∧ y.toInt - x.toInt ≤ 2 ^ (n - 1)
theorem RT_z {x y : Int64} : ¬ RT 0 x y := fun h => Nat.lt_irrefl 0 h.1
theorem RT_m {n : Nat} {x y : Int64} (h : RT n x y) : ((x + y) / 2).toInt = (x.toInt + y.toInt) / 2 := by
  obtain ⟨-, h1, h2, h3, -⟩ := h
  have e2 : (2 : Int64).toInt = 2 := by decide
  rw [i64_div (by rw [e2]; decide), e2, i64_add (by omega) (by omega)]
  exact Int.tdiv_eq_ediv_of_nonneg (by omega)
theorem RT_c {x y : Int64} {n : Nat} (h : RT n x y) (c : ¬ lg_cmp (y - x) 1 ≤ 0) : 1 < y.toInt - x.toInt := by
  obtain ⟨-, h1, h2, h3, -⟩ := h
  rw [lcmp_le, Int64.le_iff_toInt_le, i64_sub (by omega) (by omega)] at c
  have e1 : (1 : Int64).toInt = 1 := by decide
  omega
theorem RT_lo {n : Nat} {x y : Int64} (h : RT (n + 1) x y) (c : ¬ lg_cmp (y - x) 1 ≤ 0) : RT n ((x + y) / 2) y := by
  have hc := RT_c h c
  have e := RT_m h
  obtain ⟨h0, h1, h2, h3, h4⟩ := h
  match n, h4 with
  | 0, h4 => simp at h4; omega
  | n + 1, h4 =>
    have p : (2 : Int) ^ (n + 1 + 1 - 1) = 2 * 2 ^ n := by rw [show n + 1 + 1 - 1 = n + 1 by omega, Int.pow_succ]; omega
    rw [p] at h4
    have p2 : (2 : Int) ^ (n + 1 - 1) = 2 ^ n := by rw [show n + 1 - 1 = n by omega]
    exact ⟨by omega, by omega, by omega, by omega, by rw [p2]; omega⟩
theorem RT_hi {n : Nat} {x y : Int64} (h : RT (n + 1) x y) (c : ¬ lg_cmp (y - x) 1 ≤ 0) : RT n x ((x + y) / 2) := by
  have hc := RT_c h c
  have e := RT_m h
  obtain ⟨h0, h1, h2, h3, h4⟩ := h
  match n, h4 with
  | 0, h4 => simp at h4; omega
  | n + 1, h4 =>
    have p : (2 : Int) ^ (n + 1 + 1 - 1) = 2 * 2 ^ n := by rw [show n + 1 + 1 - 1 = n + 1 by omega, Int.pow_succ]; omega
    rw [p] at h4
    have p2 : (2 : Int) ^ (n + 1 - 1) = 2 ^ n := by rw [show n + 1 - 1 = n by omega]
    exact ⟨by omega, by omega, by omega, by omega, by rw [p2]; omega⟩
def DM (n : Nat) (x : Int32) : Prop := 0 < n ∧ x.toInt + 51 < (n : Int)
theorem DM_z {x : Int32} : ¬ DM 0 x := fun h => Nat.lt_irrefl 0 h.1
theorem DM_dn {n : Nat} {x : Int32} (h : DM (n + 1) x) (c : ¬ x < -50) : DM n (x + (-1)) := by
  obtain ⟨h1, h2⟩ := h
  have hb := i32_hi x
  rw [Int32.lt_iff_toInt_lt] at c
  have z : (-50 : Int32).toInt = -50 := by decide
  rw [z] at c
  have e1 : (-1 : Int32).toInt = -1 := by decide
  have e : (x + (-1)).toInt = x.toInt - 1 := by rw [i32_add (by rw [e1]; omega) (by rw [e1]; omega), e1]; omega
  exact ⟨by omega, by rw [e]; omega⟩
def k18 (k : Int32) : Prop := 1 ≤ k.toInt ∧ k.toInt ≤ 8
theorem k18_ne {k : Int32} (h : k18 k) : ¬ k = 0 := fun e => by rw [e] at h; exact absurd h.1 (by decide)
theorem k18_ix {k : Int32} (h : k18 k) : vp_in k 9 := vin_k ⟨by have := h.1; omega, by have := h.2; omega⟩

