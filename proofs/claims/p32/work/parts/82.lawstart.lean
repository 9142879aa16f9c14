/-! THE CLAIM OUT OF ONE WALK OF THE LAW'S BODY. Your part is whole_start (and what it stands on); all else here is the same for every law, but numbers. -/
def R_law : String := "PinionBenchLaw"
def lw_P (b : Addr) (xs : List Int32) (args : Array Value) (s : State) : Prop := args = #[.ref b] ∧ s.IntsAt b xs ∧ xs.length ≤ 260 ∧ (Jvm.Cond.and given_1 narrow_1).before args s = true
/-- what a walk over the start with the record d0 says of its end, said of the start itself -/
theorem lw_closed {s t : State} {o : Outcome} {d0 : Drawn} {L : List Loc} {k n : Nat} (hd0 : s.drawn.sameBut d0 lw_cs) (hv : ∃ v, o = .returned v) (hW : (s.setDrawn d0).WarmedH t.vm) (hs : (s.setDrawn d0).sameButNew ({ t with vm := s.vm } : State) L k n) : State.butDraws s t lw_cs (fun t1 => Framed s o t1 L k n) := by
  have h2 : t.drawn = d0 := congrArg State.drawn hs.1
  refine ⟨⟨hv, hW, State.sameButNew.setDrawn hs s.drawn⟩, ?_, by decide⟩
  rw [h2]
  exact hd0
def lw_Q (_ : Array Value) (s : State) (o : Outcome) (t : State) : Prop := o = .returned (some (.int 1)) ∧ State.butDraws s t lw_cs (fun t1 => Framed s o t1 [] 600000 7302250)
def lw_Z (below : List Frame) (a : Array Value) (s : State) : State → Prop := fun t => ∃ o, t.status = .running ∧ Ended t below o ∧ lw_Q a s o t
/-- the law's own end, with 1 on the stack, nothing written that was there before, its room as the claim has it; d0: the record of draws at this point (at the entry s.drawn: begin with 'refine W.base ?_' and 'have hd0 := Drawn.sameBut.refl s.drawn lw_cs') -/
theorem lw_ret {p : Program} {l : Launch} {e : Env} {s : State} {m : MethodId} {below : List Frame} {meth : Method} {c : Code} {b : Nat} {d0 : Drawn} (hd0 : s.drawn.sameBut d0 lw_cs) (hx : p.tables.exec = Jvm.exec) (hb : c.code = code) (hr : meth.sig.returnType = ret) (hlocks : meth.locks = false) {pc : Nat} {H : Heap} {ls : Array Slot} (hdg : decode code pc = .ok (.ireturn, 1)) : W p l e room_1 (s.setDrawn d0) m #[Value.ref b] below meth c H [] 600000 7302250 (lw_Z below #[Value.ref b] s) (F0 m pc ls [.int 1]) := by
  intro T hT X
  obtain ⟨fs, hret, hrun, hended, hW, hframe⟩ := X.leave (v := some (.int 1)) (hlocks := hlocks) (fun h => by rw [hr] at h; cases h)
  have hmeth' : T.vm.method? m = some meth := X.method'
  refine ⟨T.setFrames fs, ?_, .returned (some (.int 1)), hrun, hended, rfl, lw_closed hd0 ⟨_, rfl⟩ hW hframe⟩
  jvm_step X.here [X.here.top, hx, hb, hdg, hmeth', hr, ret, narrow_b1]
  (try refine ⟨rfl, ?_⟩); (try refine ⟨rfl, ?_⟩)
  first | (intro acts; rw [hret _ acts rfl rfl rfl]) | rw [hret _ _ rfl rfl rfl]
  exact Steps.refl _
/-- what holds at the law's entry: the machine, the code, the tables' words (any of lw_tbl by 'hts w (by decide +kernel)'), the script of L ints xs at the cell b, what the Statement gives of the start (any of its parts by flat_of_before) -/
def lw_At (p : Program) (s : State) (m : MethodId) (meth : Method) (c : Code) (b L : Nat) (xs : Nat → Int32) : Prop :=
  p.tables.exec = Jvm.exec ∧ c.code = code ∧ meth.sig.returnType = ret ∧ c.maxLocals = 10 ∧ s.vm.findClass R_law = some m.cls ∧ (∀ w ∈ lw_tbl, w.before #[Value.ref b] s = true) ∧ va_X b L xs s s.heap ∧ b < s.heap.size ∧ meth.locks = false ∧ (Jvm.Cond.and given_1 narrow_1).before #[Value.ref b] s = true
/-! the law from its entry -/
def cPi (E : Cx) (h : Nat) (u : Nat → Nat) : va_W := [(h, .inr (5, [.ref (u 0), .ref (u 9), .ref (u 18), .int (0 : Int32), .ref (u 27), .ref (u 36), .ref (u 43)])), ((u 0), .inr (0, [.ref (u 1), .ref (u 3), .ref (u 5), .ref (u 7), .int (1 : Int32)])), ((u 1), .inr (1, [.ref (u 2), .int (0 : Int32)])), ((u 2), .inl (E.2.1, 16, .inl (fun _ => 0))), ((u 3), .inr (1, [.ref (u 4), .int (0 : Int32)])), ((u 4), .inl (E.2.1, 16, .inl (fun _ => 0))), ((u 5), .inr (1, [.ref (u 6), .int (0 : Int32)])), ((u 6), .inl (E.2.1, 9, .inl (fun _ => 0))), ((u 7), .inr (1, [.ref (u 8), .int (0 : Int32)])), ((u 8), .inl (E.2.1, 9, .inl (fun _ => 0))), ((u 9), .inr (0, [.ref (u 10), .ref (u 12), .ref (u 14), .ref (u 16), .int (1 : Int32)])), ((u 10), .inr (1, [.ref (u 11), .int (0 : Int32)])), ((u 11), .inl (E.2.1, 16, .inl (fun _ => 0))), ((u 12), .inr (1, [.ref (u 13), .int (0 : Int32)])), ((u 13), .inl (E.2.1, 16, .inl (fun _ => 0))), ((u 14), .inr (1, [.ref (u 15), .int (0 : Int32)])), ((u 15), .inl (E.2.1, 9, .inl (fun _ => 0))), ((u 16), .inr (1, [.ref (u 17), .int (0 : Int32)])), ((u 17), .inl (E.2.1, 9, .inl (fun _ => 0))), ((u 18), .inr (0, [.ref (u 19), .ref (u 21), .ref (u 23), .ref (u 25), .int (1 : Int32)])), ((u 19), .inr (1, [.ref (u 20), .int (0 : Int32)])), ((u 20), .inl (E.2.1, 16, .inl (fun _ => 0))), ((u 21), .inr (1, [.ref (u 22), .int (0 : Int32)])), ((u 22), .inl (E.2.1, 16, .inl (fun _ => 0))), ((u 23), .inr (1, [.ref (u 24), .int (0 : Int32)])), ((u 24), .inl (E.2.1, 9, .inl (fun _ => 0))), ((u 25), .inr (1, [.ref (u 26), .int (0 : Int32)])), ((u 26), .inl (E.2.1, 9, .inl (fun _ => 0))), ((u 27), .inr (4, [.ref (u 28), .ref (u 30), .ref (u 32), .ref (u 34), .int (0 : Int32), .int (0 : Int32)])), ((u 28), .inr (1, [.ref (u 29), .int (0 : Int32)])), ((u 29), .inl (E.2.1, 80, .inl (fun _ => 0))), ((u 30), .inr (1, [.ref (u 31), .int (0 : Int32)])), ((u 31), .inl (E.2.1, 40, .inl (fun _ => 0))), ((u 32), .inr (1, [.ref (u 33), .int (0 : Int32)])), ((u 33), .inl (E.2.1, 40, .inl (fun _ => 0))), ((u 34), .inr (1, [.ref (u 35), .int (0 : Int32)])), ((u 35), .inl (E.2.1, 40, .inl (fun _ => 0))), ((u 36), .inl (E.2.2.2, 3, .inr (.inr (.inr (.inr (va_up (va_up (va_up (fun _ => none) 0 (some (u 37))) 1 (some (u 39))) 2 (some (u 41)))))))), ((u 37), .inr (2, [.ref (u 38), .int (-1 : Int32)])), ((u 38), .inl (E.2.2.1, 20, .inr (.inl (fun _ => 0)))), ((u 39), .inr (2, [.ref (u 40), .int (-1 : Int32)])), ((u 40), .inl (E.2.2.1, 20, .inr (.inl (fun _ => 0)))), ((u 41), .inr (2, [.ref (u 42), .int (-1 : Int32)])), ((u 42), .inl (E.2.2.1, 20, .inr (.inl (fun _ => 0)))), ((u 43), .inr (3, [.int (1 : Int32), .int (1 : Int32), .int (1 : Int32), .int (0 : Int32), .int (0 : Int32), .int (0 : Int32), .int (0 : Int32)]))]
def adP (h : Nat) (u : Nat → Nat) : Nat → Nat := fun k => ([u 1, u 2, u 3, u 4, u 5, u 6, u 7, u 8, u 10, u 11, u 12, u 13, u 14, u 15, u 16, u 17, u 19, u 20, u 21, u 22, u 23, u 24, u 25, u 26, u 28, u 29, u 30, u 31, u 32, u 33, u 34, u 35, u 37, u 38, u 39, u 40, u 41, u 42, u 36, h, u 0, u 9, u 18, u 27, u 43] : List Nat).getD k 0
def iS : St := (fun j => ([0, 0, 0, 0, 0, 0, 0, 0, 0, 0, 0, 0, 0, 0, 0, 0, -1, -1, -1, 1, 1, 1, 0, 0, 0, 1, 1, 1, 0, 0, 0, 0] : List Int32).getD j 0, fun _ _ => 0, fun _ _ => 0)
theorem iInv : Inv iS := by
  have e : (iS.1 0).toInt = 0 := by decide
  have e2 : (iS.1 2).toInt = 0 := by decide
  refine ⟨⟨by decide, rfl, by decide, rfl, by decide, fun k hk => ?_, fun k hk => ?_⟩, Or.inl rfl, rfl⟩
  · rw [e] at hk; omega
  · rw [e2] at hk; omega
theorem arr_ext {cA : ClassId} {N : Nat} {f g : Nat → Value} (h : ∀ j : Nat, j < N → f j = g j) : arrV cA N f = arrV cA N g := by
  have e : (fun j : Fin N => f j.val) = fun j : Fin N => g j.val := funext (fun j => h j.val j.isLt)
  simp only [arrV, e]
/-- the three rows' row, as the picture has it -/
theorem row_cell {cA : ClassId} {h : Nat} {u : Nat → Nat} : vp_cell cA (3, .inr (.inr (.inr (.inr (va_up (va_up (va_up (fun _ => none) 0 (some (u 37))) 1 (some (u 39))) 2 (some (u 41))))))) = vp_cell cA (3, .inr (.inr (.inr (.inr (fun j => some (adP h u (32 + 2 * j))))))) := by
  rw [vp_cell_q, vp_cell_q]
  refine arr_ext (fun j hj => ?_)
  match j, hj with
  | 0, _ => rfl
  | 1, _ => rfl
  | 2, _ => rfl
  | j + 3, h => exact absurd h (by omega)
def wX (E : Cx) (h : Nat) (u : Nat → Nat) : va_W := (wb E (adP h u) iS).set 38 (u 36, .inl (E.2.2.2, 3, .inr (.inr (.inr (.inr (va_up (va_up (va_up (fun _ => none) 0 (some (u 37))) 1 (some (u 39))) 2 (some (u 41))))))))
set_option maxRecDepth 20000 in
theorem pic_P {E : Cx} {h : Nat} {u : Nat → Nat} {H : Heap} (hP : va_P E.1 vwCl (cPi E h u) H) : va_P E.1 vwCl (wX E h u) H := hP.sub [2, 3, 4, 5, 6, 7, 8, 9, 11, 12, 13, 14, 15, 16, 17, 18, 20, 21, 22, 23, 24, 25, 26, 27, 29, 30, 31, 32, 33, 34, 35, 36, 38, 39, 40, 41, 42, 43, 37, 0, 1, 10, 19, 28, 44] rfl
set_option maxRecDepth 20000 in
theorem pic_D {E : Cx} {h : Nat} {u : Nat → Nat} {A : Nat → Prop} (hD : va_D A (cPi E h u)) : va_D A (wX E h u) := hD.sub [2, 3, 4, 5, 6, 7, 8, 9, 11, 12, 13, 14, 15, 16, 17, 18, 20, 21, 22, 23, 24, 25, 26, 27, 29, 30, 31, 32, 33, 34, 35, 36, 38, 39, 40, 41, 42, 43, 37, 0, 1, 10, 19, 28, 44] (by decide) rfl
theorem pic_DD {E : Cx} {h : Nat} {u : Nat → Nat} {A : Nat → Prop} (hD : va_D A (wX E h u)) (S : St) : va_D A (wb E (adP h u) S ++ []) := by
  rw [List.append_nil]
  exact D_mp hD rfl
theorem pic_PP {E : Cx} {h : Nat} {u : Nat → Nat} {A : Nat → Prop} {H : Heap} (hP : va_P E.1 vwCl (wX E h u) H) (hD : va_D A (wX E h u)) : va_P E.1 vwCl (wb E (adP h u) iS ++ []) H := by
  have h38 : H[u 36]? = some (vp_cell E.2.2.2 (3, .inr (.inr (.inr (.inr (va_up (va_up (va_up (fun _ => none) 0 (some (u 37))) 1 (some (u 39))) 2 (some (u 41)))))))) := hP 38 _ rfl
  rw [row_cell (h := h)] at h38
  have hQ := va_P.set (p := 38) (a := u 36) (e := .inl (E.2.2.2, 3, .inr (.inr (.inr (.inr (fun j => some (adP h u (32 + 2 * j)))))))) (H1 := H) hP hD rfl h38 (fun _ _ => rfl)
  rw [List.append_nil]
  exact hQ
set_option maxHeartbeats 4000000 in
set_option maxRecDepth 20000 in
theorem whole_start {p : Program} {e : Env} {s : State} {m : MethodId} {below : List Frame} {meth : Method} {c : Code} (l : Launch) (hflags : l.flags = flags0) {b L : Nat} {xs : Nat → Int32} (hL : L ≤ 260) (C0 : lw_At p s m meth c b L xs) : W p l e room_1 s m #[Value.ref b] below meth c s.heap [] 0 0 (lw_Z below #[Value.ref b] s) (entryFrame m ([Value.ref b] : List Value).toArray 10) := by
  obtain ⟨hx, hb, hr, hml, hown, hts0, hX, hbl, hlocks, hgv⟩ := C0
  have hown : s.vm.findClass R_L = some m.cls := hown
  have hts := law_tb hts0
  obtain ⟨E, hK, hO⟩ := law_E hts0
  obtain ⟨tq, aK, aV, hTX⟩ := law_TX hts0 hgv
  have hA : ∀ q : Nat, s.heap.size ≤ q → LA s q := fun _ h => h
  have hbA : ¬ LA s b := Nat.not_le.mpr hbl
  have hS : va_S (LA s) s.heap s.heap [] := va_S.rf
  have hP : va_P E.1 vwCl ([] ++ []) s.heap := fun k q h => by simp at h
  have hD : va_D (LA s) ([] ++ []) := ⟨fun i j p q h => by simp at h, fun k q h => by simp at h⟩
  have hl := lv_entry ([.ref b]) (n := 10) (Nat.le_of_ble_eq_true rfl)
  rw [lg_entry_eq]
  generalize (lg_sl ([.ref b]) ++ List.replicate (10 - (lg_sl ([.ref b])).length) Slot.unset).toArray = ls at hl ⊢
  have hl : lv_has ls 10 [(0, .ref b)] := hl
  refine kc_new_L_P (W0 := []) (L := []) hx hb hts hown hK hP hD hS hA (Nat.le_of_ble_eq_true rfl) (Nat.le_of_ble_eq_true rfl) d_L_law_0 (fun x1 H hP hD hS => ?_)
  have hP : va_P E.1 vwCl ([] ++ [(x1, .inr (5, [.null, .null, .null, .int 0, .null, .null, .null]))]) H := hP
  have hD : va_D (LA s) ([] ++ [(x1, .inr (5, [.null, .null, .null, .int 0, .null, .null, .null]))]) := hD
  refine lv_dup hx hb d_L_law_3 rfl ?_
  refine k_ct (rest := [.ref x1]) (c_P_init l E (LA s) [] x1) mi_P_init ml_L_134 rfl hx hb hml hts hown hK hP hD hA hO hS hl ⟨rfl, rfl⟩ ⟨(Nat.le_of_ble_eq_true rfl), (Nat.le_of_ble_eq_true rfl)⟩ ⟨(Nat.le_of_ble_eq_true rfl), (Nat.le_of_ble_eq_true rfl)⟩ rfl (Nat.le_of_ble_eq_true rfl) rfl d_L_law_4 (fun u H locs hP hD hS => ?_)
  have hP1 : va_P E.1 vwCl (cPi E x1 u) H := hP
  have hD1 : va_D (LA s) (cPi E x1 u) := hD
  have hD2 := pic_D hD1
  have hP2 := pic_PP (pic_P hP1) hD2
  refine lv_astore_n (lv' := [(1, .ref x1), (0, .ref b)]) hx hb d_L_law_7 rfl hl (by decide) rfl (fun ls hl => ?_)
  refine W.widen (k := 600000) (n := 7302250) (Nat.le_of_ble_eq_true rfl) (Nat.le_of_ble_eq_true rfl) ?_
  refine law_run (X := []) (S := iS) (ad := adP x1 u) hL iInv hx hb hml hts hown hX hbl hbA hK hP2 (pic_DD hD2) hS hTX (lv_sub hl [1, 0] rfl) (fun pc ls r u H locs hT hP hS hdg => ?_)
  have h1 : r = 1 := (congrArg Prod.fst hT).trans (law_true iInv)
  subst h1
  refine va_forget (fun q hq => hS.2.2 q hq) ?_
  exact W.base (lw_ret (Drawn.sameBut.refl s.drawn lw_cs) hx hb hr hlocks hdg)
