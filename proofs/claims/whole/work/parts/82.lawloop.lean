/-! THE CLAIM OUT OF ONE WALK OF THE LAW'S BODY. Your part is whole_start (and what it stands on); all else here is the same for every law, but numbers. -/
def R_law : String := "PinionBenchLaw"
def lw_P (b : Addr) (xs : List Int32) (args : Array Value) (s : State) : Prop := args = #[.ref b] ∧ s.IntsAt b xs ∧ xs.length ≤ 3072 ∧ (Jvm.Cond.and given_1 narrow_1).before args s = true
def lw_Q (_ : Array Value) (s : State) (o : Outcome) (t : State) : Prop := o = .returned (some (.int 1)) ∧ Framed s o t [] 600000 7302249
def lw_Z (below : List Frame) (a : Array Value) (s : State) : State → Prop := fun t => ∃ o, t.status = .running ∧ Ended t below o ∧ lw_Q a s o t
/-- the law's own end, with 1 on the stack, nothing written that was there before, its room as the claim has it -/
theorem lw_ret {p : Program} {l : Launch} {e : Env} {s : State} {m : MethodId} {below : List Frame} {meth : Method} {c : Code} {b : Nat} (hx : p.tables.exec = Jvm.exec) (hb : c.code = code) (hr : meth.sig.returnType = ret) (hlocks : meth.locks = false) {pc : Nat} {H : Heap} {ls : Array Slot} (hdg : decode code pc = .ok (.ireturn, 1)) : W p l e room_1 s m #[Value.ref b] below meth c H [] 600000 7302249 (lw_Z below #[Value.ref b] s) (F0 m pc ls [.int 1]) := by
  intro T hT X
  obtain ⟨fs, hret, hrun, hended, hW, hframe⟩ := X.leave (v := some (.int 1)) (hlocks := hlocks) (fun h => by rw [hr] at h; cases h)
  have hmeth' : T.vm.method? m = some meth := X.method'
  refine ⟨T.setFrames fs, ?_, .returned (some (.int 1)), hrun, hended, rfl, ⟨_, rfl⟩, hW, hframe⟩
  jvm_step X.here [X.here.top, hx, hb, hdg, hmeth', hr, ret, narrow_b1]
  (try refine ⟨rfl, ?_⟩); (try refine ⟨rfl, ?_⟩)
  first | (intro acts; rw [hret _ acts rfl rfl rfl]) | rw [hret _ _ rfl rfl rfl]
  exact Steps.refl _
/-- what holds at the law's entry: the machine, the code, the tables' words (any of lw_tbl by 'hts w (by decide +kernel)'), the script of L ints xs at the cell b, what the Statement gives of the start (any of its parts by flat_of_before) -/
def lw_At (p : Program) (s : State) (m : MethodId) (meth : Method) (c : Code) (b L : Nat) (xs : Nat → Int32) : Prop :=
  p.tables.exec = Jvm.exec ∧ c.code = code ∧ meth.sig.returnType = ret ∧ c.maxLocals = 4 ∧ s.vm.findClass R_law = some m.cls ∧ (∀ w ∈ lw_tbl, w.before #[Value.ref b] s = true) ∧ va_X b L xs s s.heap ∧ b < s.heap.size ∧ meth.locks = false ∧ (Jvm.Cond.and given_1 narrow_1).before #[Value.ref b] s = true
/-- the law's loop -/
theorem law_loop {p : Program} {l : Launch} {e : Env} {s : State} {m : MethodId} {below : List Frame} {meth : Method} {c : Code} {b L : Nat} {xs : Nat → Int32} {E : Cx} {ad ae : Nat → Nat} (C : LC p s m c b L xs E ad ae) (hr : meth.sig.returnType = ret) (hlocks : meth.locks = false) (hL : L ≤ 3072) : ∀ (n : Nat) (i : Int32) (S M : St) (H : Heap) (locs : List Loc) (ls : Array Slot), 0 ≤ i.toInt → i.toInt ≤ (L : Int) + 6 → (L : Int) + 7 ≤ i.toInt + (n : Int) → Rel S M → va_P E.1 vwCl (wb E ad S ++ wm E ae M) H → va_S (LA s) s.heap H locs → lv_has ls 4 [(0, .ref b), (1, .ref (ad 39)), (2, .ref (ae 0)), (3, .int i)] → W p l e room_1 s m #[Value.ref b] below meth c H locs 600000 7302249 (lw_Z below #[Value.ref b] s) (F0 m 18 ls []) := by
  intro n
  induction n with
  | zero => intro i S M H locs ls h0 h1 h2; omega
  | succ n ih =>
    intro i S M H locs ls h0 h1 h2 hR hP hS hl
    have C0 := C
    obtain ⟨hx, hb, hml, hown, hts, hX, hbl, hK, hDD⟩ := C0
    have hbA : ¬ LA s b := Nat.not_le.mpr hbl
    have eL : (Int32.ofNat L).toInt = (L : Int) := nI_toInt (n := L) (by omega)
    have e6 : (6 : Int32).toInt = 6 := by decide
    have eD : (Int32.ofNat L - 6).toInt = (L : Int) - 6 := by rw [i32_sub (by rw [eL, e6]; omega) (by rw [eL, e6]; omega), eL, e6]
    refine lv_iload_n hx hb d_L_law_18 rfl (lv_at hl 3 rfl) ?_
    refine lv_aload_n hx hb d_L_law_19 rfl (lv_at hl 0 rfl) ?_
    refine va_slen hx hb hX hbl hbA hS d_L_law_20 ?_
    refine lv_bipush (v := (6 : Int32)) hx hb d_L_law_21 rfl ?_
    refine lv_isub hx hb d_L_law_23 ?_
    refine lv_icmp_gt (tgt := 1094) hx hb d_L_law_24 (by decide) (fun c_1 => ?_) (fun c_1 => ?_)
    · refine lv_iconst (v := (1 : Int32)) hx hb d_L_law_1094 rfl ?_
      refine va_forget (fun q hq => hS.2.2 q hq) ?_
      exact lw_ret hx hb hr hlocks d_L_law_1095
    · rw [lt32, eD] at c_1
      have hi : LX i L := ⟨h0, by omega, hL⟩
      have es : (i + 6).toInt = i.toInt + 6 := by rw [i32_add (by rw [e6]; omega) (by rw [e6]; omega), e6]
      have kk : ∀ (S' M' : St) (H' : Heap) (locs' : List Loc), Rel S' M' → va_P E.1 vwCl (wb E ad S' ++ wm E ae M') H' → va_S (LA s) s.heap H' locs' → W p l e room_1 s m #[Value.ref b] below meth c H' locs' 600000 7302249 (lw_Z below #[Value.ref b] s) (F0 m 1088 ls []) := by
        intro S' M' H' locs' hR hP hS
        refine lv_iinc (v := i + 6) (lv' := [(3, .int (i + 6)), (0, .ref b), (1, .ref (ad 39)), (2, .ref (ae 0))]) hx hb d_L_law_1088 hl (k := 3) rfl rfl (by decide) rfl (fun ls hl => ?_)
        refine lv_goto (tgt := 18) hx hb d_L_law_1091 (by decide) ?_
        exact ih (i + 6) S' M' H' locs' ls (by omega) (by omega) (by omega) hR hP hS (lv_sub hl [1, 2, 3, 0] rfl)
      refine lv_aload_n hx hb d_L_law_27 rfl (lv_at hl 0 rfl) ?_
      refine lv_iload_n hx hb d_L_law_28 rfl (lv_at hl 3 rfl) ?_
      refine va_sld hx hb hX hbl hbA hS (lx_0 hi) d_L_law_29 ?_
      refine lv_bipush (v := (31 : Int32)) hx hb d_L_law_30 rfl ?_
      refine lv_iand hx hb d_L_law_32 ?_
      generalize (xs i.toNatClampNeg &&& (31 : Int32)) = x
      by_cases e_0 : x.toInt = 0
      · exact lv_tableIn (x := x) (off := 131) (tgt := 164) hx hb d_L_law_33 (by rw [e_0]; decide) (by rw [e_0]; decide) (by rw [e_0]; rfl) (by decide) (lc_0 C hi hR hP hS hl kk)
      by_cases e_1 : x.toInt = 1
      · exact lv_tableIn (x := x) (off := 154) (tgt := 187) hx hb d_L_law_33 (by rw [e_1]; decide) (by rw [e_1]; decide) (by rw [e_1]; rfl) (by decide) (lc_1 C hi hR hP hS hl kk)
      by_cases e_2 : x.toInt = 2
      · exact lv_tableIn (x := x) (off := 187) (tgt := 220) hx hb d_L_law_33 (by rw [e_2]; decide) (by rw [e_2]; decide) (by rw [e_2]; rfl) (by decide) (lc_2 C hi hR hP hS hl kk)
      by_cases e_3 : x.toInt = 3
      · exact lv_tableIn (x := x) (off := 210) (tgt := 243) hx hb d_L_law_33 (by rw [e_3]; decide) (by rw [e_3]; decide) (by rw [e_3]; rfl) (by decide) (lc_3 C hi hR hP hS hl kk)
      by_cases e_4 : x.toInt = 4
      · exact lv_tableIn (x := x) (off := 243) (tgt := 276) hx hb d_L_law_33 (by rw [e_4]; decide) (by rw [e_4]; decide) (by rw [e_4]; rfl) (by decide) (lc_4 C hi hR hP hS hl kk)
      by_cases e_5 : x.toInt = 5
      · exact lv_tableIn (x := x) (off := 266) (tgt := 299) hx hb d_L_law_33 (by rw [e_5]; decide) (by rw [e_5]; decide) (by rw [e_5]; rfl) (by decide) (lc_5 C hi hR hP hS hl kk)
      by_cases e_6 : x.toInt = 6
      · exact lv_tableIn (x := x) (off := 310) (tgt := 343) hx hb d_L_law_33 (by rw [e_6]; decide) (by rw [e_6]; decide) (by rw [e_6]; rfl) (by decide) (lc_6 C hi hR hP hS hl kk)
      by_cases e_7 : x.toInt = 7
      · exact lv_tableIn (x := x) (off := 354) (tgt := 387) hx hb d_L_law_33 (by rw [e_7]; decide) (by rw [e_7]; decide) (by rw [e_7]; rfl) (by decide) (lc_7 C hi hR hP hS hl kk)
      by_cases e_8 : x.toInt = 8
      · exact lv_tableIn (x := x) (off := 398) (tgt := 431) hx hb d_L_law_33 (by rw [e_8]; decide) (by rw [e_8]; decide) (by rw [e_8]; rfl) (by decide) (lc_8 C hi hR hP hS hl kk)
      by_cases e_9 : x.toInt = 9
      · exact lv_tableIn (x := x) (off := 451) (tgt := 484) hx hb d_L_law_33 (by rw [e_9]; decide) (by rw [e_9]; decide) (by rw [e_9]; rfl) (by decide) (lc_9 C hi hR hP hS hl kk)
      by_cases e_10 : x.toInt = 10
      · exact lv_tableIn (x := x) (off := 474) (tgt := 507) hx hb d_L_law_33 (by rw [e_10]; decide) (by rw [e_10]; decide) (by rw [e_10]; rfl) (by decide) (lc_10 C hi hR hP hS hl kk)
      by_cases e_11 : x.toInt = 11
      · exact lv_tableIn (x := x) (off := 507) (tgt := 540) hx hb d_L_law_33 (by rw [e_11]; decide) (by rw [e_11]; decide) (by rw [e_11]; rfl) (by decide) (lc_11 C hi hR hP hS hl kk)
      by_cases e_12 : x.toInt = 12
      · exact lv_tableIn (x := x) (off := 520) (tgt := 553) hx hb d_L_law_33 (by rw [e_12]; decide) (by rw [e_12]; decide) (by rw [e_12]; rfl) (by decide) (lc_12 C hi hR hP hS hl kk)
      by_cases e_13 : x.toInt = 13
      · exact lv_tableIn (x := x) (off := 544) (tgt := 577) hx hb d_L_law_33 (by rw [e_13]; decide) (by rw [e_13]; decide) (by rw [e_13]; rfl) (by decide) (lc_13 C hi hR hP hS hl kk)
      by_cases e_14 : x.toInt = 14
      · exact lv_tableIn (x := x) (off := 557) (tgt := 590) hx hb d_L_law_33 (by rw [e_14]; decide) (by rw [e_14]; decide) (by rw [e_14]; rfl) (by decide) (lc_14 C hi hR hP hS hl kk)
      by_cases e_15 : x.toInt = 15
      · exact lv_tableIn (x := x) (off := 581) (tgt := 614) hx hb d_L_law_33 (by rw [e_15]; decide) (by rw [e_15]; decide) (by rw [e_15]; rfl) (by decide) (lc_15 C hi hR hP hS hl kk)
      by_cases e_16 : x.toInt = 16
      · exact lv_tableIn (x := x) (off := 624) (tgt := 657) hx hb d_L_law_33 (by rw [e_16]; decide) (by rw [e_16]; decide) (by rw [e_16]; rfl) (by decide) (lc_16 C hi hR hP hS hl kk)
      by_cases e_17 : x.toInt = 17
      · exact lv_tableIn (x := x) (off := 657) (tgt := 690) hx hb d_L_law_33 (by rw [e_17]; decide) (by rw [e_17]; decide) (by rw [e_17]; rfl) (by decide) (lc_17 C hi hR hP hS hl kk)
      by_cases e_18 : x.toInt = 18
      · exact lv_tableIn (x := x) (off := 721) (tgt := 754) hx hb d_L_law_33 (by rw [e_18]; decide) (by rw [e_18]; decide) (by rw [e_18]; rfl) (by decide) (lc_18 C hi hR hP hS hl kk)
      by_cases e_19 : x.toInt = 19
      · exact lv_tableIn (x := x) (off := 784) (tgt := 817) hx hb d_L_law_33 (by rw [e_19]; decide) (by rw [e_19]; decide) (by rw [e_19]; rfl) (by decide) (lc_19 C hi hR hP hS hl kk)
      by_cases e_20 : x.toInt = 20
      · exact lv_tableIn (x := x) (off := 807) (tgt := 840) hx hb d_L_law_33 (by rw [e_20]; decide) (by rw [e_20]; decide) (by rw [e_20]; rfl) (by decide) (lc_20 C hi hR hP hS hl kk)
      by_cases e_21 : x.toInt = 21
      · exact lv_tableIn (x := x) (off := 820) (tgt := 853) hx hb d_L_law_33 (by rw [e_21]; decide) (by rw [e_21]; decide) (by rw [e_21]; rfl) (by decide) (lc_21 C hi hR hP hS hl kk)
      by_cases e_22 : x.toInt = 22
      · exact lv_tableIn (x := x) (off := 853) (tgt := 886) hx hb d_L_law_33 (by rw [e_22]; decide) (by rw [e_22]; decide) (by rw [e_22]; rfl) (by decide) (lc_22 C hi hR hP hS hl kk)
      by_cases e_23 : x.toInt = 23
      · exact lv_tableIn (x := x) (off := 926) (tgt := 959) hx hb d_L_law_33 (by rw [e_23]; decide) (by rw [e_23]; decide) (by rw [e_23]; rfl) (by decide) (lc_23 C hi hR hP hS hl kk)
      by_cases e_24 : x.toInt = 24
      · exact lv_tableIn (x := x) (off := 960) (tgt := 993) hx hb d_L_law_33 (by rw [e_24]; decide) (by rw [e_24]; decide) (by rw [e_24]; rfl) (by decide) (lc_24 C hi hR hP hS hl kk)
      by_cases e_25 : x.toInt = 25
      · exact lv_tableIn (x := x) (off := 983) (tgt := 1016) hx hb d_L_law_33 (by rw [e_25]; decide) (by rw [e_25]; decide) (by rw [e_25]; rfl) (by decide) (lc_25 C hi hR hP hS hl kk)
      by_cases e_26 : x.toInt = 26
      · exact lv_tableIn (x := x) (off := 1006) (tgt := 1039) hx hb d_L_law_33 (by rw [e_26]; decide) (by rw [e_26]; decide) (by rw [e_26]; rfl) (by decide) (lc_26 C hi hR hP hS hl kk)
      by_cases e_27 : x.toInt = 27
      · exact lv_tableIn (x := x) (off := 1019) (tgt := 1052) hx hb d_L_law_33 (by rw [e_27]; decide) (by rw [e_27]; decide) (by rw [e_27]; rfl) (by decide) (lc_27 C hi hR hP hS hl kk)
      by_cases e_28 : x.toInt = 28
      · exact lv_tableIn (x := x) (off := 1032) (tgt := 1065) hx hb d_L_law_33 (by rw [e_28]; decide) (by rw [e_28]; decide) (by rw [e_28]; rfl) (by decide) (lc_28 C hi hR hP hS hl kk)
      exact lv_tableOut (x := x) (tgt := 1088) hx hb d_L_law_33 (by omega) (by decide) (kk S M H locs hR hP hS)
