/-! an act keeps what is always so, and answers as the law asks -/
section ac
variable {S Z Y : St} {x a b k t : Int32} {i : Nat}
/-- no bench, no image and no copy ahead is touched -/
def GX (S Z : St) : Prop := (∀ j : Nat, (j < 12 ∨ (19 ≤ j ∧ j < 23)) → Z.1 j = S.1 j) ∧ ∀ r : Nat, r < 12 → Z.2.1 r = S.2.1 r
theorem GX.rf : GX S S := ⟨fun _ _ => rfl, fun _ _ => rfl⟩
theorem GX.tr (h : GX S Z) (h' : GX Z Y) : GX S Y := ⟨fun j q => (h'.1 j q).trans (h.1 j q), fun r q => (h'.2 r q).trans (h.2 r q)⟩
theorem GX_V (hi : (12 ≤ i ∧ i < 19) ∨ 23 ≤ i) : GX S (sV S i x) := ⟨fun j q => sV_ne (by omega), fun _ _ => rfl⟩
theorem GX_A {m : Nat} (hi : 12 ≤ i) : GX S (sA S i m x) := ⟨fun _ _ => rfl, fun r q => sA_o (by omega)⟩
theorem GX_L {m : Nat} {v : Int64} : GX S (sL S i m v) := ⟨fun _ _ => rfl, fun _ _ => rfl⟩
theorem GX.V (h : GX S Z) (hi : (12 ≤ i ∧ i < 19) ∨ 23 ≤ i) : GX S (sV Z i x) := h.tr (GX_V hi)
theorem GX_add (hi : 12 ≤ i ∧ i < 16) : GX S (s_N_add S i x) := by
  rw [s_N_add]
  split
  · exact GX.rf
  · split
    · exact GX.rf
    · exact (GX_A hi.1).tr (GX_V (by omega))
theorem ite_G {c : Prop} {dc : Decidable c} {u v : Int32 × St} (h1 : GX S u.2) (h2 : GX S v.2) : GX S (@ite (Int32 × St) c dc u v).2 := by
  by_cases h : c
  · rw [if_pos h]; exact h1
  · rw [if_neg h]; exact h2
theorem pe {r : Int32 × St} : (r.1, r.2) = r := rfl
theorem P_w : s_P_wheel S t = s_B_addWheel S t := by rw [s_P_wheel, pe]
theorem P_s : s_P_shift S a b = s_B_setShift S a b := by rw [s_P_shift, pe]
theorem P_r : s_P_pressure S a = s_B_setPressure S a := by rw [s_P_pressure, pe]
theorem P_p : s_P_pair S a b = s_B_addPair S a b := by rw [s_P_pair, pe]
theorem P_c : s_P_clear S = s_B_emptyTrain S := by rw [s_P_clear, pe]
theorem mk_G {q : Int32} (h : GX S Z) : GX S ((q, Z) : Int32 × St).2 := h
theorem gx_append : GX S (s_X_append S a).2 := by
  rw [s_X_append]
  exact ite_G GX.rf (ite_G (ite_G (GX_add (by omega)) GX.rf) GX.rf)
theorem gx_skip : GX S (s_X_skip S a).2 := by
  rw [s_X_skip]
  exact ite_G (ite_G GX.rf (GX_V (by omega))) (ite_G GX.rf (GX_V (by omega)))
theorem gx_83 : GX S (s_X_parseNumber_b83 S a b).2 := by
  rw [s_X_parseNumber_b83]
  exact ite_G (GX_V (by omega)) (GX_V (by omega))
theorem gx_70 : GX S (s_X_parseNumber_b70 S a b x).2 := by
  rw [s_X_parseNumber_b70]
  exact ite_G gx_83 gx_83
theorem gx_24 : ∀ (n : Nat) (Z : St) (x a b : Int32), GX S Z → GX S (s_X_parseNumber_b24 n Z x a b).2 := by
  intro n
  induction n with
  | zero => intro Z x a b h; exact h
  | succ n ih =>
    intro Z x a b h
    rw [s_X_parseNumber_b24]
    exact ite_G (h.tr gx_70) (ite_G (h.tr gx_70) (ih _ _ _ _ (h.V (by omega))))
theorem gx_18 : GX S (s_X_parseNumber_b18 S a).2 := gx_24 _ _ _ _ _ GX.rf
theorem gx_num : GX S (s_X_parseNumber S a).2 := by
  rw [s_X_parseNumber]
  exact ite_G gx_18 (ite_G (gx_skip.tr gx_18) (gx_skip.tr gx_18))
theorem gx_114 : GX S (s_X_parseAct_b114 S a b x).2 := ((GX_add (by omega)).tr (GX_add (by omega))).tr (GX_add (by omega))
theorem gx_101 : GX S (s_X_parseAct_b101 S a b x).2 := by
  rw [s_X_parseAct_b101]
  exact ite_G (mk_G gx_num) (gx_num.tr gx_114)
theorem gx_80 : GX S (s_X_parseAct_b80 S a b).2 := by
  rw [s_X_parseAct_b80]
  exact ite_G (mk_G gx_skip) (ite_G (gx_skip.tr gx_101) (gx_skip.tr gx_101))
theorem gx_68 : GX S (s_X_parseAct_b68 S a b x).2 := by
  rw [s_X_parseAct_b68]
  exact ite_G gx_80 (ite_G gx_80 gx_114)
theorem gx_55 : GX S (s_X_parseAct_b55 S a b x).2 := by
  rw [s_X_parseAct_b55]
  exact ite_G (mk_G gx_num) (gx_num.tr gx_68)
theorem gx_act : GX S (s_X_parseAct S).2 := by
  rw [s_X_parseAct]
  have hv : GX S (sV S 23 ((S.1 23) + (1 : Int32))) := GX_V (by omega)
  exact ite_G (mk_G GX.rf) (ite_G (hv.tr gx_68) (ite_G (mk_G (hv.tr gx_skip)) (ite_G ((hv.tr gx_skip).tr gx_55) ((hv.tr gx_skip).tr gx_55))))
theorem gx_28 : ∀ (n : Nat) (Z : St) (x : Int32), GX S Z → GX S (s_X_parse_b28 n Z x).2 := by
  intro n
  induction n with
  | zero => intro Z x h; exact h
  | succ n ih =>
    intro Z x h
    rw [s_X_parse_b28]
    exact ite_G (mk_G h) (ite_G (mk_G (h.tr gx_act)) (ite_G (mk_G (h.tr gx_act)) (ite_G (mk_G ((h.tr gx_act).tr gx_skip)) (ih _ _ ((h.tr gx_act).tr gx_skip)))))
theorem gx_parse : GX S (s_X_parse S).2 := by
  rw [s_X_parse]
  exact gx_28 _ _ _ ((((GX_V (by omega)).V (by omega)).V (by omega)).V (by omega))
/-- the bench and the image, whatever the tape holds -/
def Inw (S : St) : Prop := BN S ∧ (S.1 22 = 0 ∨ BK S)
theorem GX.bn (h : GX S Z) (hB : BN S) : BN Z := hB.cg (h.1 0 (by omega)) (h.1 1 (by omega)) (h.1 2 (by omega)) (h.1 3 (by omega)) (h.1 19 (by omega)) (h.2 0 (by omega)) (h.2 1 (by omega)) (h.2 2 (by omega)) (h.2 3 (by omega))
theorem GX.bk (h : GX S Z) (hB : BK S) : BK Z := hB.cg (h.1 4 (by omega)) (h.1 5 (by omega)) (h.1 6 (by omega)) (h.1 7 (by omega)) (h.1 20 (by omega)) (h.2 4 (by omega)) (h.2 5 (by omega)) (h.2 6 (by omega)) (h.2 7 (by omega))
theorem GX.inw (h : GX S Z) (hI : Inw S) : Inw Z := ⟨h.bn hI.1, hI.2.imp (fun q => (h.1 22 (by omega)).trans q) h.bk⟩
theorem GX.inv (h : GX S Z) (hI : Inv S) (h12 : Z.1 12 = 0) : Inv Z := ⟨(h.inw ⟨hI.1, hI.2.1⟩).1, (h.inw ⟨hI.1, hI.2.1⟩).2, h12⟩
/-- the image and the tape's length stay -/
def KF (S Z : St) : Prop := (∀ j : Nat, ((4 ≤ j ∧ j ≤ 7) ∨ j = 12 ∨ j = 20 ∨ j = 22) → Z.1 j = S.1 j) ∧ ∀ r : Nat, (4 ≤ r ∧ r ≤ 7) → Z.2.1 r = S.2.1 r
theorem KF.rf : KF S S := ⟨fun _ _ => rfl, fun _ _ => rfl⟩
theorem KF.tr (h : KF S Z) (h' : KF Z Y) : KF S Y := ⟨fun j q => (h'.1 j q).trans (h.1 j q), fun r q => (h'.2 r q).trans (h.2 r q)⟩
theorem FR.kf (h : FR S Z) : KF S Z := ⟨fun j q => h.1 j (by omega) (by omega), fun r q => h.2.1 r (by omega)⟩
theorem KF.bk (h : KF S Z) (hB : BK S) : BK Z := hB.cg (h.1 4 (by omega)) (h.1 5 (by omega)) (h.1 6 (by omega)) (h.1 7 (by omega)) (h.1 20 (by omega)) (h.2 4 (by omega)) (h.2 5 (by omega)) (h.2 6 (by omega)) (h.2 7 (by omega))
theorem KF.inv (h : KF S Z) (hI : Inv S) (hB : BN Z) : Inv Z := ⟨hB, hI.2.1.imp (fun q => (h.1 22 (by omega)).trans q) h.bk, (h.1 12 (by omega)).trans hI.2.2⟩
theorem FR.ba (h : FR S Z) (hB : BA S) : BA Z := hB.cg (h.1 8 (by omega) (by omega)) (h.1 9 (by omega) (by omega)) (h.1 10 (by omega) (by omega)) (h.1 11 (by omega) (by omega)) (h.1 21 (by omega) (by omega)) (h.2.1 8 (by omega)) (h.2.1 9 (by omega)) (h.2.1 10 (by omega)) (h.2.1 11 (by omega))
/-- what the law asks of a text's acts -/
def RSt (S : St) (r : Int32 × St) : Prop := 0 < r.1 ∨ (r.2.1 0 = S.1 0 ∧ r.2.1 2 = S.1 2)
theorem do_b {Z0 : St} (hA : BA Z0) (h8 : Z0.1 8 = Z0.1 0) (h10 : Z0.1 10 = Z0.1 2) : ∀ (n : Nat) (Z : St) (x : Int32), UP n (Z0.1 13) x → BN Z → FR Z0 Z → (Z = Z0 ∨ 0 < Z0.1 13) → BN (s_P_doActs_b13 n Z x).2 ∧ FR Z0 (s_P_doActs_b13 n Z x).2 ∧ RSt Z0 (s_P_doActs_b13 n Z x) := by
  intro n
  induction n with
  | zero => intro Z x h; exact absurd h UP_z
  | succ n ih =>
    intro Z x h hB hF hs
    have e13 : s_X_acts Z = Z0.1 13 := by rw [s_X_acts, s_N_size]; exact hF.1 13 (by omega) (by omega)
    rw [s_P_doActs_b13, e13]
    by_cases c : Z0.1 13 ≤ x
    · rw [if_pos c]
      refine ⟨hB, hF, ?_⟩
      rcases hs with rfl | hs
      · exact Or.inr ⟨rfl, rfl⟩
      · exact Or.inl hs
    · rw [if_neg c]
      have hp : 0 < Z0.1 13 := by
        have := h.2.2
        rw [le32] at c
        rw [lt32, z32]; omega
      obtain ⟨dB, dF⟩ := b_does (a := s_X_letterOf Z x) (b := s_X_firstOf Z x) (x := s_X_secondOf Z x) hB
      by_cases d : (s_B_does Z (s_X_letterOf Z x) (s_X_firstOf Z x) (s_X_secondOf Z x)).1 = 0
      · rw [if_pos d]
        have f1 := hF.tr dF
        have c4 := bc_02 (f1.ba hA)
        clear d dB dF
        generalize (s_B_does Z (s_X_letterOf Z x) (s_X_firstOf Z x) (s_X_secondOf Z x)).2 = Y at f1 c4 ⊢
        generalize s_B_become_02 Y = F at c4 ⊢
        refine ⟨c4.bi (f1.ba hA), f1.tr ⟨fun j q1 q2 => c4.2.2.1 j (by omega) q2, fun r q => c4.2.2.2.1 r (by omega), c4.2.2.2.2⟩, Or.inr ⟨?_, ?_⟩⟩
        · exact (c4.1.1.trans (f1.1 8 (by omega) (by omega))).trans h8
        · exact (c4.1.2.2.1.trans (f1.1 10 (by omega) (by omega))).trans h10
      · rw [if_neg d]
        exact ih _ _ (UP_up h c) dB (hF.tr dF) (Or.inr hp)
theorem do_1 (hB : BN S) : BN (s_P_doActs S).2 ∧ KF S (s_P_doActs S).2 ∧ RSt S (s_P_doActs S) := by
  have c4 := bc_20 hB
  obtain ⟨⟨e0, e1, e2, e3, e4⟩, hr, hs, hf, hl⟩ := id c4
  have k0 : (s_B_become_20 S).1 0 = S.1 0 := hs 0 (by omega) (by omega)
  have k2 : (s_B_become_20 S).1 2 = S.1 2 := hs 2 (by omega) (by omega)
  have hB0 : BN (s_B_become_20 S) := hB.cg k0 (hs 1 (by omega) (by omega)) k2 (hs 3 (by omega) (by omega)) (hs 19 (by omega) (by omega)) (hf 0 (by omega)) (hf 1 (by omega)) (hf 2 (by omega)) (hf 3 (by omega))
  have hK0 : KF S (s_B_become_20 S) := ⟨fun j q => hs j (by omega) (by omega), fun r q => hf r (by omega)⟩
  obtain ⟨g1, g2, g3⟩ := do_b (Z0 := s_B_become_20 S) (c4.bi hB) (e0.trans k0.symm) (e2.trans k2.symm) _ (s_B_become_20 S) 0 (UP_in (by decide)) hB0 FR.rf (Or.inl rfl)
  rw [s_P_doActs]
  clear c4 hr hs hf hl e0 e1 e2 e3 e4 hB0
  generalize s_B_become_20 S = F at g1 g2 g3 hK0 k0 k2 ⊢
  refine ⟨g1, hK0.tr g2.kf, ?_⟩
  rcases g3 with g3 | ⟨g3, g4⟩
  · exact Or.inl g3
  · exact Or.inr ⟨g3.trans k0, g4.trans k2⟩
theorem read_1 (hI : Inw S) : Inv (s_P_read S).2 ∧ RSt S (s_P_read S) := by
  have g : GX S (s_X_empty (s_X_parse S).2) := gx_parse.V (by omega)
  have hw := g.inw hI
  have h12 : (s_X_empty (s_X_parse S).2).1 12 = 0 := sV_eq
  have hv : Inv (s_X_empty (s_X_parse S).2) := ⟨hw.1, hw.2, h12⟩
  have k0 := g.1 0 (by omega)
  have k2 := g.1 2 (by omega)
  rw [s_P_read]
  generalize s_X_empty (s_X_parse S).2 = Y at hw hv k0 k2 ⊢
  by_cases c : (s_X_parse S).1 < 0
  · rw [if_pos c, pe]
    obtain ⟨d1, d2, d3⟩ := do_1 hw.1
    generalize s_P_doActs Y = r at d1 d2 d3 ⊢
    refine ⟨d2.inv hv d1, ?_⟩
    rcases d3 with d3 | ⟨d3, d4⟩
    · exact Or.inl d3
    · exact Or.inr ⟨d3.trans k0, d4.trans k2⟩
  · rw [if_neg c]
    exact ⟨hv, Or.inr ⟨k0, k2⟩⟩
theorem text_1 (hI : Inw S) {r : Nat} : ∀ (n : Nat) (Z : St) (x : Int32), UP n (nI (tLen r)) x → GX S Z → Inv (s_L_act_b196 n Z r x).2 ∧ RSt S (s_L_act_b196 n Z r x) := by
  intro n
  induction n with
  | zero => intro Z x h; exact absurd h UP_z
  | succ n ih =>
    intro Z x h g
    rw [s_L_act_b196]
    by_cases c : nI (tLen r) ≤ x
    · rw [if_pos c, pe]
      obtain ⟨d1, d2⟩ := read_1 (g.inw hI)
      generalize s_P_read Z = r at d1 d2 ⊢
      refine ⟨d1, ?_⟩
      rcases d2 with d2 | ⟨d2, d3⟩
      · exact Or.inl d2
      · exact Or.inr ⟨d2.trans (g.1 0 (by omega)), d3.trans (g.1 2 (by omega))⟩
    · rw [if_neg c]
      exact ih _ _ (UP_up h c) (g.tr gx_append)
/-- what the law asks of one act of kind k -/
def AOk (S : St) (k : Int32) (r : Int32 × St) : Prop := Inv r.2 ∧ (k ≤ 2 → r.2.1 0 = if r.1 < 0 then S.1 0 else S.1 0 + 1) ∧ (6 ≤ k → k ≤ 8 → r.2.1 2 = if r.1 < 0 then S.1 2 else r.1) ∧ (k = 10 ∨ k = 11 → RSt S r)
theorem AO_i {r : Int32 × St} (hi : Inv r.2) (h1 : ¬ k ≤ 2) (h2 : ¬ (6 ≤ k ∧ k ≤ 8)) (h3 : ¬ (k = 10 ∨ k = 11)) : AOk S k r := ⟨hi, fun q => absurd q h1, fun q q' => absurd ⟨q, q'⟩ h2, fun q => absurd q h3⟩
theorem ao_w (hI : Inv S) (h2 : ¬ (6 ≤ k ∧ k ≤ 8)) (h3 : ¬ (k = 10 ∨ k = 11)) : AOk S k (s_L_act_b119 S t) := by
  obtain ⟨w1, w2, w3⟩ := b_wheel (t := t) hI.1
  rw [s_L_act_b119, pe, P_w]
  generalize s_B_addWheel S t = r at w1 w2 w3 ⊢
  refine ⟨w2.kf.inv hI w1, fun _ => ?_, fun q q' => absurd ⟨q, q'⟩ h2, fun q => absurd q h3⟩
  rcases w3 with ⟨q1, q2⟩ | ⟨q1, q2, -⟩
  · rw [if_pos (by rw [lt32, z32]; exact q1), q2]
  · rw [if_neg (by rw [lt32, z32]; omega), q2]
theorem ao_p (hI : Inv S) (h1 : ¬ k ≤ 2) (h3 : ¬ (k = 10 ∨ k = 11)) : AOk S k (s_P_pair S a b) := by
  obtain ⟨w1, w2, w3⟩ := b_pair (a := a) (b := b) hI.1
  rw [P_p]
  generalize s_B_addPair S a b = r at w1 w2 w3 ⊢
  refine ⟨w2.kf.inv hI w1, fun q => absurd q h1, fun _ _ => ?_, fun q => absurd q h3⟩
  rcases w3 with ⟨q1, q2⟩ | ⟨q1, q2, -⟩
  · rw [if_pos (by rw [lt32, z32]; exact q1), q2]
  · rw [if_neg (by rw [lt32, z32]; omega), q2]
theorem ao_t (hI : Inv S) {r : Nat} (hr : r < 10) (h1 : ¬ k ≤ 2) (h2 : ¬ (6 ≤ k ∧ k ≤ 8)) : AOk S k (s_L_act_b196 17 S r 0) := by
  obtain ⟨w1, w2⟩ := text_1 ⟨hI.1, hI.2.1⟩ 17 S 0 (UP_in' (by decide) (tLen_f hr)) GX.rf
  exact ⟨w1, fun q => absurd q h1, fun q q' => absurd ⟨q, q'⟩ h2, fun _ => w2⟩
theorem gx_set {m : Nat} {v : Int64} : GX S (s_O_set S m a v).2 := by
  rw [s_O_set]
  exact ite_G GX.rf GX_L
/-- the tape's length stays -/
def G12 (S Z : St) : Prop := GX S Z ∧ Z.1 12 = S.1 12
theorem G12.rf : G12 S S := ⟨GX.rf, rfl⟩
theorem G12.tr (h : G12 S Z) (h' : G12 Z Y) : G12 S Y := ⟨h.1.tr h'.1, h'.2.trans h.2⟩
theorem G12.inv (h : G12 S Z) (hI : Inv S) : Inv Z := h.1.inv hI (h.2.trans hI.2.2)
theorem ite_12 {c : Prop} {dc : Decidable c} {u v : Int32 × St} (h1 : G12 S u.2) (h2 : G12 S v.2) : G12 S (@ite (Int32 × St) c dc u v).2 := by
  by_cases h : c
  · rw [if_pos h]; exact h1
  · rw [if_neg h]; exact h2
theorem mk_12 {q : Int32} (h : G12 S Z) : G12 S ((q, Z) : Int32 × St).2 := h
theorem g_set {m : Nat} {v : Int64} : G12 S (s_O_set S m a v).2 := by
  rw [s_O_set]
  exact ite_12 G12.rf ⟨GX_L, rfl⟩
theorem g_23 {m : Nat} : ∀ (n : Nat) (Z : St) (x : Int32), G12 S Z → G12 S (s_O_resize_b23 m n Z x).2 := by
  intro n
  induction n with
  | zero => intro Z x h; exact h
  | succ n ih =>
    intro Z x h
    rw [s_O_resize_b23]
    exact ite_12 h (ih _ _ (h.tr ⟨GX_L, rfl⟩))
theorem g_rez {m : Nat} (hm : m < 3) : G12 S (s_O_resize S m a).2 := by
  rw [s_O_resize]
  exact ite_12 G12.rf (ite_12 (g_23 _ _ _ ⟨GX_V (by omega), sV_ne (by omega)⟩) G12.rf)
theorem tn3 (h : 0 ≤ a ∧ a < 3) : a.toNatClampNeg < 3 := by
  have h1 := le32.mp h.1
  have h2 := lt32.mp h.2
  rw [z32] at h1
  rw [show (3 : Int32).toInt = 3 by decide] at h2
  have := i32_tn h1
  omega
theorem g_row : G12 S (s_P_row S a b).2 := by
  rw [s_P_row]
  by_cases h : 0 ≤ a ∧ a < 3
  · rw [if_pos h]
    have g := g_rez (S := S) (a := b) (tn3 h)
    exact ite_12 (ite_12 (mk_12 g) (mk_12 g)) (mk_12 G12.rf)
  · rw [if_neg h]; exact G12.rf
theorem g_put {v : Int64} : G12 S (s_P_put S a b v).2 := by
  rw [s_P_put]
  exact ite_12 (ite_12 (ite_12 (mk_12 g_set) (mk_12 g_set)) (mk_12 G12.rf)) (mk_12 G12.rf)
theorem g_40 {m : Nat} : ∀ (n : Nat) (Z : St) (x y : Int32), G12 S Z → G12 S (s_P_lay_b40 n Z m x y).2 := by
  intro n
  induction n with
  | zero => intro Z x y h; exact h
  | succ n ih =>
    intro Z x y h
    rw [s_P_lay_b40]
    exact ite_12 h (ih _ _ _ (h.tr g_set))
theorem g_lay : G12 S (s_P_lay S a).2 := by
  rw [s_P_lay]
  exact ite_12 (ite_12 (g_40 _ _ _ _ G12.rf) G12.rf) G12.rf
theorem image_1 (hB : BN S) : BN (s_P_image S).2 ∧ BK (s_P_image S).2 ∧ (s_P_image S).2.1 22 = 1 ∧ (s_P_image S).2.1 12 = S.1 12 ∧ (s_P_image S).1 = (s_P_image S).2.1 0 ∧ (s_P_image S).2.1 4 = (s_P_image S).2.1 0 ∧ (s_P_image S).2.1 6 = (s_P_image S).2.1 2 := by
  have c4 := bc_10 hB
  obtain ⟨⟨e0, e1, e2, e3, e4⟩, hr, hs, hf, hl⟩ := id c4
  have k0 : (s_B_become_10 S).1 0 = S.1 0 := hs 0 (by omega) (by omega)
  have k2 : (s_B_become_10 S).1 2 = S.1 2 := hs 2 (by omega) (by omega)
  have hB0 : BN (s_B_become_10 S) := hB.cg k0 (hs 1 (by omega) (by omega)) k2 (hs 3 (by omega) (by omega)) (hs 19 (by omega) (by omega)) (hf 0 (by omega)) (hf 1 (by omega)) (hf 2 (by omega)) (hf 3 (by omega))
  have hK0 : BK (s_B_become_10 S) := c4.bi hB
  have h12 : (s_B_become_10 S).1 12 = S.1 12 := hs 12 (by omega) (by omega)
  have h40 : (s_B_become_10 S).1 4 = (s_B_become_10 S).1 0 := e0.trans k0.symm
  have h62 : (s_B_become_10 S).1 6 = (s_B_become_10 S).1 2 := e2.trans k2.symm
  clear c4 hs hf hl hr e0 e1 e2 e3 e4 k0 k2
  rw [s_P_image]
  generalize s_B_become_10 S = F at hB0 hK0 h12 h40 h62 ⊢
  exact ⟨hB0, hK0, rfl, h12, rfl, h40, h62⟩
theorem undo_1 (hB : BN S) (hK : S.1 22 = 0 ∨ BK S) : BN (s_P_undo S).2 ∧ KF S (s_P_undo S).2 := by
  rw [s_P_undo]
  by_cases c : S.1 22 = 0
  · rw [if_pos c]; exact ⟨hB, KF.rf⟩
  · rw [if_neg c]
    have hk := hK.resolve_left c
    have c4 := bc_01 hk
    exact ⟨c4.bi hk, fun j q => c4.2.2.1 j (by omega) (by omega), fun r q => c4.2.2.2.1 r (by omega)⟩
theorem undo_2 (hK : BK S) (c : S.1 22 = 1) : (s_P_undo S).1 = S.1 4 ∧ (s_P_undo S).2.1 0 = S.1 4 ∧ (s_P_undo S).2.1 2 = S.1 6 := by
  have c4 := bc_01 hK
  rw [s_P_undo, if_neg (by rw [c]; decide)]
  generalize s_B_become_01 S = F at c4 ⊢
  exact ⟨c4.1.1, c4.1.1, c4.1.2.2.1⟩
theorem ne_v {k m : Int32} {v : Int} (h : ¬ k = m) (e : m.toInt = v) : ¬ k.toInt = v := fun q => h (eq32.mpr (q.trans e.symm))
theorem act_1 (hI : Inv S) : AOk S (x &&& 15) (s_L_act S x) := by
  have hx := and_15 x
  have hw := y10 x
  rw [s_L_act]
  generalize x &&& (15 : Int32) = k at hx ⊢
  by_cases c0 : k = 0
  · subst c0
    rw [if_pos rfl]
    split <;> exact ao_w hI (by decide) (by decide)
  rw [if_neg c0]
  by_cases c1 : k = 1
  · subst c1
    rw [if_pos rfl]
    split <;> exact ao_w hI (by decide) (by decide)
  rw [if_neg c1]
  by_cases c2 : k = 2
  · subst c2
    rw [if_pos rfl]
    split <;> exact ao_w hI (by decide) (by decide)
  rw [if_neg c2]
  by_cases c3 : k = 3
  · subst c3
    rw [if_pos rfl, pe, P_s]
    exact AO_i ((b_shift hI.1).2.kf.inv hI (b_shift hI.1).1) (by decide) (by decide) (by decide)
  rw [if_neg c3]
  by_cases c4 : k = 4
  · subst c4
    rw [if_pos rfl, pe, P_s]
    exact AO_i ((b_shift hI.1).2.kf.inv hI (b_shift hI.1).1) (by decide) (by decide) (by decide)
  rw [if_neg c4]
  by_cases c5 : k = 5
  · subst c5
    rw [if_pos rfl, pe, P_r]
    exact AO_i ((b_press hI.1).2.kf.inv hI (b_press hI.1).1) (by decide) (by decide) (by decide)
  rw [if_neg c5]
  by_cases c6 : k = 6
  · subst c6
    rw [if_pos rfl, pe]
    exact ao_p hI (by decide) (by decide)
  rw [if_neg c6]
  by_cases c7 : k = 7
  · subst c7
    rw [if_pos rfl, pe]
    exact ao_p hI (by decide) (by decide)
  rw [if_neg c7]
  by_cases c8 : k = 8
  · subst c8
    rw [if_pos rfl, pe]
    exact ao_p hI (by decide) (by decide)
  rw [if_neg c8]
  by_cases c9 : k = 9
  · subst c9
    rw [if_pos rfl]
    split
    · rw [pe, P_c]
      exact AO_i ((b_clear hI.1).2.kf.inv hI (b_clear hI.1).1) (by decide) (by decide) (by decide)
    · exact AO_i hI (by decide) (by decide) (by decide)
  rw [if_neg c9]
  by_cases c10 : k = 10
  · subst c10
    rw [if_pos rfl]
    exact ao_t hI hw (by decide) (by decide)
  rw [if_neg c10]
  by_cases c11 : k = 11
  · subst c11
    rw [if_pos rfl]
    exact ao_t hI hw (by decide) (by decide)
  rw [if_neg c11]
  by_cases c12 : k = 12
  · subst c12
    rw [if_pos rfl, pe]
    exact AO_i (g_row.inv hI) (by decide) (by decide) (by decide)
  rw [if_neg c12]
  by_cases c13 : k = 13
  · subst c13
    rw [if_pos rfl]
    split
    · rw [pe]
      exact AO_i (g_put.inv hI) (by decide) (by decide) (by decide)
    · rw [pe]
      exact AO_i (g_lay.inv hI) (by decide) (by decide) (by decide)
  rw [if_neg c13]
  have n0 := ne_v c0 (v := 0) (by decide)
  have n1 := ne_v c1 (v := 1) (by decide)
  have n2 := ne_v c2 (v := 2) (by decide)
  have n6 := ne_v c6 (v := 6) (by decide)
  have n7 := ne_v c7 (v := 7) (by decide)
  have n8 := ne_v c8 (v := 8) (by decide)
  have e2 : (2 : Int32).toInt = 2 := by decide
  have e6 : (6 : Int32).toInt = 6 := by decide
  have e8 : (8 : Int32).toInt = 8 := by decide
  have m1 : ¬ k ≤ 2 := by rw [le32, e2]; omega
  have m2 : ¬ (6 ≤ k ∧ k ≤ 8) := by rw [le32, le32, e6, e8]; omega
  have m3 : ¬ (k = 10 ∨ k = 11) := fun q => q.elim c10 c11
  split
  · obtain ⟨w1, w2, w3, w4, -⟩ := image_1 hI.1
    rw [pe]
    generalize s_P_image S = r at w1 w2 w3 w4 ⊢
    exact AO_i ⟨w1, Or.inr w2, w4.trans hI.2.2⟩ m1 m2 m3
  · obtain ⟨w1, w2⟩ := undo_1 hI.1 hI.2.1
    rw [pe]
    generalize s_P_undo S = r at w1 w2 ⊢
    exact AO_i (w2.inv hI w1) m1 m2 m3
end ac
