/-! an act of the tape, and what stays true of the reference's row g -/
def AV (S S' : St) : Prop := S'.2.2 = S.2.2 ∧ (∀ r : Nat, r ≠ 4 → r ≠ 5 → r ≠ 6 → S'.2.1 r = S.2.1 r) ∧ ∀ j : Nat, j ≠ 5 → j ≠ 6 → S'.1 j = S.1 j
theorem AV.trans {S S' S'' : St} (h : AV S S') (h2 : AV S' S'') : AV S S'' := ⟨h2.1.trans h.1, fun r a b c => (h2.2.1 r a b c).trans (h.2.1 r a b c), fun j a b => (h2.2.2 j a b).trans (h.2.2 j a b)⟩
theorem MV.av {S S' : St} (h : MV S S') : AV S S' := ⟨by rw [h.1], fun r _ _ _ => by rw [h.1], h.2⟩
theorem AV_sA {S : St} {i k : Nat} {x : Int32} (hi : i = 4 ∨ i = 5 ∨ i = 6) : AV S (sA S i k x) := by
  refine ⟨rfl, fun r a b c => ?_, fun _ _ _ => rfl⟩
  have : r ≠ i := by omega
  simp [sA, sF, va_up, this]
theorem sA_1 {S : St} {i k : Nat} {x : Int32} : (sA S i k x).1 = S.1 := rfl
/-- an act's step: the place not back; without the mark, or the place past the start -/
def AC (a : Int32) (S S' : St) : Prop := TI S' ∧ AV S S' ∧ (S'.1 6 = 0 ∨ a.toInt + 1 ≤ (S'.1 5).toInt) ∧ a.toInt ≤ (S'.1 5).toInt
theorem takes_6 {S : St} {c : Int32} (h : S.1 6 = 0) : (s_M_takes S c).1 6 = 0 := by
  rw [s_M_takes, if_pos h]
  simp [sV, upd]
theorem number_6 {S : St} {b : Int32} (h : S.1 6 = 0) : (s_M_number S b).2.1 6 = 0 := by
  rw [s_M_number, if_pos h, if_pos h, s_M_number_b72]
  rw [if_neg (by decide), if_pos (by simp [sV, upd]), s_M_number_b121, if_pos rfl]
  simp [sV, upd]
theorem AC_takes {a : Int32} {S Z : St} {c : Int32} (h : AC a S Z) (hc : ¬ c = -1) : AC a S (s_M_takes Z c) := by
  obtain ⟨h1, h2, h3, h4⟩ := h
  obtain ⟨q1, q2, q3⟩ := NB_takes h1 hc
  refine ⟨q1, h2.trans q2.av, ?_, by omega⟩
  rcases h3 with h | h
  · exact Or.inl (takes_6 h)
  · exact Or.inr (by omega)
theorem AC_number {a : Int32} {S Z : St} {b : Int32} (h : AC a S Z) : AC a S (s_M_number Z b).2 := by
  obtain ⟨h1, h2, h3, h4⟩ := h
  obtain ⟨q1, q2, q3⟩ := NB_number (b := b) h1
  refine ⟨q1, h2.trans q2.av, ?_, by omega⟩
  rcases h3 with h | h
  · exact Or.inl (number_6 h)
  · exact Or.inr (by omega)
theorem AC_sA {a : Int32} {S Z : St} {i k : Nat} {x : Int32} (hi : i = 4 ∨ i = 5 ∨ i = 6) (h : AC a S Z) : AC a S (sA Z i k x) := ⟨TI_sA h.1, h.2.1.trans (AV_sA hi), h.2.2.1, h.2.2.2⟩
theorem AC_140 {a : Int32} {S Z : St} {t0 t2 : Int32} (h : AC a S Z) : AC a S (s_M_act_b140 Z t0 t2) := by
  rw [s_M_act_b140]; exact AC_sA (Or.inr (Or.inr rfl)) (AC_number h)
theorem AC_117 {a : Int32} {S Z : St} {x1 x2 : Int32} (h : AC a S Z) : AC a S (s_M_act_b117 Z x1 x2) := by
  rw [s_M_act_b117]
  exact ite_P (P := fun q => AC a S q) (fun _ => AC_140 (AC_takes h (by decide))) (fun _ => AC_140 (AC_takes h (by decide)))
theorem AC_105 {a : Int32} {S Z : St} {x1 x2 : Int32} (h : AC a S Z) : AC a S (s_M_act_b105 Z x1 x2) := by
  rw [s_M_act_b105]
  exact ite_P (P := fun q => AC a S q) (fun _ => AC_117 h) (fun _ => ite_P (P := fun q => AC a S q) (fun _ => AC_117 h) (fun _ => h))
theorem AC_101 {a : Int32} {S Z : St} {x1 x2 t0 t2 : Int32} (h : AC a S Z) : AC a S (s_M_act_b101 Z x1 x2 t0 t2) := by
  rw [s_M_act_b101]; exact AC_105 (AC_sA (Or.inr (Or.inl rfl)) (AC_number h))
theorem AC_41 {Z : St} {x1 x2 t0 : Int32} (hT : TI Z) (hc : t0 = 0 ∨ (Z.1 5).toInt < (Z.1 4).toInt) : AC (Z.1 5) Z (s_M_act_b41 Z x1 x2 t0) := by
  have g : AV Z (sA (sV Z 6 t0) 4 x1.toNatClampNeg x2) := (MV_6.av).trans (AV_sA (Or.inl rfl))
  rw [s_M_act_b41]
  refine ite_P (P := fun q => AC (Z.1 5) Z q) (fun c => ?_) (fun c => ?_)
  · have k : AC (Z.1 5) Z (sV (sA (sV Z 6 t0) 4 x1.toNatClampNeg x2) 5 (Z.1 5 + 0)) := ⟨TI_a0 hT, g.trans MV_5.av, Or.inl (by rw [c]; simp [sV, sA, sF, upd]), by rw [sV_5, add0]; exact Int.le_refl _⟩
    exact ite_P (P := fun q => AC (Z.1 5) Z q) (fun _ => AC_105 k) (fun _ => ite_P (P := fun q => AC (Z.1 5) Z q) (fun _ => AC_101 (AC_takes k (by decide))) (fun _ => AC_101 (AC_takes k (by decide))))
  · have hl := hc.resolve_left c
    have e : (Z.1 5 + 1).toInt = (Z.1 5).toInt + 1 := i32_suc (by have := hT.2.2; omega)
    have k : AC (Z.1 5) Z (sV (sA (sV Z 6 t0) 4 x1.toNatClampNeg x2) 5 (Z.1 5 + 1)) := ⟨TI_a1 hT hl, g.trans MV_5.av, Or.inr (by rw [sV_5, e]; exact Int.le_refl _), by rw [sV_5, e]; omega⟩
    exact ite_P (P := fun q => AC (Z.1 5) Z q) (fun _ => AC_105 k) (fun _ => ite_P (P := fun q => AC (Z.1 5) Z q) (fun _ => AC_101 (AC_takes k (by decide))) (fun _ => AC_101 (AC_takes k (by decide))))
theorem AC_act {Z : St} {k : Int32} (hT : TI Z) : AC (Z.1 5) Z (s_M_act Z k) := by
  rw [s_M_act]
  have f : ∀ {c : Int32}, ¬ c = -1 → s_M_here Z = c → AC (Z.1 5) Z (s_M_act_b41 Z k (s_M_here Z) 1) := fun hc h => AC_41 hT (Or.inr (here_lt h hc))
  exact ite_P (P := fun q => AC (Z.1 5) Z q) (f (by decide)) (fun _ => ite_P (P := fun q => AC (Z.1 5) Z q) (f (by decide)) (fun _ => ite_P (P := fun q => AC (Z.1 5) Z q) (f (by decide)) (fun _ => ite_P (P := fun q => AC (Z.1 5) Z q) (f (by decide)) (fun _ => ite_P (P := fun q => AC (Z.1 5) Z q) (f (by decide)) (fun _ => AC_41 hT (Or.inl rfl))))))
/-! the row g -/
theorem sA_g {S : St} {k : Nat} {x : Int32} : (sA S 0 k x).2.1 0 = upd (S.2.1 0) k x := by simp [sA, sF, va_up]
theorem GI_ext {g g' : Nat → Int32} (h : ∀ k, k < 53 → g' k = g k) (hG : GI g) : GI g' := by
  obtain ⟨h1, h2, h3, h4, h5⟩ := hG
  refine ⟨by rw [h 0 (by decide)]; exact h1, by rw [h 33 (by decide)]; exact h2, by rw [h 34 (by decide)]; exact h3, fun k hk => ?_, fun k hk => ?_⟩
  · rw [h 0 (by decide)] at hk; rw [h (1 + k) (by omega)]; exact h4 k hk
  · rw [h 34 (by decide)] at hk
    have := h5 k hk
    rw [h (35 + k) (by omega), h (44 + k) (by omega)]
    unfold wl at *
    rw [h 0 (by decide)]
    exact this
theorem TV_in {t : Int32} (h : ¬ s_M_in t.toInt64 (-99 : Int64) (-20 : Int64) = 0) : TV t := by
  have q := in_1 h
  have a : (-99 : Int64).toInt = -99 := by decide
  have b : (-20 : Int64).toInt = -20 := by decide
  rw [i64_of, a, b] at q
  exact Or.inl q
theorem TV_in2 {t : Int32} (h : ¬ s_M_in t.toInt64 (5 : Int64) (99 : Int64) = 0) : TV t := by
  have q := in_1 h
  have a : (5 : Int64).toInt = 5 := by decide
  have b : (99 : Int64).toInt = 99 := by decide
  rw [i64_of, a, b] at q
  exact Or.inr q
theorem upd_ne {f : Nat → Int32} {k j : Nat} {x : Int32} (h : j ≠ k) : upd f k x j = f j := by simp [upd, h]
theorem upd_eq {f : Nat → Int32} {k : Nat} {x : Int32} : upd f k x k = x := by simp [upd]
/-- one wheel more -/
theorem GI_add {g : Nat → Int32} {t : Int32} (hG : GI g) (c : ¬ g 0 = 16) (ht : TV t) : GI (upd (upd (upd g (1 + (g 0).toNatClampNeg) t) (17 + (g 0).toNatClampNeg) 0) 0 (g 0 + 1)) := by
  have hw := gi_w hG c
  obtain ⟨h1, h2, h3, h4, h5⟩ := hG
  have e := i32_suc (x := g 0) (by omega)
  have en := i32_tn (x := g 0) h1.1
  have hn : (g 0).toNatClampNeg < 16 := by have := hw.2; omega
  refine ⟨by rw [upd_eq, e]; have := hw.2; omega, ?_, ?_, fun k hk => ?_, fun k hk => ?_⟩
  · rw [upd_ne (by omega), upd_ne (by omega), upd_ne (by omega)]; exact h2
  · rw [upd_ne (by omega), upd_ne (by omega), upd_ne (by omega)]; exact h3
  · rw [upd_eq, e] at hk
    rw [upd_ne (by omega), upd_ne (by omega)]
    rcases Nat.lt_or_ge k (g 0).toNatClampNeg with q | q
    · rw [upd_ne (by omega)]; exact h4 k (by omega)
    · rw [show k = (g 0).toNatClampNeg by omega, upd_eq]; exact ht
  · rw [upd_ne (by omega), upd_ne (by omega), upd_ne (by omega)] at hk
    rw [upd_ne (by omega), upd_ne (by omega), upd_ne (by omega), upd_ne (by omega), upd_ne (by omega), upd_ne (by omega)]
    obtain ⟨a, b⟩ := h5 k hk
    unfold wl at *
    rw [upd_eq, e]
    exact ⟨⟨a.1, by omega⟩, b.1, by omega⟩
theorem g_tn {g : Nat → Int32} {c : Int32} {C : Nat} {k : Nat} (hC : c.toInt = (C : Int)) (hb : C < 100) (h : 0 ≤ (g k).toInt ∧ (g k).toInt < 16) : (c + g k).toNatClampNeg = C + (g k).toNatClampNeg := ad_tn hC h.1 (by omega)
theorem wheel30 {Z : St} {t : Int32} (hG : GI (Z.2.1 0)) (c : ¬ Z.2.1 0 0 = 16) : s_M_wheel_b30 Z t = (Z.2.1 0 0, sA (sA (sA Z 0 (1 + (Z.2.1 0 0).toNatClampNeg) t) 0 (17 + (Z.2.1 0 0).toNatClampNeg) 0) 0 0 (Z.2.1 0 0 + 1)) := by
  have hw := gi_w hG c
  have e1 : ((1 : Int32) + Z.2.1 0 0).toNatClampNeg = 1 + (Z.2.1 0 0).toNatClampNeg := g_tn (C := 1) (by decide) (by decide) hw
  have e2 : ((17 : Int32) + Z.2.1 0 0).toNatClampNeg = 17 + (Z.2.1 0 0).toNatClampNeg := g_tn (C := 17) (by decide) (by decide) hw
  rw [s_M_wheel_b30, if_neg c, e1, e2, sA_rd (by omega), sA_rd (by omega)]
theorem GI_wheel {S : St} {t : Int32} (hG : GI (S.2.1 0)) : GI ((s_M_wheel S t).2.2.1 0) := by
  have k : TV t → GI ((s_M_wheel_b30 S t).2.2.1 0) := fun ht => by
    by_cases c : S.2.1 0 0 = 16
    · rw [s_M_wheel_b30, if_pos c]; exact hG
    · rw [wheel30 hG c]
      show GI ((sA (sA (sA S 0 (1 + (S.2.1 0 0).toNatClampNeg) t) 0 (17 + (S.2.1 0 0).toNatClampNeg) 0) 0 0 (S.2.1 0 0 + 1)).2.1 0)
      rw [sA_g, sA_g, sA_g]
      exact GI_add hG c ht
  rw [s_M_wheel]
  refine ite_P (P := fun q : Int32 × St => GI (q.2.2.1 0)) (fun _ => ?_) (fun c => k (TV_in c))
  exact ite_P (P := fun q : Int32 × St => GI (q.2.2.1 0)) (fun _ => hG) (fun c => k (TV_in2 c))
theorem GI_shift {S : St} {w v : Int32} (hG : GI (S.2.1 0)) : GI ((s_M_shift S w v).2.2.1 0) := by
  rw [s_M_shift]
  refine ite_P (P := fun q : Int32 × St => GI (q.2.2.1 0)) (fun _ => hG) (fun c => ?_)
  refine ite_P (P := fun q : Int32 × St => GI (q.2.2.1 0)) (fun _ => hG) (fun _ => ?_)
  have hw := isW16 hG c
  have e : ((17 : Int32) + w).toNatClampNeg = 17 + w.toNatClampNeg := ad_tn (C := 17) (by decide) hw.1 (by have := hw.2; omega)
  have en := i32_tn (x := w) hw.1
  have h16 := hw.2
  show GI ((s_M_becomes S ((17 : Int32) + w) v).2.2.1 0)
  rw [s_M_becomes, e]
  show GI ((sA S 0 (17 + w.toNatClampNeg) v).2.1 0)
  rw [sA_g]
  obtain ⟨h1, h2, h3, h4, h5⟩ := hG
  refine ⟨by rw [upd_ne (by omega)]; exact h1, by rw [upd_ne (by omega)]; exact h2, by rw [upd_ne (by omega)]; exact h3, fun k hk => ?_, fun k hk => ?_⟩
  · rw [upd_ne (by omega)] at hk
    rw [upd_ne (by omega)]; exact h4 k hk
  · rw [upd_ne (by omega)] at hk
    rw [upd_ne (by omega), upd_ne (by omega)]
    unfold wl at *
    rw [upd_ne (by omega)]
    exact h5 k hk
theorem GI_pressure {S : St} {v : Int32} (hG : GI (S.2.1 0)) : GI ((s_M_pressure S v).2.2.1 0) := by
  rw [s_M_pressure]
  refine ite_P (P := fun q : Int32 × St => GI (q.2.2.1 0)) (fun _ => hG) (fun c => ?_)
  have q := in_1 c
  have e2 : (2 : Int64).toInt = 2 := by decide
  rw [i64_of, z64, e2] at q
  show GI ((sA S 0 33 v).2.1 0)
  rw [sA_g]
  obtain ⟨h1, h2, h3, h4, h5⟩ := hG
  refine ⟨by rw [upd_ne (by decide)]; exact h1, by rw [upd_eq]; exact q, by rw [upd_ne (by decide)]; exact h3, fun k hk => ?_, fun k hk => ?_⟩
  · rw [upd_ne (by decide)] at hk
    rw [upd_ne (by omega)]; exact h4 k hk
  · rw [upd_ne (by decide)] at hk
    rw [upd_ne (by omega), upd_ne (by omega)]
    unfold wl at *
    rw [upd_ne (by decide)]
    exact h5 k hk
theorem GI_clear {S : St} (hG : GI (S.2.1 0)) : GI ((s_M_clear S).2.2.1 0) := by
  rw [s_M_clear]
  show GI ((sA S 0 34 0).2.1 0)
  rw [sA_g]
  obtain ⟨h1, h2, h3, h4, h5⟩ := hG
  have z : (0 : Int32).toInt = 0 := by decide
  refine ⟨by rw [upd_ne (by decide)]; exact h1, by rw [upd_ne (by decide)]; exact h2, by rw [upd_eq, z]; omega, fun k hk => ?_, fun k hk => ?_⟩
  · rw [upd_ne (by decide)] at hk
    rw [upd_ne (by omega)]; exact h4 k hk
  · rw [upd_eq, z] at hk; omega
/-- the row g of one pair more -/
theorem GI_pr {g : Nat → Int32} {a b : Int32} (hG : GI g) (c : ¬ g 34 = 9) (ha : wl g a) (hb : wl g b) : GI (upd (upd (upd g (35 + (g 34).toNatClampNeg) a) (44 + (g 34).toNatClampNeg) b) 34 (g 34 + 1)) := by
  have h9 := gi_m hG c
  obtain ⟨h1, h2, h3, h4, h5⟩ := hG
  have e := i32_suc (x := g 34) (by omega)
  have en := i32_tn (x := g 34) h3.1
  have q9 := h9.2
  refine ⟨by rw [upd_ne (by omega), upd_ne (by omega), upd_ne (by omega)]; exact h1, by rw [upd_ne (by omega), upd_ne (by omega), upd_ne (by omega)]; exact h2, by rw [upd_eq, e]; omega, fun k hk => ?_, fun k hk => ?_⟩
  · rw [upd_ne (by omega), upd_ne (by omega), upd_ne (by omega)] at hk
    rw [upd_ne (by omega), upd_ne (by omega), upd_ne (by omega)]; exact h4 k hk
  · rw [upd_eq, e] at hk
    unfold wl at *
    rw [upd_ne (show 0 ≠ 34 by decide), upd_ne (show 0 ≠ 44 + (g 34).toNatClampNeg by omega), upd_ne (show 0 ≠ 35 + (g 34).toNatClampNeg by omega)]
    rcases Nat.lt_or_ge k (g 34).toNatClampNeg with q | q
    · rw [upd_ne (by omega), upd_ne (by omega), upd_ne (by omega), upd_ne (by omega), upd_ne (by omega), upd_ne (by omega)]
      exact h5 k (by omega)
    · rw [show k = (g 34).toNatClampNeg by omega]
      refine ⟨?_, ?_⟩
      · rw [upd_ne (by omega), upd_ne (by omega), upd_eq]; exact ha
      · rw [upd_ne (by omega), upd_eq]; exact hb
theorem pair_eq {S : St} {a b : Int32} (hG : GI (S.2.1 0)) (c0 : ¬ s_M_isPair S a b = 0) (c : ¬ S.2.1 0 34 = 9) : s_M_pair S a b = (S.2.1 0 34 + 1, sA (sA (sA S 0 (35 + (S.2.1 0 34).toNatClampNeg) a) 0 (44 + (S.2.1 0 34).toNatClampNeg) b) 0 34 (S.2.1 0 34 + 1)) := by
  have h9 := gi_m hG c
  have e1 : ((35 : Int32) + S.2.1 0 34).toNatClampNeg = 35 + (S.2.1 0 34).toNatClampNeg := g_tn (C := 35) (by decide) (by decide) ⟨h9.1, by have := h9.2; omega⟩
  have e2 : ((44 : Int32) + S.2.1 0 34).toNatClampNeg = 44 + (S.2.1 0 34).toNatClampNeg := g_tn (C := 44) (by decide) (by decide) ⟨h9.1, by have := h9.2; omega⟩
  rw [s_M_pair, if_neg c0, if_neg c, e1]
  have r1 : (sA S 0 (35 + (S.2.1 0 34).toNatClampNeg) a).2.1 0 34 = S.2.1 0 34 := sA_rd (by omega)
  rw [r1, e2, sA_rs]
  have r2 : (sA (sA S 0 (35 + (S.2.1 0 34).toNatClampNeg) a) 0 (44 + (S.2.1 0 34).toNatClampNeg) b).2.1 0 34 = S.2.1 0 34 := (sA_rd (by omega)).trans r1
  rw [r2]
theorem GI_pair {S : St} {a b : Int32} (hG : GI (S.2.1 0)) : GI ((s_M_pair S a b).2.2.1 0) := by
  by_cases c0 : s_M_isPair S a b = 0
  · rw [s_M_pair, if_pos c0]; exact hG
  · by_cases c : S.2.1 0 34 = 9
    · rw [s_M_pair, if_neg c0, if_pos c]; exact hG
    · rw [pair_eq hG c0 c]
      show GI ((sA (sA (sA S 0 (35 + (S.2.1 0 34).toNatClampNeg) a) 0 (44 + (S.2.1 0 34).toNatClampNeg) b) 0 34 (S.2.1 0 34 + 1)).2.1 0)
      rw [sA_g, sA_g, sA_g]
      exact GI_pr hG c (isP hG c0).1 (isP hG c0).2
theorem w41_of {k m : Int32} (h0 : 0 ≤ k.toInt) (c : ¬ m ≤ k) (hm : m.toInt ≤ 41) : w41 k := by
  rw [Int32.le_iff_toInt_le] at c
  exact ⟨h0, by omega⟩
/-! copies -/
theorem cp_g {a b : Nat} {x : Int32} {S : St} (h : b ≠ 0) : (sA S b a x).2.1 0 = S.2.1 0 := by simp [sA, sF, va_up, Ne.symm h]
theorem cga_b : ∀ (n : Nat) (Z : St) (x : Int32), (s_M_copies_g_ahead_b2 n Z x).2.1 0 = Z.2.1 0 := by
  intro n
  induction n with
  | zero => intro Z x; rfl
  | succ n ih =>
    intro Z x
    rw [s_M_copies_g_ahead_b2]
    exact ite_P (P := fun q : St => q.2.1 0 = Z.2.1 0) (fun _ => rfl) (fun _ => (ih _ _).trans (cp_g (by decide)))
theorem cga_g {S : St} : (s_M_copies_g_ahead S).2.1 0 = S.2.1 0 := by rw [s_M_copies_g_ahead]; exact cga_b _ _ _
def RD (n : Nat) (Z : St) (x1 x2 : Int32) : Prop := 0 < n ∧ (0 ≤ x1.toInt ∧ x1.toInt ≤ 41) ∧ (x2 = 0 ∨ (2 * x1.toInt ≤ (Z.1 5).toInt ∧ 41 - x1.toInt < (n : Int)))
theorem RD_z {Z : St} {x1 x2 : Int32} : ¬ RD 0 Z x1 x2 := fun h => Nat.lt_irrefl 0 h.1
theorem RD_41 {n : Nat} {Z : St} {x1 x2 : Int32} (h : RD n Z x1 x2) (hT : TI Z) (c : ¬ x2 = 0) : w41 x1 := by
  obtain ⟨-, h2, h3⟩ := h
  have q := h3.resolve_left c
  have := hT.2.1
  have := hT.2.2
  exact ⟨h2.1, by omega⟩
theorem RD_0 {n : Nat} {Z Z' : St} {x1 x2 : Int32} (h : RD (n + 1) Z x1 x2) (hT : TI Z) (c : ¬ x2 = 0) : RD n Z' (x1 + 1) 0 := by
  have hw := RD_41 h hT c
  have h1 := hw.1
  have h2 := hw.2
  obtain ⟨q1, q2, q3⟩ := h
  have q := q3.resolve_left c
  have e := i32_suc (x := x1) (by omega)
  exact ⟨by omega, by rw [e]; omega, Or.inl rfl⟩
theorem RD_1 {n : Nat} {Z Z1 : St} {x1 x2 : Int32} (h : RD (n + 1) Z x1 x2) (hT : TI Z) (c : ¬ x2 = 0) (hA : AC (Z.1 5) Z Z1) (c6 : ¬ Z1.1 6 = 0) (hl : (Z1.1 5).toInt < (Z1.1 4).toInt) : RD n (sV Z1 5 (Z1.1 5 + 1)) (x1 + 1) 1 := by
  have hw := RD_41 h hT c
  have h1 := hw.1
  have h2 := hw.2
  obtain ⟨q1, q2, q3⟩ := h
  have q := q3.resolve_left c
  have e := i32_suc (x := x1) (by omega)
  have hT1 := hA.1
  have p := hA.2.2.1.resolve_left c6
  have e2 := i32_suc (x := Z1.1 5) (by have := hT1.2.2; omega)
  have b1 := hT1.2.2
  refine ⟨by omega, by rw [e]; omega, Or.inr ?_⟩
  rw [sV_5, e, e2]
  exact ⟨by omega, by omega⟩
theorem TI_z {S : St} (h : 0 ≤ (S.1 4).toInt ∧ (S.1 4).toInt ≤ 80) : TI (sV S 5 0) := by
  have e5 : (sV S 5 0).1 5 = 0 := sV_5
  have e4 : (sV S 5 0).1 4 = S.1 4 := by simp [sV, upd]
  have z : (0 : Int32).toInt = 0 := by decide
  unfold TI
  rw [e5, e4, z]
  exact ⟨Int.le_refl _, h.1, h.2⟩
theorem act_G {Z : St} {k x : Int32} (hT : TI Z) (hZ : GI (Z.2.1 0)) : GI ((sV (s_M_act Z k) 5 x).2.1 0) := by
  show GI ((s_M_act Z k).2.1 0)
  rw [(AC_act (k := k) hT).2.1.2.1 0 (by decide) (by decide) (by decide)]
  exact hZ
theorem RD_in {S : St} : RD 43 (sV (sV S 5 0) 6 1) 0 1 := ⟨by decide, ⟨by decide, by decide⟩, Or.inr ⟨by rw [sV_65, sV_5]; decide, by decide⟩⟩
theorem AC_T {Z : St} {k : Int32} (hT : TI Z) : TI (s_M_act Z k) := (AC_act hT).1
/-! rows -/
def RZ (f : Nat → Int32) : Prop := ∀ r : Nat, r < 3 → -1 ≤ (f r).toInt ∧ (f r).toInt ≤ 20
theorem it_ix {r j : Int32} (hr : 0 ≤ r.toInt ∧ r.toInt < 3) (h0 : 0 ≤ j.toInt) (h1 : j.toInt < 20) : vp_in (((20 : Int32) * r) + j) 60 := by
  have e20 : (20 : Int32).toInt = 20 := by decide
  have e : ((20 : Int32) * r).toInt = 20 * r.toInt := by
    rw [Int32.toInt_mul, e20]
    exact Int.bmod_eq_of_le (by omega) (by omega)
  refine vin_k ?_
  rw [i32_add (by omega) (by omega), e]
  omega
theorem n_lt {x M : Int32} {N : Int} (c : ¬ M ≤ x) (h : M.toInt ≤ N) : x.toInt < N := by
  rw [Int32.le_iff_toInt_le] at c; omega
theorem rw_tn {r : Int32} (hr : 0 ≤ r.toInt ∧ r.toInt < 3) : r.toNatClampNeg < 3 := by have := i32_tn hr.1; omega
theorem i32_pred {x : Int32} (h : -2147483648 < x.toInt) : (x - 1).toInt = x.toInt - 1 := by
  have o : (1 : Int32).toInt = 1 := by decide
  have := i32_hi x
  rw [Int32.toInt_sub, o]
  exact Int.bmod_eq_of_le (by omega) (by omega)
theorem pt_in {S : St} {r i : Int32} (hR : RZ (S.2.1 7)) (hr : 0 ≤ r.toInt ∧ r.toInt < 3) (c : ¬ s_M_in i.toInt64 (0 : Int64) ((S.2.1 7 r.toNatClampNeg) - (1 : Int32)).toInt64 = 0) : 0 ≤ i.toInt ∧ i.toInt < (S.2.1 7 r.toNatClampNeg).toInt := by
  have q := in_1 c
  have h := hR _ (rw_tn hr)
  rw [i64_of, i64_of, z64, i32_pred (by omega)] at q
  omega
