/-! areSets answers true -/
section ss
variable {Z S : St} {x1 x2 x3 x4 x5 x6 k uw t : Int32}
/-- a search's own places apart, nothing is touched -/
def FS (S S' : St) : Prop := (∀ j : Nat, j < 25 → S'.1 j = S.1 j) ∧ S'.2 = S.2
theorem FS.rf : FS S S := ⟨fun _ _ => rfl, rfl⟩
theorem FS.tr {S' S'' : St} (h : FS S S') (h' : FS S' S'') : FS S S'' := ⟨fun j hj => (h'.1 j hj).trans (h.1 j hj), h'.2.trans h.2⟩
theorem rem95 (x : Int32) (h : 0 ≤ x.toInt ∧ x.toInt ≤ 127) : 5 ≤ ((5 : Int32) + (x - x / (95 : Int32) * (95 : Int32))).toInt ∧ ((5 : Int32) + (x - x / (95 : Int32) * (95 : Int32))).toInt ≤ 99 := by
  have e5 : (5 : Int32).toInt = 5 := by decide
  have e95 : (95 : Int32).toInt = 95 := by decide
  have e := i32_rem (x := x) (y := (95 : Int32)) (by rw [e95]; decide)
  rw [e95, Int.tmod_eq_emod_of_nonneg h.1] at e
  have b1 := Int.emod_nonneg x.toInt (show (95 : Int) ≠ 0 by decide)
  have b2 := Int.emod_lt_of_pos x.toInt (show (0 : Int) < 95 by decide)
  rw [i32_add (by rw [e5, e]; omega) (by rw [e5, e]; omega), e5, e]
  omega
theorem pass79 {k36 : St → Int32 → Int32 → Int32 → Int32 → Int32 → Int32 × St} (h : OW x2 x3) (hk : k18 x5) : s_L_areSets_b79 k36 Z x1 x2 x3 (s_P_most Z x2 x3) x5 (s_P_together Z x2 x3 x5) = k36 Z x1 x2 x3 (s_P_most Z x2 x3) (x5 + 1) := by
  have tg := tog_4 (S := Z) h hk
  obtain ⟨m1, m2⟩ := mst (S := Z) h
  have hd := div_v h hk
  have c1 := can_1 h
  have t1 : ¬ s_T_canBe x2 x3 x5 = 0 → s_P_together Z x2 x3 x5 = 1 := fun q => by
    rcases tg with ⟨a, -, -⟩ | ⟨-, b, -⟩ | ⟨-, b, -⟩ | ⟨-, b, -⟩
    · exact a
    · exact absurd b q
    · exact absurd b q
    · exact absurd b q
  have t2 : s_P_together Z x2 x3 x5 = 1 → ¬ s_T_canBe x2 x3 x5 = 0 := fun q => by
    rcases tg with ⟨-, b, -⟩ | ⟨a, -, -⟩ | ⟨a, -, -⟩ | ⟨a, -, -⟩
    · exact b
    · rw [a] at q; exact absurd q (by decide)
    · rw [a] at q; exact absurd q (by decide)
    · rw [a] at q; exact absurd q (by decide)
  have e117 : s_L_areSets_b117 k36 Z x1 x2 x3 (s_P_most Z x2 x3) x5 (s_P_together Z x2 x3 x5) = k36 Z x1 x2 x3 (s_P_most Z x2 x3) (x5 + 1) := by
    have e135 : ∀ q : Int32, (q = 1 ∧ ¬ s_T_divides x2 x3 x5 = 0) ∨ (q = 0 ∧ s_T_divides x2 x3 x5 = 0) → s_L_areSets_b135 k36 Z x1 x2 x3 (s_P_most Z x2 x3) x5 q = k36 Z x1 x2 x3 (s_P_most Z x2 x3) (x5 + 1) := by
      intro q hq
      rw [s_L_areSets_b135]
      rcases hq with ⟨rfl, d⟩ | ⟨rfl, d⟩
      · rw [if_pos (Classical.not_not.mp (fun z => d (hd.mpr z))), s_L_areSets_b151, if_pos rfl]
      · rw [if_neg (hd.mp d), s_L_areSets_b151, if_pos rfl]
    rw [s_L_areSets_b117, s_L_areSets_b130]
    rcases tg with ⟨a, -, d⟩ | ⟨a, -, d⟩ | ⟨a, -, d⟩ | ⟨a, -, d⟩
    · rw [a, if_pos rfl]; exact e135 1 (Or.inl ⟨rfl, d⟩)
    · rw [a, if_neg (by decide), if_neg (by decide)]; exact e135 0 (Or.inr ⟨rfl, d⟩)
    · rw [a, if_neg (by decide), if_pos rfl]; exact e135 1 (Or.inl ⟨rfl, d⟩)
    · rw [a, if_neg (by decide), if_neg (by decide)]; exact e135 0 (Or.inr ⟨rfl, d⟩)
  have e104 : s_L_areSets_b104 k36 Z x1 x2 x3 (s_P_most Z x2 x3) x5 (s_P_together Z x2 x3 x5) = k36 Z x1 x2 x3 (s_P_most Z x2 x3) (x5 + 1) := by
    rw [s_L_areSets_b104, e117]
    by_cases c : x5 ≤ s_P_most Z x2 x3
    · rw [if_pos c]
    · rw [if_neg c]
      rw [le32] at c
      rw [if_neg (fun q => t2 q (m2 x5 (by omega) hk.2))]
  have e91 : s_L_areSets_b91 k36 Z x1 x2 x3 (s_P_most Z x2 x3) x5 (s_P_together Z x2 x3 x5) = k36 Z x1 x2 x3 (s_P_most Z x2 x3) (x5 + 1) := by
    rw [s_L_areSets_b91, e104]
    by_cases c : x5 = s_P_most Z x2 x3
    · rw [if_pos c, if_pos (t1 (by rw [c]; exact m1))]
    · rw [if_neg c]
  rw [s_L_areSets_b79, e91]
  by_cases c : x5 = 1
  · rw [if_pos c, if_pos (t1 (by rw [c]; exact c1))]
  · rw [if_neg c]
theorem pass36 (h : OW x2 x3) : ∀ (n : Nat) (x5 : Int32), 1 ≤ x5.toInt → x5.toInt ≤ 9 → 9 - x5.toInt < (n : Int) → s_L_areSets_b36 n Z x1 x2 x3 (s_P_most Z x2 x3) x5 = s_L_areSets_b165 4 Z x1 x2 x3 0 := by
  intro n
  have e9 : (9 : Int32).toInt = 9 := by decide
  induction n with
  | zero => intro x5 h1 h2 h3; omega
  | succ n ih =>
    intro x5 h1 h2 h3
    rw [s_L_areSets_b36]
    by_cases c : (9 : Int32) ≤ x5
    · rw [if_pos c]
    · rw [if_neg c]
      rw [le32, e9] at c
      have hk : k18 x5 := ⟨h1, by omega⟩
      have es : (x5 + 1).toInt = x5.toInt + 1 := i32_suc (by omega)
      have e79 := pass79 (Z := Z) (x1 := x1) (k36 := fun Z x1 x2 x3 x4 x5 => s_L_areSets_b36 n Z x1 x2 x3 x4 x5) h hk
      rw [e79]
      have i := ih (x5 + 1) (by omega) (by omega) (by omega)
      rcases tog_4 (S := Z) h hk with ⟨a, -, -⟩ | ⟨a, -, -⟩ | ⟨a, -, -⟩ | ⟨a, -, -⟩
      · rw [a, if_pos rfl]; exact i
      · rw [a, if_neg (by decide), if_pos rfl]; exact i
      · rw [a, if_neg (by decide), if_neg (by decide), if_pos rfl]; exact i
      · rw [a, if_neg (by decide), if_neg (by decide), if_neg (by decide), if_pos rfl]; exact i
theorem pass174 {kc : St → Int32 → Int32 → Int32 → Int32 → Int32 × St} (h : OW x2 x3) (hd : 0 ≤ x5.toInt ∧ x5.toInt ≤ 2) : ∀ (n : Nat) (x6 : Int32), 0 ≤ x6.toInt → x6.toInt ≤ 3 → 3 - x6.toInt < (n : Int) → s_L_areSets_b174 kc n Z x1 x2 x3 x5 x6 = kc Z x1 x2 x3 (x5 + 1) := by
  intro n
  have e3 : (3 : Int32).toInt = 3 := by decide
  have e1 : (1 : Int64).toInt = 1 := by decide
  induction n with
  | zero => intro x6 h1 h2 h3; omega
  | succ n ih =>
    intro x6 h1 h2 h3
    rw [s_L_areSets_b174]
    by_cases c : (3 : Int32) ≤ x6
    · rw [if_pos c]
    · rw [if_neg c]
      rw [le32, e3] at c
      have es : (x6 + 1).toInt = x6.toInt + 1 := i32_suc (by omega)
      have i := ih (x6 + 1) (by omega) (by omega) (by omega)
      by_cases d : x5 = x6
      · subst d
        rw [if_pos rfl, pla_same, if_pos (lcmp_eq.mpr rfl)]; exact i
      · rw [if_neg d]
        obtain ⟨p, q, p0, q0, p1, q1, f1, f2, f3, f4⟩ := pla_g (S := Z) h hd ⟨h1, by omega⟩ d
        rw [if_neg (by rw [lcmp_lt, lt64, f1, e1]; omega)]
        have go : ∀ u : Int32, s_L_areSets_b264 kc (fun Z x1 x2 x3 x5 x6 => s_L_areSets_b174 kc n Z x1 x2 x3 x5 x6) Z x1 x2 x3 x5 x6 (s_P_planets Z x2 x3 x5 x6 0) (s_P_planets Z x2 x3 x5 x6 1) ((3 : Int32) - x5 - x6) u u = kc Z x1 x2 x3 (x5 + 1) := by
          intro u
          rw [s_L_areSets_b264, if_pos rfl, if_pos (by rw [lcmp_eq, eq64, absL (p := q) (by rw [f4]; by_cases z : x6 = 1 <;> simp [z]) (by omega), f1]), if_pos (by rw [lcmp_eq, eq64, absL (p := p) (by rw [f3]; by_cases z : x6 = 1 <;> simp [z]) (by omega), f2])]
          exact i
        by_cases z : x6 = 1
        · rw [if_pos z] at f3
          rw [if_neg (by rw [lcmp_ge, le64, f3, z64]; omega), s_L_areSets_b253, if_pos z]
          exact go 1
        · rw [if_neg z] at f3
          rw [if_pos (by rw [lcmp_ge, le64, f3, z64]; omega), s_L_areSets_b253, if_neg z]
          exact go 0
theorem pass165 (h : OW x2 x3) : ∀ (n : Nat) (x5 : Int32), 0 ≤ x5.toInt → x5.toInt ≤ 3 → 3 - x5.toInt < (n : Int) → s_L_areSets_b165 n Z x1 x2 x3 x5 = s_L_areSets_b361 Z ((((100 : Int32) * ((2 : Int32) + ((x1 >>> ((5 : Int32) &&& 31)) &&& (15 : Int32)))) + (1 : Int32)) + ((x1 >>> ((9 : Int32) &&& 31)) &&& (3 : Int32))) ((x1 >>> ((11 : Int32) &&& 31)) &&& (127 : Int32)) ((1 : Int32) + ((x1 >>> ((4 : Int32) &&& 31)) &&& (3 : Int32))) := by
  intro n
  have e3 : (3 : Int32).toInt = 3 := by decide
  induction n with
  | zero => intro x5 h1 h2 h3; omega
  | succ n ih =>
    intro x5 h1 h2 h3
    rw [s_L_areSets_b165]
    by_cases c : (3 : Int32) ≤ x5
    · rw [if_pos c]
    · rw [if_neg c]
      rw [le32, e3] at c
      have es : (x5 + 1).toInt = x5.toInt + 1 := i32_suc (by omega)
      rw [pass174 h ⟨h1, by omega⟩ 4 0 (by decide) (by decide) (by decide)]
      exact ih (x5 + 1) (by omega) (by omega) (by omega)
theorem tt_eq {s p : Int32} : s_T_teethTogether s p k = (2 : Int32) * s + (k + (2 : Int32)) * p := by
  rw [s_T_teethTogether, s_T_ring, Int32.add_mul]
  have e : (2 : Int32) * s = s + s := by
    have e2 : (2 : Int32) = 1 + 1 := by decide
    rw [e2, Int32.add_mul, Int32.one_mul]
  rw [e]
  ac_rfl
theorem FS_sea (h : SQ3 uw t k) {v : Int32} (hv : 0 ≤ v.toInt ∧ v.toInt ≤ 3) : FS Z (s_P_searched Z 1030 k uw t v).2 := sea_fr h hv
theorem pass361 (h : SQ3 uw t k) (ht : t.toInt ≤ 127) : (s_L_areSets_b361 Z uw t k).1 = 1 ∧ FS Z (s_L_areSets_b361 Z uw t k).2 := by
  have e1 : (1 : Int32).toInt = 1 := by decide
  have e441 : (441 : Int32).toInt = 441 := by decide
  have et : (t + 1).toInt = t.toInt + 1 := by have := h.2.2.1; exact i32_suc (by omega)
  have h' : SQ3 uw (t + 1) k := ⟨h.1, h.2.1, by have := h.2.2.1; omega, h.2.2.2⟩
  rw [s_L_areSets_b361]
  have f0 := FS_sea (Z := Z) h (v := 0) (by decide)
  generalize hZ1 : (s_P_searched Z 1030 k uw t 0).2 = Z1 at f0 ⊢
  have f1 := FS_sea (Z := Z1) h (v := 1) (by decide)
  by_cases c : (s_P_searched Z 1030 k uw t 0).1 = 0
  · rw [if_pos c, if_pos (sea_0 h c)]
    exact ⟨rfl, f0.tr f1⟩
  · rw [if_neg c]
    obtain ⟨s, p, hs, hp, hn, hc, hh⟩ := sea_s h c
    rw [(hh Z1).1]
    generalize (s_P_searched Z1 1030 k uw t 1).2 = Z2 at f1 ⊢
    have f2 := FS_sea (Z := Z2) h (v := 2) (by decide)
    rw [(hh Z2).2.1]
    generalize (s_P_searched Z2 1030 k uw t 2).2 = Z3 at f2 ⊢
    have f3 := FS_sea (Z := Z3) h (v := 3) (by decide)
    have tg : s_P_together Z3 s p k = 1 := by
      rcases tog_4 (S := Z3) (hs.ow hp) h.hk with ⟨a, -, -⟩ | ⟨-, b, -⟩ | ⟨-, b, -⟩ | ⟨-, b, -⟩
      · exact a
      · exact absurd b hc
      · exact absurd b hc
      · exact absurd b hc
    rw [s_L_areSets_b439, if_pos tg, if_pos ((hh Z3).2.2.trans tt_eq), if_neg (fl_ok h hs hp hn)]
    generalize (s_P_searched Z3 1030 k uw t 3).2 = Z4 at f3 ⊢
    have f4 := FS_sea (Z := Z4) h' (v := 0) (by decide)
    obtain ⟨l1, l2, l3⟩ := sea_le (Z := Z) (Y := Z4) h h' (by omega)
    rw [if_neg (by rw [lt32]; omega), if_neg (by rw [lt32, e441]; omega)]
    exact ⟨rfl, (((f0.tr f1).tr f2).tr f3).tr f4⟩
theorem areSets_1 : (s_L_areSets S x1).1 = 1 ∧ FS S (s_L_areSets S x1).2 := by
  have h1 := rem95 _ (and_127 (x1 >>> ((3 : Int32) &&& 31)))
  have h2 := rem95 _ (and_127 (x1 >>> ((10 : Int32) &&& 31)))
  have ht := and_127 (x1 >>> ((11 : Int32) &&& 31))
  rw [s_L_areSets, pass36 ⟨h1, h2⟩ 10 1 (by decide) (by decide) (by decide), pass165 ⟨h1, h2⟩ 4 0 (by decide) (by decide) (by decide)]
  exact pass361 (sq3_of x1) ht.2
end ss
