/-! searched: the two walks -/
section se2
variable {Z Y : St} {k u w t s p : Int32}
theorem bet_eq (hq : QS k u w t Z Y) (hf : ¬ Z.1 29 = 0) (hu : UW u w) (hk : k18 k) (hs : S6 s) (hp : S6 p) (Y' : St) (y2 : Y'.1 2 = Y.1 2) (y3 : Y'.1 3 = Y.1 3) : s_H_isBetter Z s p = s_M_isBetter Y' s p k u w := by
  obtain ⟨-, ⟨h25, h26, h27, h28⟩, -, hd⟩ := hq
  obtain ⟨d1, d2, d3, d4⟩ := hd.resolve_left hf
  have hm := mis_c h26 h27 hu hs hp
  have ho := off_m hu hs hp
  have hr := mI_r hu hs hp
  have hm2 := mis_c h26 h27 hu (s := Y.1 2) (p := Y.1 3) d3 d4
  have ho2 := off_m hu (s := Y.1 2) (p := Y.1 3) d3 d4
  have hr2 := mI_r hu (s := Y.1 2) (p := Y.1 3) d3 d4
  have b1 := tt_b hs hp hk
  have b2 := tt_b (s := Y.1 2) (p := Y.1 3) d3 d4 hk
  rw [s_H_isBetter, s_M_isBetter, h25, d1, d2, y2, y3, tt_eq, tt_eq]
  unfold S6 at hs hp
  generalize hA : mI s.toInt p.toInt u.toInt w.toInt = A at *
  generalize hB : mI (Y.1 2).toInt (Y.1 3).toInt u.toInt w.toInt = B at *
  generalize s_M_teethOf s p k = T1 at *
  generalize s_M_teethOf (Y.1 2) (Y.1 3) k = T2 at *
  generalize s_H_miss Z s p = m1 at *
  generalize s_H_miss Z (Y.1 2) (Y.1 3) = m2 at *
  generalize s_M_off s p u w = o1 at *
  generalize s_M_off (Y.1 2) (Y.1 3) u w = o2 at *
  generalize Y.1 2 = bs at *
  have q1 := mul_bd (a := A) (t := bs.toInt) (M := 23760) (N := 60) (by omega) (by omega) (by omega)
  have q2 := mul_bd (a := B) (t := s.toInt) (M := 23760) (N := 60) (by omega) (by omega) (by omega)
  have e1 : (m1 * bs).toInt = A * bs.toInt := by rw [i32_mul (by rw [hm]; omega) (by rw [hm]; omega), hm]
  have e2 : (m2 * s).toInt = B * s.toInt := by rw [i32_mul (by rw [hm2]; omega) (by rw [hm2]; omega), hm2]
  have g1 : (o1 * bs.toInt64).toInt = A * bs.toInt := by rw [i64_mul (by rw [ho, i64_of]; omega) (by rw [ho, i64_of]; omega), ho, i64_of]
  have g2 : (o2 * s.toInt64).toInt = B * s.toInt := by rw [i64_mul (by rw [ho2, i64_of]; omega) (by rw [ho2, i64_of]; omega), ho2, i64_of]
  have g3 : (o1 * bs.toInt64 - o2 * s.toInt64).toInt = A * bs.toInt - B * s.toInt := by rw [i64_sub (by omega) (by omega), g1, g2]
  have g4 : (T1 - T2).toInt = T1.toInt - T2.toInt := i32_sub (by omega) (by omega)
  have i1 : m1 * bs = m2 * s ↔ A * bs.toInt = B * s.toInt := by rw [eq32, e1, e2]
  have i2 : m2 * s ≤ m1 * bs ↔ B * s.toInt ≤ A * bs.toInt := by rw [le32, e1, e2]
  have i3 : lg_cmp (o1 * bs.toInt64 - o2 * s.toInt64) 0 < 0 ↔ A * bs.toInt - B * s.toInt < 0 := by rw [lcmp_lt, lt64, g3, z64]
  have i4 : lg_cmp (o1 * bs.toInt64 - o2 * s.toInt64) 0 = 0 ↔ A * bs.toInt - B * s.toInt = 0 := by rw [lcmp_eq, eq64, g3, z64]
  have i5 : T1 = T2 ↔ T1.toInt = T2.toInt := eq32
  have i6 : T2 ≤ T1 ↔ T2.toInt ≤ T1.toInt := le32
  have i7 : T1 - T2 < 0 ↔ T1.toInt - T2.toInt < 0 := by rw [lt32, g4, z32]
  have i8 : T1 - T2 = 0 ↔ T1.toInt - T2.toInt = 0 := by rw [eq32, g4, z32]
  simp only [i1, i2, i3, i4, i5, i6, i7, i8]
  generalize A * bs.toInt = P at *
  generalize B * s.toInt = Q at *
  clear hm ho hm2 ho2 e1 e2 g1 g2 g3 g4 hA hB i1 i2 i3 i4 i5 i6 i7 i8
  by_cases c : P = Q
  · rw [if_pos c, if_neg (show ¬ P - Q < 0 by omega), if_pos (show P - Q = 0 by omega)]
    by_cases d : T1.toInt = T2.toInt
    · rw [if_pos d, if_neg (show ¬ T1.toInt - T2.toInt < 0 by omega), if_pos (show T1.toInt - T2.toInt = 0 by omega)]
    · rw [if_neg d]
      by_cases e : T2.toInt ≤ T1.toInt
      · rw [if_pos e, if_neg (show ¬ T1.toInt - T2.toInt < 0 by omega), if_neg (show ¬ T1.toInt - T2.toInt = 0 by omega)]
      · rw [if_neg e, if_pos (show T1.toInt - T2.toInt < 0 by omega)]
  · rw [if_neg c]
    by_cases d : Q ≤ P
    · rw [if_pos d, if_neg (show ¬ P - Q < 0 by omega), if_neg (show ¬ P - Q = 0 by omega)]
    · rw [if_neg d, if_pos (show P - Q < 0 by omega)]
theorem sV_ne {S : St} {i j : Nat} {x : Int32} (h : j ≠ i) : (sV S i x).1 j = S.1 j := upd_ne h
theorem sV_eq {S : St} {i : Nat} {x : Int32} : (sV S i x).1 i = x := upd_eq
theorem QS_0 (h : QS k u w t Z Y) : QS k u w t Z (sV Y 1 (Y.1 1 + 0)) := by
  obtain ⟨h1, h2, h3, h4⟩ := h
  refine ⟨Rel_k h1 (fun _ _ => rfl) rfl (sV_ne (by omega)) (sV_ne (by omega)) rfl, h2, ?_, ?_⟩
  · rw [sV_eq, add_0]; exact h3
  · rw [sV_ne (show 2 ≠ 1 by omega), sV_ne (show 3 ≠ 1 by omega)]; exact h4
theorem QS_1 (h : QS k u w t Z Y) (hf : ¬ Z.1 29 = 0) : QS k u w t (s_H_take_b26 Z) (sV Y 1 (Y.1 1 + 1)) := by
  obtain ⟨h1, ⟨a1, a2, a3, a4⟩, h3, h4⟩ := h
  rw [s_H_take_b26]
  refine ⟨Rel_k h1 (fun j hj => sV_ne (by omega)) rfl (sV_ne (by omega)) (sV_ne (by omega)) rfl, ⟨?_, ?_, ?_, ?_⟩, ?_, Or.inr ?_⟩
  · rw [sV_ne (by omega)]; exact a1
  · rw [sV_ne (by omega)]; exact a2
  · rw [sV_ne (by omega)]; exact a3
  · rw [sV_ne (by omega)]; exact a4
  · rw [sV_eq, sV_eq, h3]
  · rw [sV_ne (show 2 ≠ 1 by omega), sV_ne (show 3 ≠ 1 by omega), sV_ne (show 30 ≠ 29 by omega), sV_ne (show 31 ≠ 29 by omega)]
    exact h4.resolve_left hf
theorem QS_2 (h : QS k u w t Z Y) (hs : S6 s) (hp : S6 p) : QS k u w t (s_H_take_b16 Z s p) (sV (sV (sV Y 1 (Y.1 1 + 1)) 2 s) 3 p) := by
  obtain ⟨h1, ⟨a1, a2, a3, a4⟩, h3, h4⟩ := h
  rw [s_H_take_b16, s_H_take_b26]
  refine ⟨Rel_k h1 (fun j hj => ?_) rfl ?_ ?_ rfl, ⟨?_, ?_, ?_, ?_⟩, ?_, Or.inr ⟨?_, ?_, ?_, ?_⟩⟩
  · rw [sV_ne (by omega), sV_ne (by omega), sV_ne (by omega)]
  · rw [sV_ne (by omega), sV_ne (by omega), sV_ne (by omega)]
  · rw [sV_ne (by omega), sV_ne (by omega), sV_ne (by omega)]
  · rw [sV_ne (by omega), sV_ne (by omega), sV_ne (by omega)]; exact a1
  · rw [sV_ne (by omega), sV_ne (by omega), sV_ne (by omega)]; exact a2
  · rw [sV_ne (by omega), sV_ne (by omega), sV_ne (by omega)]; exact a3
  · rw [sV_ne (by omega), sV_ne (by omega), sV_ne (by omega)]; exact a4
  · rw [sV_eq, sV_ne (show 29 ≠ 31 by omega), sV_ne (show 29 ≠ 30 by omega), sV_ne (show 1 ≠ 3 by omega), sV_ne (show 1 ≠ 2 by omega), sV_eq, h3]
  · rw [sV_ne (show 30 ≠ 29 by omega), sV_ne (show 30 ≠ 31 by omega), sV_eq, sV_ne (show 2 ≠ 3 by omega), sV_eq]
  · rw [sV_ne (show 31 ≠ 29 by omega), sV_eq, sV_eq]
  · rw [sV_ne (show 2 ≠ 3 by omega), sV_eq]; exact hs
  · rw [sV_eq]; exact hp
theorem ow6 (hs : S6 s) (hp : S6 p) : OW s p := ⟨⟨hs.1, by have := hs.2; omega⟩, hp.1, by have := hp.2; omega⟩
theorem suc0 {x : Int32} : x + 1 = 1 ↔ x = 0 := by
  constructor
  · intro h
    have := congrArg (fun z => z - 1) h
    simpa using this
  · intro h; rw [h]; decide
theorem in_b (hu : UW u w) (hk : k18 k) (ht : 0 ≤ t.toInt ∧ t.toInt ≤ 200) {a b : Int32} (hb : b.toInt ≤ 60) (hs : S6 s) {kc : St → Int32 → Int32 → Int32 → St} {km : St → Int32 → Int32 → Int32 → Int32 → Int32 → Int32 → Int32 → St} (hkk : ∀ Z Y : St, QS k u w t Z Y → QS k u w t (kc Z a b (s + 1)) (km Y a b k u w t (s + 1))) :
    ∀ (n : Nat) (Z Y : St) (p : Int32), QS k u w t Z Y → 5 ≤ p.toInt → QS k u w t (s_H_run_b59 kc n Z a b s p) (s_M_searches_b17 km n Y a b k u w t s p) := by
  intro n
  induction n with
  | zero => intro Z Y p h _; exact h
  | succ n ih =>
    intro Z Y p h h5
    rw [s_H_run_b59, s_M_searches_b17, h.2.1.1]
    by_cases c : b < p
    · rw [if_pos c, if_pos c]; exact hkk Z Y h
    · rw [if_neg c, if_neg c]
      rw [lt32] at c
      have hp : S6 p := ⟨h5, by omega⟩
      have es : 5 ≤ (p + 1).toInt := by rw [i32_suc (by omega)]; omega
      have hN := near_i h hu ht hs hp
      have hC := can_c (M := Y) (ow6 hs hp) hk
      by_cases d : s_M_puts Y s p k = 1
      · rw [if_pos d]
        by_cases e : 0 < lg_cmp ((s_M_off s p u w) * (1000 : Int64)) ((u.toInt64 * t.toInt64) * s.toInt64)
        · rw [if_pos e, if_pos (hN.mpr e)]
          exact ih _ _ _ (QS_0 h) es
        · rw [if_neg e, if_neg (fun q => e (hN.mp q)), if_neg (fun q => hC.mp q d), s_H_take]
          by_cases f : Z.1 29 = 0
          · rw [if_pos f, if_pos (suc0.mpr (by rw [← h.2.2.1]; exact f))]
            exact ih _ _ _ (QS_2 h hs hp) es
          · rw [if_neg f, bet_eq h f hu hk hs hp (sV Y 1 (Y.1 1 + 1)) (sV_ne (by omega)) (sV_ne (by omega)), if_neg (show ¬ Y.1 1 + 1 = 1 from fun q => f (by rw [h.2.2.1]; exact suc0.mp q))]
            by_cases g : s_M_isBetter (sV Y 1 (Y.1 1 + 1)) s p k u w = 0
            · rw [if_pos g, if_pos g]
              exact ih _ _ _ (QS_1 h f) es
            · rw [if_neg g, if_neg g]
              exact ih _ _ _ (QS_2 h hs hp) es
      · rw [if_neg d]
        have hc0 := hC.mpr d
        by_cases e : s_H_isNear Z s p = 0
        · rw [if_pos e]; exact ih _ _ _ (QS_0 h) es
        · rw [if_neg e, if_pos hc0]; exact ih _ _ _ (QS_0 h) es
theorem out_b (hu : UW u w) (hk : k18 k) (ht : 0 ≤ t.toInt ∧ t.toInt ≤ 200) {a b : Int32} (ha : 5 ≤ a.toInt) (hb : b.toInt ≤ 60) : ∀ (n : Nat) (Z Y : St) (s : Int32), QS k u w t Z Y → 5 ≤ s.toInt → QS k u w t (s_H_run_b48 n Z a b s) (s_M_searches_b8 n Y a b k u w t s) := by
  intro n
  induction n with
  | zero => intro Z Y s h _; exact h
  | succ n ih =>
    intro Z Y s h h5
    rw [s_H_run_b48, s_M_searches_b8]
    by_cases c : b < s
    · rw [if_pos c, if_pos c]; exact h
    · rw [if_neg c, if_neg c]
      rw [lt32] at c
      have es : 5 ≤ (s + 1).toInt := by rw [i32_suc (by omega)]; omega
      exact in_b hu hk ht hb ⟨h5, by omega⟩ (fun Z Y q => ih Z Y _ q es) _ Z Y a h ha
end se2
