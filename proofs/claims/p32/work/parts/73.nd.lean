/-! the doubles of areSets: none is a NaN, and the check holds -/
theorem pickR {k : Nat} (h : allB 4 (fun w => n64 (FP.ddiv (dN k) (dN (w + 1))) && allB 129 (fun t => chkR (FP.ddiv (dN k) (dN (w + 1))) k (w + 1) t)) = true) {w t : Nat} (hw : 1 ≤ w ∧ w ≤ 4) (ht : t < 129) : n64 (FP.ddiv (dN k) (dN w)) = true ∧ chkR (FP.ddiv (dN k) (dN w)) k w t = true := by
  obtain ⟨v, rfl⟩ : ∃ v, w = v + 1 := ⟨w - 1, by omega⟩
  have h1 := allB_at h v (by omega)
  rw [Bool.and_eq_true] at h1
  exact ⟨h1.1, allB_at h1.2 t ht⟩
theorem pickL {s : Nat} (h : allB 21 (fun p => n64 (ratD s (p + 10)) && allB 16 (fun u => allB 4 (fun w => chkL (ratD s (p + 10)) s (p + 10) (u + 2) (w + 1)))) = true) {p u w : Nat} (hp : 10 ≤ p ∧ p ≤ 30) (hu : 2 ≤ u ∧ u ≤ 17) (hw : 1 ≤ w ∧ w ≤ 4) : n64 (ratD s p) = true ∧ chkL (ratD s p) s p u w = true := by
  obtain ⟨p', rfl⟩ : ∃ v, p = v + 10 := ⟨p - 10, by omega⟩
  obtain ⟨u', rfl⟩ : ∃ v, u = v + 2 := ⟨u - 2, by omega⟩
  obtain ⟨w', rfl⟩ : ∃ v, w = v + 1 := ⟨w - 1, by omega⟩
  have h1 := allB_at h p' (by omega)
  rw [Bool.and_eq_true] at h1
  exact ⟨h1.1, allB_at (allB_at h1.2 u' (by omega)) w' (by omega)⟩
theorem chkR_at {u w t : Nat} (hu : 2 ≤ u ∧ u ≤ 17) (hw : 1 ≤ w ∧ w ≤ 4) (ht : t < 129) : n64 (FP.ddiv (dN u) (dN w)) = true ∧ chkR (FP.ddiv (dN u) (dN w)) u w t = true := by
  have e : u = 2 ∨ u = 3 ∨ u = 4 ∨ u = 5 ∨ u = 6 ∨ u = 7 ∨ u = 8 ∨ u = 9 ∨ u = 10 ∨ u = 11 ∨ u = 12 ∨ u = 13 ∨ u = 14 ∨ u = 15 ∨ u = 16 ∨ u = 17 := by omega
  rcases e with rfl | rfl | rfl | rfl | rfl | rfl | rfl | rfl | rfl | rfl | rfl | rfl | rfl | rfl | rfl | rfl
  · exact pickR chkR_0 hw ht
  · exact pickR chkR_1 hw ht
  · exact pickR chkR_2 hw ht
  · exact pickR chkR_3 hw ht
  · exact pickR chkR_4 hw ht
  · exact pickR chkR_5 hw ht
  · exact pickR chkR_6 hw ht
  · exact pickR chkR_7 hw ht
  · exact pickR chkR_8 hw ht
  · exact pickR chkR_9 hw ht
  · exact pickR chkR_10 hw ht
  · exact pickR chkR_11 hw ht
  · exact pickR chkR_12 hw ht
  · exact pickR chkR_13 hw ht
  · exact pickR chkR_14 hw ht
  · exact pickR chkR_15 hw ht
theorem chkL_at {s p u w : Nat} (hs : 10 ≤ s ∧ s ≤ 30) (hp : 10 ≤ p ∧ p ≤ 30) (hu : 2 ≤ u ∧ u ≤ 17) (hw : 1 ≤ w ∧ w ≤ 4) : n64 (ratD s p) = true ∧ chkL (ratD s p) s p u w = true := by
  have e : s = 10 ∨ s = 11 ∨ s = 12 ∨ s = 13 ∨ s = 14 ∨ s = 15 ∨ s = 16 ∨ s = 17 ∨ s = 18 ∨ s = 19 ∨ s = 20 ∨ s = 21 ∨ s = 22 ∨ s = 23 ∨ s = 24 ∨ s = 25 ∨ s = 26 ∨ s = 27 ∨ s = 28 ∨ s = 29 ∨ s = 30 := by omega
  rcases e with rfl | rfl | rfl | rfl | rfl | rfl | rfl | rfl | rfl | rfl | rfl | rfl | rfl | rfl | rfl | rfl | rfl | rfl | rfl | rfl | rfl
  · exact pickL chkL_0 hp hu hw
  · exact pickL chkL_1 hp hu hw
  · exact pickL chkL_2 hp hu hw
  · exact pickL chkL_3 hp hu hw
  · exact pickL chkL_4 hp hu hw
  · exact pickL chkL_5 hp hu hw
  · exact pickL chkL_6 hp hu hw
  · exact pickL chkL_7 hp hu hw
  · exact pickL chkL_8 hp hu hw
  · exact pickL chkL_9 hp hu hw
  · exact pickL chkL_10 hp hu hw
  · exact pickL chkL_11 hp hu hw
  · exact pickL chkL_12 hp hu hw
  · exact pickL chkL_13 hp hu hw
  · exact pickL chkL_14 hp hu hw
  · exact pickL chkL_15 hp hu hw
  · exact pickL chkL_16 hp hu hw
  · exact pickL chkL_17 hp hu hw
  · exact pickL chkL_18 hp hu hw
  · exact pickL chkL_19 hp hu hw
  · exact pickL chkL_20 hp hu hw
theorem n64_v {r : UInt64} (h : n64 r = true) : vf_n64 r := by rw [n64, decide_eq_true_eq] at h; exact h
section nd
variable {Z S : St} {k uw t s p : Int32}
theorem l2d_n {x : Int64} {n : Nat} (h : x.toInt = (n : Int)) : FP.l2d x = dN n := by
  show UInt64.ofNat (FP.Core.fromInt FP.Core.b64 x.toInt) = _
  rw [h]; rfl
theorem i2d_n {x : Int32} {n : Nat} (h : x.toInt = (n : Int)) : FP.i2d x = dN n := by
  show UInt64.ofNat (FP.Core.fromInt FP.Core.b64 x.toInt) = _
  rw [h]; rfl
theorem S3.ow (hs : S3 s) (hp : S3 p) : OW s p := by unfold S3 at hs hp; unfold OW; omega
theorem fl_s (hs : S3 s) (hp : S3 p) : FP.ddiv (FP.l2d (s_P_planets Z s p 0 2 0)) (FP.l2d (s_P_planets Z s p 0 2 1)) = ratD s.toInt.toNat p.toInt.toNat := by
  obtain ⟨h1, h2⟩ := pla_02 (S := Z) (hs.ow hp)
  have e : (2 * (s.toInt + p.toInt)).toNat = 2 * (s.toInt.toNat + p.toInt.toNat) := by unfold S3 at hs hp; omega
  rw [e] at h1 h2
  rw [l2d_n h1, l2d_n h2, ratD]
theorem fl_u (h : SQ3 uw t k) : FP.ddiv (FP.i2d (uw / 100)) (FP.i2d (uw - uw / 100 * 100)) = FP.ddiv (dN (uw / 100).toInt.toNat) (dN (uw - uw / 100 * 100).toInt.toNat) := by
  unfold SQ3 at h
  rw [i2d_n (n := (uw / 100).toInt.toNat) (by omega), i2d_n (n := (uw - uw / 100 * 100).toInt.toNat) (by omega)]
theorem fl_t (h : SQ3 uw t k) : FP.i2d t = dN t.toInt.toNat := by
  unfold SQ3 at h
  exact i2d_n (by omega)
theorem rng (h : SQ3 uw t k) : (2 ≤ (uw / 100).toInt.toNat ∧ (uw / 100).toInt.toNat ≤ 17) ∧ (1 ≤ (uw - uw / 100 * 100).toInt.toNat ∧ (uw - uw / 100 * 100).toInt.toNat ≤ 4) ∧ t.toInt.toNat < 129 := by unfold SQ3 at h; omega
theorem rs3 (hs : S3 s) : 10 ≤ s.toInt.toNat ∧ s.toInt.toNat ≤ 30 := by unfold S3 at hs; omega
theorem nd_463 (hs : S3 s) (hp : S3 p) : vf_n64 (FP.ddiv (FP.l2d (s_P_planets Z s p 0 2 0)) (FP.l2d (s_P_planets Z s p 0 2 1))) := by
  rw [fl_s hs hp]
  exact n64_v (chkL_at (u := 2) (w := 1) (rs3 hs) (rs3 hp) (by decide) (by decide)).1
theorem nd_478 (h : SQ3 uw t k) : vf_n64 (FP.ddiv (FP.i2d (uw / 100)) (FP.i2d (uw - uw / 100 * 100))) := by
  obtain ⟨h1, h2, h3⟩ := rng h
  rw [fl_u h]
  exact n64_v (chkR_at h1 h2 h3).1
theorem nd_528 (h : SQ3 uw t k) (hs : S3 s) (hp : S3 p) : vf_n64 (FP.dsub (FP.ddiv (FP.l2d (s_P_planets Z s p 0 2 0)) (FP.l2d (s_P_planets Z s p 0 2 1))) (FP.ddiv (FP.i2d (uw / 100)) (FP.i2d (uw - uw / 100 * 100)))) := by
  obtain ⟨h1, h2, h3⟩ := rng h
  rw [fl_u h, fl_s hs hp]
  have c := (chkL_at (rs3 hs) (rs3 hp) h1 h2).2
  rw [chkL, Bool.and_eq_true] at c
  exact n64_v c.1
theorem nd_R (h : SQ3 uw t k) : vf_n64 (FP.dmul (FP.ddiv (FP.i2d (uw / 100)) (FP.i2d (uw - uw / 100 * 100))) (FP.i2d t)) ∧ vf_n64 (FP.ddiv (FP.dmul (FP.ddiv (FP.i2d (uw / 100)) (FP.i2d (uw - uw / 100 * 100))) (FP.i2d t)) 4652007308841189376) ∧ vf_n64 (FP.dadd (FP.ddiv (FP.dmul (FP.ddiv (FP.i2d (uw / 100)) (FP.i2d (uw - uw / 100 * 100))) (FP.i2d t)) 4652007308841189376) 4517329193108106637) := by
  obtain ⟨h1, h2, h3⟩ := rng h
  rw [fl_u h, fl_t h]
  have c := (chkR_at h1 h2 h3).2
  rw [chkR, Bool.and_eq_true, Bool.and_eq_true, Bool.and_eq_true] at c
  exact ⟨n64_v c.1.1.1, n64_v c.1.1.2, n64_v c.1.2⟩
theorem dM_eq (hs : S3 s) (hp : S3 p) {u w : Int32} (hu : 0 ≤ u.toInt) (hw : 0 ≤ w.toInt) : (dM s.toInt.toNat p.toInt.toNat u.toInt.toNat w.toInt.toNat : Int) = mI s.toInt p.toInt u.toInt w.toInt := by
  unfold S3 at hs hp
  have a1 : ((2 * (s.toInt.toNat + p.toInt.toNat) * w.toInt.toNat : Nat) : Int) = 2 * (s.toInt + p.toInt) * w.toInt := by
    rw [Int.natCast_mul, Int.natCast_mul, Int.natCast_add, Int.toNat_of_nonneg (by omega), Int.toNat_of_nonneg (by omega), Int.toNat_of_nonneg hw]; rfl
  have a2 : ((u.toInt.toNat * s.toInt.toNat : Nat) : Int) = u.toInt * s.toInt := by
    rw [Int.natCast_mul, Int.toNat_of_nonneg hu, Int.toNat_of_nonneg (by omega)]
  unfold dM mI
  rw [← a1, ← a2]
  generalize 2 * (s.toInt.toNat + p.toInt.toNat) * w.toInt.toNat = A
  generalize u.toInt.toNat * s.toInt.toNat = B
  by_cases c : 0 ≤ (A : Int) - (B : Int)
  · rw [if_pos c]; omega
  · rw [if_neg c]; omega
/-- the double check of areSets -/
theorem fl_ok (h : SQ3 uw t k) (hs : S3 s) (hp : S3 p) (hn : nr (uw / 100) (uw - uw / 100 * 100) t s p) : ¬ 0 < Op.cmpValue (FP.dcmp (dAbs (FP.dsub (FP.ddiv (FP.l2d (s_P_planets Z s p 0 2 0)) (FP.l2d (s_P_planets Z s p 0 2 1))) (FP.ddiv (FP.i2d (uw / 100)) (FP.i2d (uw - uw / 100 * 100))))) (FP.dadd (FP.ddiv (FP.dmul (FP.ddiv (FP.i2d (uw / 100)) (FP.i2d (uw - uw / 100 * 100))) (FP.i2d t)) 4652007308841189376) 4517329193108106637)) .g := by
  obtain ⟨h1, h2, h3⟩ := rng h
  rw [fl_u h, fl_s hs hp, fl_t h]
  have c := (chkL_at (rs3 hs) (rs3 hp) h1 h2).2
  have d := (chkR_at h1 h2 h3).2
  rw [chkL, Bool.and_eq_true] at c
  rw [chkR, Bool.and_eq_true, Bool.and_eq_true, Bool.and_eq_true] at d
  have hs' := rs3 hs
  refine flt_le (by omega) (by omega) c.2 d.2 ?_
  unfold nr at hn
  unfold SQ3 at h
  rw [← dM_eq hs hp (by omega) (by omega)] at hn
  unfold S3 at hs
  have e : (((uw / 100).toInt.toNat * t.toInt.toNat * s.toInt.toNat : Nat) : Int) = (uw / 100).toInt * t.toInt * s.toInt := by
    rw [Int.natCast_mul, Int.natCast_mul, Int.toNat_of_nonneg (by omega), Int.toNat_of_nonneg (by omega), Int.toNat_of_nonneg (by omega)]
  rw [← e] at hn
  exact Int.ofNat_le.mp hn
end nd
