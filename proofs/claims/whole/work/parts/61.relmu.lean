/-! the calls that change the bench -/
theorem BR.cg {n0 n1 n2 n3 p n0' n1' n2' n3' p' : Int32} {f0 f1 f2 f3 g f0' f1' f2' f3' g' : Nat → Int32} (h : BR n0 n1 n2 n3 p f0 f1 f2 f3 g) (e0 : n0' = n0) (e1 : n1' = n1) (e2 : n2' = n2) (e3 : n3' = n3) (e4 : p' = p) (d0 : f0' = f0) (d1 : f1' = f1) (d2 : f2' = f2) (d3 : f3' = f3) (d4 : g' = g) : BR n0' n1' n2' n3' p' f0' f1' f2' f3' g' := by
  subst e0 e1 e2 e3 e4 d0 d1 d2 d3 d4; exact h
theorem PR.mono {g g' : Nat → Int32} {a b : Int32} (h : PR g a b) (h0 : (g 0).toInt ≤ (g' 0).toInt) (h1 : ∀ k : Nat, (k : Int) < (g 0).toInt → g' (1 + k) = g (1 + k)) : PR g' a b := by
  obtain ⟨⟨a0, a1⟩, ⟨b0, b1⟩, hn, hr⟩ := h
  refine ⟨⟨a0, by omega⟩, ⟨b0, by omega⟩, hn, ?_⟩
  rw [h1 a.toNatClampNeg (by rw [i32_tn a0]; exact a1), h1 b.toNatClampNeg (by rw [i32_tn b0]; exact b1)]
  exact hr
section BRs
variable {n0 n1 n2 n3 p : Int32} {f0 f1 f2 f3 g : Nat → Int32} {t v w a b : Int32}
theorem BR_wheel (h : BR n0 n1 n2 n3 p f0 f1 f2 f3 g) (c : ¬ g 0 = 16) (ht : TV t) : BR (g 0 + 1) (g 0 + 1) n2 n3 p (upd f0 (g 0).toNatClampNeg t) (upd f1 (g 0).toNatClampNeg 0) f2 f3 (upd (upd (upd g (1 + (g 0).toNatClampNeg) t) (17 + (g 0).toNatClampNeg) 0) 0 (g 0 + 1)) := by
  obtain ⟨hG, ⟨e0, e1, e2, e3, e4⟩, hW, hP⟩ := h
  have hG1 := hG.1
  have hk := i32_tn hG1.1
  have hc : (g 0).toInt ≠ 16 := fun e => c (eq32.mpr (by rw [e]; decide))
  have hs : (g 0 + 1).toInt = (g 0).toInt + 1 := i32_suc (by omega)
  refine ⟨GI_add hG c ht, ⟨?_, ?_, ?_, ?_, ?_⟩, ?_, ?_⟩
  · rw [upd_eq]
  · rw [upd_eq]
  · rw [upd_ne (by omega), upd_ne (by omega), upd_ne (by omega)]; exact e2
  · rw [upd_ne (by omega), upd_ne (by omega), upd_ne (by omega)]; exact e3
  · rw [upd_ne (by omega), upd_ne (by omega), upd_ne (by omega)]; exact e4
  · intro k hk1
    rw [upd_eq, hs] at hk1
    by_cases e : k = (g 0).toNatClampNeg
    · subst e
      rw [upd_eq, upd_eq, upd_ne (by omega), upd_ne (by omega), upd_eq, upd_ne (by omega), upd_eq]
      exact ⟨rfl, rfl, by unfold TS; rw [z32]; omega⟩
    · rw [upd_ne e, upd_ne e, upd_ne (by omega), upd_ne (by omega), upd_ne (by omega), upd_ne (by omega), upd_ne (by omega), upd_ne (by omega)]
      exact hW k (by omega)
  · intro k hk1
    rw [upd_ne (by omega), upd_ne (by omega), upd_ne (by omega)] at hk1
    have hm := hG.2.2.1
    obtain ⟨p1, p2, p3⟩ := hP k hk1
    rw [upd_ne (show 35 + k ≠ 0 by omega), upd_ne (show 35 + k ≠ 17 + (g 0).toNatClampNeg by omega), upd_ne (show 35 + k ≠ 1 + (g 0).toNatClampNeg by omega), upd_ne (show 44 + k ≠ 0 by omega), upd_ne (show 44 + k ≠ 17 + (g 0).toNatClampNeg by omega), upd_ne (show 44 + k ≠ 1 + (g 0).toNatClampNeg by omega)]
    refine ⟨p1, p2, p3.mono (by rw [upd_eq, hs]; omega) (fun j hj => ?_)⟩
    rw [upd_ne (by omega), upd_ne (by omega), upd_ne (by omega)]
theorem GI_sh (hG : GI g) (hw : wl g w) : GI (upd g (17 + w.toNatClampNeg) v) := by
  obtain ⟨g1, g2, g3, g4, g5⟩ := hG
  have hk := i32_tn hw.1
  have hw1 := hw.2
  refine ⟨?_, ?_, ?_, ?_, ?_⟩
  · rw [upd_ne (by omega)]; exact g1
  · rw [upd_ne (by omega)]; exact g2
  · rw [upd_ne (by omega)]; exact g3
  · intro k h
    rw [upd_ne (by omega)] at h
    rw [upd_ne (by omega)]; exact g4 k h
  · intro k h
    rw [upd_ne (by omega)] at h
    unfold wl
    rw [upd_ne (show 35 + k ≠ 17 + w.toNatClampNeg by omega), upd_ne (show 44 + k ≠ 17 + w.toNatClampNeg by omega), upd_ne (show 0 ≠ 17 + w.toNatClampNeg by omega)]
    exact g5 k h
theorem BR_shift (h : BR n0 n1 n2 n3 p f0 f1 f2 f3 g) (hw : wl g w) (hv : TS v) : BR n0 n1 n2 n3 p f0 (upd f1 w.toNatClampNeg v) f2 f3 (upd g (17 + w.toNatClampNeg) v) := by
  obtain ⟨hG, ⟨e0, e1, e2, e3, e4⟩, hW, hP⟩ := h
  have hG1 := hG.1
  have hk := i32_tn hw.1
  have hw1 := hw.2
  refine ⟨GI_sh hG hw, ⟨?_, ?_, ?_, ?_, ?_⟩, ?_, ?_⟩
  · rw [upd_ne (by omega)]; exact e0
  · rw [upd_ne (by omega)]; exact e1
  · rw [upd_ne (by omega)]; exact e2
  · rw [upd_ne (by omega)]; exact e3
  · rw [upd_ne (by omega)]; exact e4
  · intro k hk1
    rw [upd_ne (by omega)] at hk1
    rw [upd_ne (show 1 + k ≠ 17 + w.toNatClampNeg by omega)]
    by_cases e : k = w.toNatClampNeg
    · subst e
      rw [upd_eq, upd_eq]
      exact ⟨(hW _ hk1).1, rfl, hv⟩
    · rw [upd_ne e, upd_ne (by omega)]
      exact hW k hk1
  · intro k hk1
    rw [upd_ne (by omega)] at hk1
    obtain ⟨p1, p2, p3⟩ := hP k hk1
    rw [upd_ne (show 35 + k ≠ 17 + w.toNatClampNeg by omega), upd_ne (show 44 + k ≠ 17 + w.toNatClampNeg by omega)]
    refine ⟨p1, p2, p3.mono (by rw [upd_ne (by omega)]; omega) (fun j hj => ?_)⟩
    rw [upd_ne (by omega)]
theorem BR_press (h : BR n0 n1 n2 n3 p f0 f1 f2 f3 g) (hv : 0 ≤ v.toInt ∧ v.toInt ≤ 2) : BR n0 n1 n2 n3 v f0 f1 f2 f3 (upd g 33 v) := by
  obtain ⟨hG, ⟨e0, e1, e2, e3, e4⟩, hW, hP⟩ := h
  have hG1 := hG.1
  obtain ⟨g1, g2, g3, g4, g5⟩ := hG
  refine ⟨⟨?_, ?_, ?_, ?_, ?_⟩, ⟨?_, ?_, ?_, ?_, ?_⟩, ?_, ?_⟩
  · rw [upd_ne (by omega)]; exact g1
  · rw [upd_eq]; exact hv
  · rw [upd_ne (by omega)]; exact g3
  · intro k h
    rw [upd_ne (by omega)] at h
    rw [upd_ne (by omega)]; exact g4 k h
  · intro k h
    rw [upd_ne (by omega)] at h
    unfold wl
    rw [upd_ne (show 35 + k ≠ 33 by omega), upd_ne (show 44 + k ≠ 33 by omega), upd_ne (show 0 ≠ 33 by omega)]
    exact g5 k h
  · rw [upd_ne (by omega)]; exact e0
  · rw [upd_ne (by omega)]; exact e1
  · rw [upd_ne (by omega)]; exact e2
  · rw [upd_ne (by omega)]; exact e3
  · rw [upd_eq]
  · intro k hk1
    rw [upd_ne (by omega)] at hk1
    rw [upd_ne (show 1 + k ≠ 33 by omega), upd_ne (show 17 + k ≠ 33 by omega)]
    exact hW k hk1
  · intro k hk1
    rw [upd_ne (by omega)] at hk1
    obtain ⟨p1, p2, p3⟩ := hP k hk1
    rw [upd_ne (show 35 + k ≠ 33 by omega), upd_ne (show 44 + k ≠ 33 by omega)]
    refine ⟨p1, p2, p3.mono (by rw [upd_ne (by omega)]; omega) (fun j hj => ?_)⟩
    rw [upd_ne (by omega)]
theorem BR_pair (h : BR n0 n1 n2 n3 p f0 f1 f2 f3 g) (c : ¬ g 34 = 9) (hp : PR g a b) : BR n0 n1 (g 34 + 1) (g 34 + 1) p f0 f1 (upd f2 (g 34).toNatClampNeg a) (upd f3 (g 34).toNatClampNeg b) (upd (upd (upd g (35 + (g 34).toNatClampNeg) a) (44 + (g 34).toNatClampNeg) b) 34 (g 34 + 1)) := by
  obtain ⟨hG, ⟨e0, e1, e2, e3, e4⟩, hW, hP⟩ := h
  have hG1 := hG.1
  have hm := hG.2.2.1
  have hk := i32_tn hm.1
  have hc : (g 34).toInt ≠ 9 := fun e => c (eq32.mpr (by rw [e]; decide))
  have hs : (g 34 + 1).toInt = (g 34).toInt + 1 := i32_suc (by omega)
  refine ⟨GI_pr hG c hp.1 hp.2.1, ⟨?_, ?_, ?_, ?_, ?_⟩, ?_, ?_⟩
  · rw [upd_ne (by omega), upd_ne (by omega), upd_ne (by omega)]; exact e0
  · rw [upd_ne (by omega), upd_ne (by omega), upd_ne (by omega)]; exact e1
  · rw [upd_eq]
  · rw [upd_eq]
  · rw [upd_ne (by omega), upd_ne (by omega), upd_ne (by omega)]; exact e4
  · intro k hk1
    rw [upd_ne (by omega), upd_ne (by omega), upd_ne (by omega)] at hk1
    rw [upd_ne (show 1 + k ≠ 34 by omega), upd_ne (show 1 + k ≠ 44 + (g 34).toNatClampNeg by omega), upd_ne (show 1 + k ≠ 35 + (g 34).toNatClampNeg by omega), upd_ne (show 17 + k ≠ 34 by omega), upd_ne (show 17 + k ≠ 44 + (g 34).toNatClampNeg by omega), upd_ne (show 17 + k ≠ 35 + (g 34).toNatClampNeg by omega)]
    exact hW k hk1
  · intro k hk1
    rw [upd_eq, hs] at hk1
    have mono : ∀ x y : Int32, PR g x y → PR (upd (upd (upd g (35 + (g 34).toNatClampNeg) a) (44 + (g 34).toNatClampNeg) b) 34 (g 34 + 1)) x y := fun x y q => q.mono (by rw [upd_ne (by omega), upd_ne (by omega), upd_ne (by omega)]; omega) (fun j hj => by rw [upd_ne (by omega), upd_ne (by omega), upd_ne (by omega)])
    by_cases e : k = (g 34).toNatClampNeg
    · subst e
      rw [upd_eq, upd_eq, upd_ne (show 35 + (g 34).toNatClampNeg ≠ 34 by omega), upd_ne (show 35 + (g 34).toNatClampNeg ≠ 44 + (g 34).toNatClampNeg by omega), upd_eq, upd_ne (show 44 + (g 34).toNatClampNeg ≠ 34 by omega), upd_eq]
      exact ⟨rfl, rfl, mono _ _ hp⟩
    · rw [upd_ne e, upd_ne e, upd_ne (show 35 + k ≠ 34 by omega), upd_ne (show 35 + k ≠ 44 + (g 34).toNatClampNeg by omega), upd_ne (show 35 + k ≠ 35 + (g 34).toNatClampNeg by omega), upd_ne (show 44 + k ≠ 34 by omega), upd_ne (show 44 + k ≠ 44 + (g 34).toNatClampNeg by omega), upd_ne (show 44 + k ≠ 35 + (g 34).toNatClampNeg by omega)]
      obtain ⟨p1, p2, p3⟩ := hP k (by omega)
      exact ⟨p1, p2, mono _ _ p3⟩
theorem BR_clear (h : BR n0 n1 n2 n3 p f0 f1 f2 f3 g) : BR n0 n1 0 0 p f0 f1 f2 f3 (upd g 34 0) := by
  obtain ⟨hG, ⟨e0, e1, e2, e3, e4⟩, hW, hP⟩ := h
  obtain ⟨g1, g2, g3, g4, g5⟩ := hG
  refine ⟨⟨?_, ?_, ?_, ?_, ?_⟩, ⟨?_, ?_, ?_, ?_, ?_⟩, ?_, ?_⟩
  · rw [upd_ne (by omega)]; exact g1
  · rw [upd_ne (by omega)]; exact g2
  · rw [upd_eq, z32]; omega
  · intro k h
    rw [upd_ne (by omega)] at h
    rw [upd_ne (by omega)]; exact g4 k h
  · intro k h
    rw [upd_eq, z32] at h; omega
  · rw [upd_ne (by omega)]; exact e0
  · rw [upd_ne (by omega)]; exact e1
  · rw [upd_eq]
  · rw [upd_eq]
  · rw [upd_ne (by omega)]; exact e4
  · intro k hk1
    rw [upd_ne (by omega)] at hk1
    rw [upd_ne (show 1 + k ≠ 34 by omega), upd_ne (show 17 + k ≠ 34 by omega)]
    exact hW k hk1
  · intro k h
    rw [upd_eq, z32] at h; omega
/-- the same bench in other arrays: what lies behind the sizes does not matter -/
theorem BR_copy {n0' n1' n2' n3' p' : Int32} {f0' f1' f2' f3' g' : Nat → Int32} (h : BR n0 n1 n2 n3 p f0 f1 f2 f3 g) (e0 : n0' = n0) (e1 : n1' = n1) (e2 : n2' = n2) (e3 : n3' = n3) (e4 : p' = p) (hg : ∀ k : Nat, k < 53 → g' k = g k)
    (d0 : ∀ k : Nat, (k : Int) < n0.toInt → f0' k = f0 k) (d1 : ∀ k : Nat, (k : Int) < n1.toInt → f1' k = f1 k) (d2 : ∀ k : Nat, (k : Int) < n2.toInt → f2' k = f2 k) (d3 : ∀ k : Nat, (k : Int) < n3.toInt → f3' k = f3 k) : BR n0' n1' n2' n3' p' f0' f1' f2' f3' g' := by
  obtain ⟨hG, ⟨q0, q1, q2, q3, q4⟩, hW, hP⟩ := h
  have hG1 := hG.1
  have hm := hG.2.2.1
  subst e0 e1 e2 e3 e4
  refine ⟨GI_ext hg hG, ⟨?_, ?_, ?_, ?_, ?_⟩, ?_, ?_⟩
  · rw [hg 0 (by omega)]; exact q0
  · rw [hg 0 (by omega)]; exact q1
  · rw [hg 34 (by omega)]; exact q2
  · rw [hg 34 (by omega)]; exact q3
  · rw [hg 33 (by omega)]; exact q4
  · intro k hk
    rw [hg 0 (by omega)] at hk
    rw [d0 k (by rw [q0]; exact hk), d1 k (by rw [q1]; exact hk), hg (1 + k) (by omega), hg (17 + k) (by omega)]
    exact hW k hk
  · intro k hk
    rw [hg 34 (by omega)] at hk
    rw [d2 k (by rw [q2]; exact hk), d3 k (by rw [q3]; exact hk), hg (35 + k) (by omega), hg (44 + k) (by omega)]
    obtain ⟨p1, p2, p3⟩ := hP k hk
    exact ⟨p1, p2, p3.mono (by rw [hg 0 (by omega)]; omega) (fun j hj => hg (1 + j) (by omega))⟩
end BRs
