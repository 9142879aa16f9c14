/-! the one check by doubles: both sides held against whole numbers, by the kernel -/
def allB : Nat → (Nat → Bool) → Bool
  | 0, _ => true
  | n + 1, f => f n && allB n f
theorem allB_at : ∀ {n : Nat} {f : Nat → Bool}, allB n f = true → ∀ i, i < n → f i = true := by
  intro n f
  induction n with
  | zero => intro _ i hi; omega
  | succ n ih =>
    intro h i hi
    rw [allB, Bool.and_eq_true] at h
    by_cases e : i = n
    · rw [e]; exact h.1
    · exact ih h.2 i (by omega)
/-- a whole number as a double -/
def dN (n : Nat) : UInt64 := UInt64.ofNat (FP.Core.fromInt FP.Core.b64 (n : Int))
def n64 (r : UInt64) : Bool := decide (r &&& 0x7fffffffffffffff ≤ 0x7ff0000000000000)
def dM (s p u w : Nat) : Nat := (2 * (s + p) * w - u * s) + (u * s - 2 * (s + p) * w)
/-- what the left side is at most -/
def lowB (x : UInt64) (N D : Nat) : Bool := match FP.Core.decode FP.Core.b64 x.toNat with
  | .fin sg c q => (!sg || c == 0) && decide (q < 0) && decide (c * D ≤ N * 2 ^ (-q).toNat)
  | _ => false
/-- what the right side is at least -/
def higB (x : UInt64) (N D : Nat) : Bool := match FP.Core.decode FP.Core.b64 x.toNat with
  | .fin sg c q => !sg && decide (q < 0) && decide (N * 2 ^ (-q).toNat ≤ c * D)
  | _ => false
def chkL (R : UInt64) (s p u w : Nat) : Bool :=
  n64 (FP.dsub R (FP.ddiv (dN u) (dN w))) && lowB (dAbs (FP.dsub R (FP.ddiv (dN u) (dN w)))) (dM s p u w * 2000000 + s * w) (s * w * 2000000)
def chkR (due : UInt64) (u w t : Nat) : Bool :=
  n64 (FP.dmul due (dN t)) && n64 (FP.ddiv (FP.dmul due (dN t)) 4652007308841189376) && n64 (FP.dadd (FP.ddiv (FP.dmul due (dN t)) 4652007308841189376) 4517329193108106637) && higB (FP.dadd (FP.ddiv (FP.dmul due (dN t)) 4652007308841189376) 4517329193108106637) (u * t * 2000 + w) (w * 2000000)
def ratD (s p : Nat) : UInt64 := FP.ddiv (dN (2 * (s + p) / Nat.gcd (2 * (s + p)) s)) (dN (s / Nat.gcd (2 * (s + p)) s))
theorem low_at {x : UInt64} {N D : Nat} (h : lowB x N D = true) : ∃ (sg : Bool) (c : Nat) (q : Int), FP.Core.decode FP.Core.b64 x.toNat = .fin sg c q ∧ (sg = false ∨ c = 0) ∧ q < 0 ∧ c * D ≤ N * 2 ^ (-q).toNat := by
  unfold lowB at h
  split at h
  · rename_i sg c q e
    rw [Bool.and_eq_true, Bool.and_eq_true, decide_eq_true_eq, decide_eq_true_eq] at h
    refine ⟨sg, c, q, e, ?_, h.1.2, h.2⟩
    have h1 := h.1.1
    cases sg
    · exact Or.inl rfl
    · right; simpa using h1
  · cases h
theorem hig_at {x : UInt64} {N D : Nat} (h : higB x N D = true) : ∃ (c : Nat) (q : Int), FP.Core.decode FP.Core.b64 x.toNat = .fin false c q ∧ q < 0 ∧ N * 2 ^ (-q).toNat ≤ c * D := by
  unfold higB at h
  split at h
  · rename_i sg c q e
    rw [Bool.and_eq_true, Bool.and_eq_true, decide_eq_true_eq, decide_eq_true_eq] at h
    have h1 := h.1.1
    cases sg
    · exact ⟨c, q, e, h.1.2, h.2⟩
    · cases h1
  · cases h
theorem num_le {c d A B M s w u t : Nat} (h1 : c * (s * w * 2000000) ≤ (M * 2000000 + s * w) * A) (h2 : (u * t * 2000 + w) * B ≤ d * (w * 2000000)) (h3 : M * 1000 ≤ u * t * s) (hs : 0 < s) (hw : 0 < w) : c * B ≤ d * A := by
  have hp : 0 < s * w * 2000000 := Nat.mul_pos (Nat.mul_pos hs hw) (by decide)
  refine Nat.le_of_mul_le_mul_right ?_ hp
  have g1 : M * 2000000 + s * w ≤ s * (u * t * 2000 + w) := by
    have e1 : s * (u * t * 2000 + w) = u * t * s * 2000 + s * w := by rw [Nat.mul_add]; ac_rfl
    have e2 : M * 2000000 = M * 1000 * 2000 := by rw [Nat.mul_assoc]
    rw [e1, e2]
    exact Nat.add_le_add_right (Nat.mul_le_mul_right 2000 h3) _
  calc c * B * (s * w * 2000000) = c * (s * w * 2000000) * B := by ac_rfl
    _ ≤ (M * 2000000 + s * w) * A * B := Nat.mul_le_mul_right _ h1
    _ ≤ s * (u * t * 2000 + w) * A * B := Nat.mul_le_mul_right _ (Nat.mul_le_mul_right _ g1)
    _ = s * A * ((u * t * 2000 + w) * B) := by ac_rfl
    _ ≤ s * A * (d * (w * 2000000)) := Nat.mul_le_mul_left _ h2
    _ = d * A * (s * w * 2000000) := by ac_rfl
theorem cmp_le {a b : Int} (h : a ≤ b) : ¬ compare a b = .gt := by
  intro q
  simp only [compare, compareOfLessAndEq] at q
  split at q
  · cases q
  · split at q
    · cases q
    · omega
theorem ord_le {sg : Bool} {c d : Nat} {q r : Int} (hs : sg = false ∨ c = 0) (hq : q < 0) (hr : r < 0) (h : c * 2 ^ (-r).toNat ≤ d * 2 ^ (-q).toNat) : ∃ o, FP.Core.order (.fin sg c q) (.fin false d r) = some o ∧ ¬ o = .gt := by
  refine ⟨_, rfl, cmp_le ?_⟩
  have e : FP.Core.signed sg (FP.Core.inUnits c q (min q r)) = (FP.Core.inUnits c q (min q r) : Int) := by
    rcases hs with rfl | rfl
    · rfl
    · unfold FP.Core.inUnits
      rw [Nat.zero_mul]
      cases sg <;> rfl
  rw [e]
  show (FP.Core.inUnits c q (min q r) : Int) ≤ (FP.Core.inUnits d r (min q r) : Int)
  refine Int.ofNat_le.mpr ?_
  unfold FP.Core.inUnits
  have pos : ∀ k : Nat, 0 < 2 ^ k := fun k => Nat.pow_pos (by decide)
  by_cases z : q ≤ r
  · rw [Int.min_eq_left z, Int.sub_self]
    show c * 2 ^ 0 ≤ _
    rw [Nat.pow_zero, Nat.mul_one]
    refine Nat.le_of_mul_le_mul_right ?_ (pos (-r).toNat)
    rw [Nat.mul_assoc, ← Nat.pow_add, show (r - q).toNat + (-r).toNat = (-q).toNat by omega]
    exact h
  · rw [Int.min_eq_right (by omega), Int.sub_self]
    show _ ≤ d * 2 ^ 0
    rw [Nat.pow_zero, Nat.mul_one]
    refine Nat.le_of_mul_le_mul_right ?_ (pos (-q).toNat)
    rw [Nat.mul_assoc, ← Nat.pow_add, show (q - r).toNat + (-q).toNat = (-r).toNat by omega]
    exact h
/-- the two sides compared -/
theorem flt_le {R due : UInt64} {s p u w t : Nat} (hs : 0 < s) (hw : 0 < w) (h1 : lowB (dAbs (FP.dsub R due)) (dM s p u w * 2000000 + s * w) (s * w * 2000000) = true) (h2 : higB (FP.dadd (FP.ddiv (FP.dmul due (dN t)) 4652007308841189376) 4517329193108106637) (u * t * 2000 + w) (w * 2000000) = true) (h3 : dM s p u w * 1000 ≤ u * t * s) : ¬ 0 < Op.cmpValue (FP.dcmp (dAbs (FP.dsub R due)) (FP.dadd (FP.ddiv (FP.dmul due (dN t)) 4652007308841189376) 4517329193108106637)) .g := by
  obtain ⟨sg, c, q, e1, hsg, hq, b1⟩ := low_at h1
  obtain ⟨d, r, e2, hr, b2⟩ := hig_at h2
  obtain ⟨o, ho, hg⟩ := ord_le hsg hq hr (num_le b1 b2 h3 hs hw)
  have e : FP.dcmp (dAbs (FP.dsub R due)) (FP.dadd (FP.ddiv (FP.dmul due (dN t)) 4652007308841189376) 4517329193108106637) = some o := by
    show FP.Core.order (FP.Core.decode _ _) (FP.Core.decode _ _) = _
    rw [e1, e2]; exact ho
  rw [e]
  cases o
  · decide
  · decide
  · exact absurd rfl hg
