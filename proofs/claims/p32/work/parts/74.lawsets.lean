/-! areSets walked: by program (wip/p32/lawsets.py) behind the facts on its bits -/
def UQ (n : Nat) (B x : Int32) : Prop := UP n B x ∧ 0 < x.toInt
theorem UQ_z {B x : Int32} : ¬ UQ 0 B x := fun h => UP_z h.1
theorem UQ_up {n : Nat} {B x : Int32} (h : UQ (n + 1) B x) (c : ¬ B ≤ x) : UQ n B (x + 1) := by
  have h0 := h.2
  have hb := i32_hi B
  have c1 := c
  rw [le32] at c1
  exact ⟨UP_up h.1 c, by rw [i32_suc (by omega)]; omega⟩
theorem UQ_ne {n : Nat} {B x : Int32} (h : UQ n B x) : ¬ x = 0 := fun e => by have := h.2; rw [e] at this; exact absurd this (by decide)
/-- an int under a mask -/
theorem and_b (x : Int32) (m : Nat) (hm : m < 2147483648) : 0 ≤ (x &&& Int32.ofNat m).toInt ∧ (x &&& Int32.ofNat m).toInt ≤ (m : Int) := by
  have h1 : (x &&& Int32.ofNat m).toUInt32.toNat ≤ m := by
    rw [Int32.toUInt32_and, UInt32.toNat_and]
    have e : (Int32.ofNat m).toUInt32.toNat = m := by
      rw [Int32.toUInt32_ofNat', UInt32.toNat_ofNat']
      omega
    rw [e]
    exact Nat.and_le_right
  have h2 : (x &&& Int32.ofNat m).toInt = ((x &&& Int32.ofNat m).toUInt32.toNat : Int) := by
    have h3 : (x &&& Int32.ofNat m).toInt = (x &&& Int32.ofNat m).toBitVec.toInt := rfl
    rw [h3, BitVec.toInt_eq_toNat_of_lt]
    · rfl
    · show 2 * (x &&& Int32.ofNat m).toUInt32.toNat < 2 ^ 32
      omega
  rw [h2]
  omega
theorem and_127 (x : Int32) : 0 ≤ (x &&& 127).toInt ∧ (x &&& 127).toInt ≤ 127 := and_b x 127 (by decide)
theorem and_15 (x : Int32) : 0 ≤ (x &&& 15).toInt ∧ (x &&& 15).toInt ≤ 15 := and_b x 15 (by decide)
theorem and_3 (x : Int32) : 0 ≤ (x &&& 3).toInt ∧ (x &&& 3).toInt ≤ 3 := and_b x 3 (by decide)
theorem and_65535 (x : Int32) : 0 ≤ (x &&& 65535).toInt ∧ (x &&& 65535).toInt ≤ 65535 := and_b x 65535 (by decide)
theorem sq3_of (x : Int32) : SQ3 ((((100 : Int32) * ((2 : Int32) + ((x >>> ((5 : Int32) &&& 31)) &&& (15 : Int32)))) + (1 : Int32)) + ((x >>> ((9 : Int32) &&& 31)) &&& (3 : Int32))) ((x >>> ((11 : Int32) &&& 31)) &&& (127 : Int32)) ((1 : Int32) + ((x >>> ((4 : Int32) &&& 31)) &&& (3 : Int32))) := by
  have h1 := and_15 (x >>> ((5 : Int32) &&& 31))
  have h2 := and_3 (x >>> ((9 : Int32) &&& 31))
  have h3 := and_127 (x >>> ((11 : Int32) &&& 31))
  have h4 := and_3 (x >>> ((4 : Int32) &&& 31))
  generalize (x >>> ((5 : Int32) &&& 31)) &&& (15 : Int32) = a at h1 ⊢
  generalize (x >>> ((9 : Int32) &&& 31)) &&& (3 : Int32) = b at h2 ⊢
  generalize (x >>> ((11 : Int32) &&& 31)) &&& (127 : Int32) = c at h3 ⊢
  generalize (x >>> ((4 : Int32) &&& 31)) &&& (3 : Int32) = d at h4 ⊢
  have e1 : (1 : Int32).toInt = 1 := by decide
  have e2 : (2 : Int32).toInt = 2 := by decide
  have e100 : (100 : Int32).toInt = 100 := by decide
  have f1 : ((2 : Int32) + a).toInt = 2 + a.toInt := by rw [i32_add (by rw [e2]; omega) (by rw [e2]; omega), e2]
  have f2 : ((100 : Int32) * ((2 : Int32) + a)).toInt = 100 * (2 + a.toInt) := by rw [i32_mul (by rw [e100, f1]; omega) (by rw [e100, f1]; omega), e100, f1]
  have f3 : ((100 : Int32) * ((2 : Int32) + a) + 1).toInt = 100 * (2 + a.toInt) + 1 := by rw [i32_add (by rw [f2, e1]; omega) (by rw [f2, e1]; omega), f2, e1]
  have f4 : ((100 : Int32) * ((2 : Int32) + a) + 1 + b).toInt = 100 * (2 + a.toInt) + 1 + b.toInt := by rw [i32_add (by rw [f3]; omega) (by rw [f3]; omega), f3]
  have f5 : ((1 : Int32) + d).toInt = 1 + d.toInt := by rw [i32_add (by rw [e1]; omega) (by rw [e1]; omega), e1]
  generalize (100 : Int32) * ((2 : Int32) + a) + 1 + b = y at f4 ⊢
  have g1 : (y / 100).toInt = 2 + a.toInt := by
    rw [i32_div (by rw [e100]; decide), e100, f4, Int.tdiv_eq_ediv_of_nonneg (by omega)]
    omega
  have g2 : (y - y / 100 * 100).toInt = 1 + b.toInt := by
    rw [i32_rem (by rw [e100]; decide), e100, f4, Int.tmod_eq_emod_of_nonneg (by omega)]
    omega
  unfold SQ3
  rw [g1, g2, f5]
  omega
def s_L_areSets_b439 (Z : St) (x5 : Int32) (x6 : Int32) (x7 : Int32) (x8 : Int32) (x9 : Int32) (x10 : Int32) : Int32 × St := (if (s_P_together Z x9 x10 x7) = (1 : Int32) then (if (s_P_searched Z (1030 : Int32) x7 x5 x6 (3 : Int32)).1 = (((2 : Int32) * x9) + ((x7 + (2 : Int32)) * x10)) then (if 0 < (Op.cmpValue (FP.dcmp (dAbs (FP.dsub (FP.ddiv (FP.l2d (s_P_planets Z x9 x10 (0 : Int32) (2 : Int32) (0 : Int32))) (FP.l2d (s_P_planets Z x9 x10 (0 : Int32) (2 : Int32) (1 : Int32)))) (FP.ddiv (FP.i2d (x5 / (100 : Int32))) (FP.i2d (x5 - x5 / (100 : Int32) * (100 : Int32)))))) (FP.dadd (FP.ddiv (FP.dmul (FP.ddiv (FP.i2d (x5 / (100 : Int32))) (FP.i2d (x5 - x5 / (100 : Int32) * (100 : Int32)))) (FP.i2d x6)) (4652007308841189376 : UInt64)) (4517329193108106637 : UInt64))) .g) then ((0 : Int32), (s_P_searched Z (1030 : Int32) x7 x5 x6 (3 : Int32)).2) else (if (s_P_searched (s_P_searched Z (1030 : Int32) x7 x5 x6 (3 : Int32)).2 (1030 : Int32) x7 x5 (x6 + (1 : Int32)) (0 : Int32)).1 < x8 then ((0 : Int32), (s_P_searched (s_P_searched Z (1030 : Int32) x7 x5 x6 (3 : Int32)).2 (1030 : Int32) x7 x5 (x6 + (1 : Int32)) (0 : Int32)).2) else (if (441 : Int32) < x8 then ((0 : Int32), (s_P_searched (s_P_searched Z (1030 : Int32) x7 x5 x6 (3 : Int32)).2 (1030 : Int32) x7 x5 (x6 + (1 : Int32)) (0 : Int32)).2) else ((1 : Int32), (s_P_searched (s_P_searched Z (1030 : Int32) x7 x5 x6 (3 : Int32)).2 (1030 : Int32) x7 x5 (x6 + (1 : Int32)) (0 : Int32)).2)))) else ((0 : Int32), (s_P_searched Z (1030 : Int32) x7 x5 x6 (3 : Int32)).2)) else ((0 : Int32), Z))
def s_L_areSets_b361 (Z : St) (x5 : Int32) (x6 : Int32) (x7 : Int32) : Int32 × St := (if (s_P_searched Z (1030 : Int32) x7 x5 x6 (0 : Int32)).1 = 0 then (if (s_P_searched (s_P_searched Z (1030 : Int32) x7 x5 x6 (0 : Int32)).2 (1030 : Int32) x7 x5 x6 (1 : Int32)).1 = (-2 : Int32) then ((1 : Int32), (s_P_searched (s_P_searched Z (1030 : Int32) x7 x5 x6 (0 : Int32)).2 (1030 : Int32) x7 x5 x6 (1 : Int32)).2) else ((0 : Int32), (s_P_searched (s_P_searched Z (1030 : Int32) x7 x5 x6 (0 : Int32)).2 (1030 : Int32) x7 x5 x6 (1 : Int32)).2)) else (s_L_areSets_b439 (s_P_searched (s_P_searched (s_P_searched Z (1030 : Int32) x7 x5 x6 (0 : Int32)).2 (1030 : Int32) x7 x5 x6 (1 : Int32)).2 (1030 : Int32) x7 x5 x6 (2 : Int32)).2 x5 x6 x7 (s_P_searched Z (1030 : Int32) x7 x5 x6 (0 : Int32)).1 (s_P_searched (s_P_searched Z (1030 : Int32) x7 x5 x6 (0 : Int32)).2 (1030 : Int32) x7 x5 x6 (1 : Int32)).1 (s_P_searched (s_P_searched (s_P_searched Z (1030 : Int32) x7 x5 x6 (0 : Int32)).2 (1030 : Int32) x7 x5 x6 (1 : Int32)).2 (1030 : Int32) x7 x5 x6 (2 : Int32)).1))
def s_L_areSets_b264 (k165 : St → Int32 → Int32 → Int32 → Int32 → Int32 × St) (k174 : St → Int32 → Int32 → Int32 → Int32 → Int32 → Int32 × St) (Z : St) (x1 : Int32) (x2 : Int32) (x3 : Int32) (x5 : Int32) (x6 : Int32) (x7 : Int64) (x9 : Int64) (x11 : Int32) (t0 : Int32) (t1 : Int32) : Int32 × St := (if t1 = t0 then (if (lg_cmp (if 0 < (s_P_planets Z x2 x3 x11 x6 (0 : Int32)) then (s_P_planets Z x2 x3 x11 x6 (0 : Int32)) else -(s_P_planets Z x2 x3 x11 x6 (0 : Int32))) x9) = 0 then (if (lg_cmp (s_P_planets Z x2 x3 x11 x6 (1 : Int32)) (if 0 < x7 then x7 else -x7)) = 0 then (k174 Z x1 x2 x3 x5 (x6 + 1)) else ((0 : Int32), Z)) else ((0 : Int32), Z)) else ((0 : Int32), Z))
def s_L_areSets_b253 (k165 : St → Int32 → Int32 → Int32 → Int32 → Int32 × St) (k174 : St → Int32 → Int32 → Int32 → Int32 → Int32 → Int32 × St) (Z : St) (x1 : Int32) (x2 : Int32) (x3 : Int32) (x5 : Int32) (x6 : Int32) (x7 : Int64) (x9 : Int64) (x11 : Int32) (t0 : Int32) : Int32 × St := (if x6 = (1 : Int32) then (s_L_areSets_b264 k165 k174 Z x1 x2 x3 x5 x6 x7 x9 x11 (1 : Int32) t0) else (s_L_areSets_b264 k165 k174 Z x1 x2 x3 x5 x6 x7 x9 x11 (0 : Int32) t0))
def s_L_areSets_b174 (k165 : St → Int32 → Int32 → Int32 → Int32 → Int32 × St) : Nat → St → Int32 → Int32 → Int32 → Int32 → Int32 → Int32 × St
  | 0, Z, _, _, _, _, _ => (0, Z)
  | n + 1, Z, x1, x2, x3, x5, x6 => (if (3 : Int32) ≤ x6 then (k165 Z x1 x2 x3 (x5 + 1)) else (if x5 = x6 then (if (lg_cmp (s_P_planets Z x2 x3 x5 x6 (0 : Int32)) (-9223372036854775808 : Int64)) = 0 then (s_L_areSets_b174 k165 n Z x1 x2 x3 x5 (x6 + 1)) else ((0 : Int32), Z)) else (if (lg_cmp (s_P_planets Z x2 x3 x5 x6 (1 : Int32)) (1 : Int64)) < 0 then ((0 : Int32), Z) else (if 0 ≤ (lg_cmp (s_P_planets Z x2 x3 x5 x6 (0 : Int32)) (0 : Int64)) then (s_L_areSets_b253 k165 (fun Z x1 x2 x3 x5 x6 => s_L_areSets_b174 k165 n Z x1 x2 x3 x5 x6) Z x1 x2 x3 x5 x6 (s_P_planets Z x2 x3 x5 x6 (0 : Int32)) (s_P_planets Z x2 x3 x5 x6 (1 : Int32)) (((3 : Int32) - x5) - x6) (0 : Int32)) else (s_L_areSets_b253 k165 (fun Z x1 x2 x3 x5 x6 => s_L_areSets_b174 k165 n Z x1 x2 x3 x5 x6) Z x1 x2 x3 x5 x6 (s_P_planets Z x2 x3 x5 x6 (0 : Int32)) (s_P_planets Z x2 x3 x5 x6 (1 : Int32)) (((3 : Int32) - x5) - x6) (1 : Int32))))))
def s_L_areSets_b165 : Nat → St → Int32 → Int32 → Int32 → Int32 → Int32 × St
  | 0, Z, _, _, _, _ => (0, Z)
  | n + 1, Z, x1, x2, x3, x5 => (if (3 : Int32) ≤ x5 then (s_L_areSets_b361 Z ((((100 : Int32) * ((2 : Int32) + ((x1 >>> ((5 : Int32) &&& 31)) &&& (15 : Int32)))) + (1 : Int32)) + ((x1 >>> ((9 : Int32) &&& 31)) &&& (3 : Int32))) ((x1 >>> ((11 : Int32) &&& 31)) &&& (127 : Int32)) ((1 : Int32) + ((x1 >>> ((4 : Int32) &&& 31)) &&& (3 : Int32)))) else (s_L_areSets_b174 (fun Z x1 x2 x3 x5 => s_L_areSets_b165 n Z x1 x2 x3 x5) (4) Z x1 x2 x3 x5 (0 : Int32)))
def s_L_areSets_b151 (k36 : St → Int32 → Int32 → Int32 → Int32 → Int32 → Int32 × St) (Z : St) (x1 : Int32) (x2 : Int32) (x3 : Int32) (x4 : Int32) (x5 : Int32) (t0 : Int32) (t1 : Int32) : Int32 × St := (if t1 = t0 then (k36 Z x1 x2 x3 x4 (x5 + 1)) else ((0 : Int32), Z))
def s_L_areSets_b135 (k36 : St → Int32 → Int32 → Int32 → Int32 → Int32 → Int32 × St) (Z : St) (x1 : Int32) (x2 : Int32) (x3 : Int32) (x4 : Int32) (x5 : Int32) (t0 : Int32) : Int32 × St := (if (((2 : Int32) * (x2 + x3)) - ((2 : Int32) * (x2 + x3)) / x5 * x5) = 0 then (s_L_areSets_b151 k36 Z x1 x2 x3 x4 x5 (1 : Int32) t0) else (s_L_areSets_b151 k36 Z x1 x2 x3 x4 x5 (0 : Int32) t0))
def s_L_areSets_b130 (k36 : St → Int32 → Int32 → Int32 → Int32 → Int32 → Int32 × St) (Z : St) (x1 : Int32) (x2 : Int32) (x3 : Int32) (x4 : Int32) (x5 : Int32) : Int32 × St := (s_L_areSets_b135 k36 Z x1 x2 x3 x4 x5 (1 : Int32))
def s_L_areSets_b117 (k36 : St → Int32 → Int32 → Int32 → Int32 → Int32 → Int32 × St) (Z : St) (x1 : Int32) (x2 : Int32) (x3 : Int32) (x4 : Int32) (x5 : Int32) (x6 : Int32) : Int32 × St := (if x6 = (1 : Int32) then (s_L_areSets_b130 k36 Z x1 x2 x3 x4 x5) else (if x6 = (-2 : Int32) then (s_L_areSets_b130 k36 Z x1 x2 x3 x4 x5) else (s_L_areSets_b135 k36 Z x1 x2 x3 x4 x5 (0 : Int32))))
def s_L_areSets_b104 (k36 : St → Int32 → Int32 → Int32 → Int32 → Int32 → Int32 × St) (Z : St) (x1 : Int32) (x2 : Int32) (x3 : Int32) (x4 : Int32) (x5 : Int32) (x6 : Int32) : Int32 × St := (if x5 ≤ x4 then (s_L_areSets_b117 k36 Z x1 x2 x3 x4 x5 x6) else (if x6 = (1 : Int32) then ((0 : Int32), Z) else (s_L_areSets_b117 k36 Z x1 x2 x3 x4 x5 x6)))
def s_L_areSets_b91 (k36 : St → Int32 → Int32 → Int32 → Int32 → Int32 → Int32 × St) (Z : St) (x1 : Int32) (x2 : Int32) (x3 : Int32) (x4 : Int32) (x5 : Int32) (x6 : Int32) : Int32 × St := (if x5 = x4 then (if x6 = (1 : Int32) then (s_L_areSets_b104 k36 Z x1 x2 x3 x4 x5 x6) else ((0 : Int32), Z)) else (s_L_areSets_b104 k36 Z x1 x2 x3 x4 x5 x6))
def s_L_areSets_b79 (k36 : St → Int32 → Int32 → Int32 → Int32 → Int32 → Int32 × St) (Z : St) (x1 : Int32) (x2 : Int32) (x3 : Int32) (x4 : Int32) (x5 : Int32) (x6 : Int32) : Int32 × St := (if x5 = (1 : Int32) then (if x6 = (1 : Int32) then (s_L_areSets_b91 k36 Z x1 x2 x3 x4 x5 x6) else ((0 : Int32), Z)) else (s_L_areSets_b91 k36 Z x1 x2 x3 x4 x5 x6))
def s_L_areSets_b36 : Nat → St → Int32 → Int32 → Int32 → Int32 → Int32 → Int32 × St
  | 0, Z, _, _, _, _, _ => (0, Z)
  | n + 1, Z, x1, x2, x3, x4, x5 => (if (9 : Int32) ≤ x5 then (s_L_areSets_b165 (4) Z x1 x2 x3 (0 : Int32)) else (if (s_P_together Z x2 x3 x5) = (1 : Int32) then (s_L_areSets_b79 (fun Z x1 x2 x3 x4 x5 => s_L_areSets_b36 n Z x1 x2 x3 x4 x5) Z x1 x2 x3 x4 x5 (s_P_together Z x2 x3 x5)) else (if (s_P_together Z x2 x3 x5) = (-1 : Int32) then (s_L_areSets_b79 (fun Z x1 x2 x3 x4 x5 => s_L_areSets_b36 n Z x1 x2 x3 x4 x5) Z x1 x2 x3 x4 x5 (s_P_together Z x2 x3 x5)) else (if (s_P_together Z x2 x3 x5) = (-2 : Int32) then (s_L_areSets_b79 (fun Z x1 x2 x3 x4 x5 => s_L_areSets_b36 n Z x1 x2 x3 x4 x5) Z x1 x2 x3 x4 x5 (s_P_together Z x2 x3 x5)) else (if (s_P_together Z x2 x3 x5) = (-3 : Int32) then (s_L_areSets_b79 (fun Z x1 x2 x3 x4 x5 => s_L_areSets_b36 n Z x1 x2 x3 x4 x5) Z x1 x2 x3 x4 x5 (s_P_together Z x2 x3 x5)) else ((0 : Int32), Z))))))
def s_L_areSets (S : St) (a1 : Int32) : Int32 × St := (s_L_areSets_b36 (10) S a1 ((5 : Int32) + (((a1 >>> ((3 : Int32) &&& 31)) &&& (127 : Int32)) - ((a1 >>> ((3 : Int32) &&& 31)) &&& (127 : Int32)) / (95 : Int32) * (95 : Int32))) ((5 : Int32) + (((a1 >>> ((10 : Int32) &&& 31)) &&& (127 : Int32)) - ((a1 >>> ((10 : Int32) &&& 31)) &&& (127 : Int32)) / (95 : Int32) * (95 : Int32))) (s_P_most S ((5 : Int32) + (((a1 >>> ((3 : Int32) &&& 31)) &&& (127 : Int32)) - ((a1 >>> ((3 : Int32) &&& 31)) &&& (127 : Int32)) / (95 : Int32) * (95 : Int32))) ((5 : Int32) + (((a1 >>> ((10 : Int32) &&& 31)) &&& (127 : Int32)) - ((a1 >>> ((10 : Int32) &&& 31)) &&& (127 : Int32)) / (95 : Int32) * (95 : Int32)))) (1 : Int32))
theorem z_L_areSets_b439 (Z : St) (x5 : Int32) (x6 : Int32) (x7 : Int32) (x8 : Int32) (x9 : Int32) (x10 : Int32) : (s_L_areSets_b439 Z x5 x6 x7 x8 x9 x10).1 = 0 ∨ (s_L_areSets_b439 Z x5 x6 x7 x8 x9 x10).1 = 1 := by rw [s_L_areSets_b439]; exact (ite_z1 (ite_z1 (ite_z1 (Or.inl rfl) (ite_z1 (Or.inl rfl) (ite_z1 (Or.inl rfl) (Or.inr rfl)))) (Or.inl rfl)) (Or.inl rfl))
theorem z_L_areSets_b361 (Z : St) (x5 : Int32) (x6 : Int32) (x7 : Int32) : (s_L_areSets_b361 Z x5 x6 x7).1 = 0 ∨ (s_L_areSets_b361 Z x5 x6 x7).1 = 1 := by rw [s_L_areSets_b361]; exact (ite_z1 (ite_z1 (Or.inr rfl) (Or.inl rfl)) (z_L_areSets_b439 (s_P_searched (s_P_searched (s_P_searched Z (1030 : Int32) x7 x5 x6 (0 : Int32)).2 (1030 : Int32) x7 x5 x6 (1 : Int32)).2 (1030 : Int32) x7 x5 x6 (2 : Int32)).2 x5 x6 x7 (s_P_searched Z (1030 : Int32) x7 x5 x6 (0 : Int32)).1 (s_P_searched (s_P_searched Z (1030 : Int32) x7 x5 x6 (0 : Int32)).2 (1030 : Int32) x7 x5 x6 (1 : Int32)).1 (s_P_searched (s_P_searched (s_P_searched Z (1030 : Int32) x7 x5 x6 (0 : Int32)).2 (1030 : Int32) x7 x5 x6 (1 : Int32)).2 (1030 : Int32) x7 x5 x6 (2 : Int32)).1))
theorem z_L_areSets_b264 (k165 : St → Int32 → Int32 → Int32 → Int32 → Int32 × St) (k174 : St → Int32 → Int32 → Int32 → Int32 → Int32 → Int32 × St) (hk165 : ∀ Z x1 x2 x3 x5, (k165 Z x1 x2 x3 x5).1 = 0 ∨ (k165 Z x1 x2 x3 x5).1 = 1) (hk174 : ∀ Z x1 x2 x3 x5 x6, (k174 Z x1 x2 x3 x5 x6).1 = 0 ∨ (k174 Z x1 x2 x3 x5 x6).1 = 1) (Z : St) (x1 : Int32) (x2 : Int32) (x3 : Int32) (x5 : Int32) (x6 : Int32) (x7 : Int64) (x9 : Int64) (x11 : Int32) (t0 : Int32) (t1 : Int32) : (s_L_areSets_b264 k165 k174 Z x1 x2 x3 x5 x6 x7 x9 x11 t0 t1).1 = 0 ∨ (s_L_areSets_b264 k165 k174 Z x1 x2 x3 x5 x6 x7 x9 x11 t0 t1).1 = 1 := by rw [s_L_areSets_b264]; exact (ite_z1 (ite_z1 (ite_z1 (hk174 Z x1 x2 x3 x5 (x6 + 1)) (Or.inl rfl)) (Or.inl rfl)) (Or.inl rfl))
theorem z_L_areSets_b253 (k165 : St → Int32 → Int32 → Int32 → Int32 → Int32 × St) (k174 : St → Int32 → Int32 → Int32 → Int32 → Int32 → Int32 × St) (hk165 : ∀ Z x1 x2 x3 x5, (k165 Z x1 x2 x3 x5).1 = 0 ∨ (k165 Z x1 x2 x3 x5).1 = 1) (hk174 : ∀ Z x1 x2 x3 x5 x6, (k174 Z x1 x2 x3 x5 x6).1 = 0 ∨ (k174 Z x1 x2 x3 x5 x6).1 = 1) (Z : St) (x1 : Int32) (x2 : Int32) (x3 : Int32) (x5 : Int32) (x6 : Int32) (x7 : Int64) (x9 : Int64) (x11 : Int32) (t0 : Int32) : (s_L_areSets_b253 k165 k174 Z x1 x2 x3 x5 x6 x7 x9 x11 t0).1 = 0 ∨ (s_L_areSets_b253 k165 k174 Z x1 x2 x3 x5 x6 x7 x9 x11 t0).1 = 1 := by rw [s_L_areSets_b253]; exact (ite_z1 (z_L_areSets_b264 k165 k174 hk165 hk174 Z x1 x2 x3 x5 x6 x7 x9 x11 (1 : Int32) t0) (z_L_areSets_b264 k165 k174 hk165 hk174 Z x1 x2 x3 x5 x6 x7 x9 x11 (0 : Int32) t0))
theorem z_L_areSets_b174 (k165 : St → Int32 → Int32 → Int32 → Int32 → Int32 × St) (hk165 : ∀ Z x1 x2 x3 x5, (k165 Z x1 x2 x3 x5).1 = 0 ∨ (k165 Z x1 x2 x3 x5).1 = 1) (n : Nat) (Z : St) (x1 : Int32) (x2 : Int32) (x3 : Int32) (x5 : Int32) (x6 : Int32) : (s_L_areSets_b174 k165 n Z x1 x2 x3 x5 x6).1 = 0 ∨ (s_L_areSets_b174 k165 n Z x1 x2 x3 x5 x6).1 = 1 := by
  induction n generalizing Z x1 x2 x3 x5 x6 with
  | zero => exact Or.inl rfl
  | succ n ih => rw [s_L_areSets_b174]; exact (ite_z1 (hk165 Z x1 x2 x3 (x5 + 1)) (ite_z1 (ite_z1 (ih Z x1 x2 x3 x5 (x6 + 1)) (Or.inl rfl)) (ite_z1 (Or.inl rfl) (ite_z1 (z_L_areSets_b253 k165 (fun Z x1 x2 x3 x5 x6 => s_L_areSets_b174 k165 n Z x1 x2 x3 x5 x6) hk165 (fun Z x1 x2 x3 x5 x6 => ih Z x1 x2 x3 x5 x6) Z x1 x2 x3 x5 x6 (s_P_planets Z x2 x3 x5 x6 (0 : Int32)) (s_P_planets Z x2 x3 x5 x6 (1 : Int32)) (((3 : Int32) - x5) - x6) (0 : Int32)) (z_L_areSets_b253 k165 (fun Z x1 x2 x3 x5 x6 => s_L_areSets_b174 k165 n Z x1 x2 x3 x5 x6) hk165 (fun Z x1 x2 x3 x5 x6 => ih Z x1 x2 x3 x5 x6) Z x1 x2 x3 x5 x6 (s_P_planets Z x2 x3 x5 x6 (0 : Int32)) (s_P_planets Z x2 x3 x5 x6 (1 : Int32)) (((3 : Int32) - x5) - x6) (1 : Int32))))))
theorem z_L_areSets_b165 (n : Nat) (Z : St) (x1 : Int32) (x2 : Int32) (x3 : Int32) (x5 : Int32) : (s_L_areSets_b165 n Z x1 x2 x3 x5).1 = 0 ∨ (s_L_areSets_b165 n Z x1 x2 x3 x5).1 = 1 := by
  induction n generalizing Z x1 x2 x3 x5 with
  | zero => exact Or.inl rfl
  | succ n ih => rw [s_L_areSets_b165]; exact (ite_z1 (z_L_areSets_b361 Z ((((100 : Int32) * ((2 : Int32) + ((x1 >>> ((5 : Int32) &&& 31)) &&& (15 : Int32)))) + (1 : Int32)) + ((x1 >>> ((9 : Int32) &&& 31)) &&& (3 : Int32))) ((x1 >>> ((11 : Int32) &&& 31)) &&& (127 : Int32)) ((1 : Int32) + ((x1 >>> ((4 : Int32) &&& 31)) &&& (3 : Int32)))) (z_L_areSets_b174 (fun Z x1 x2 x3 x5 => s_L_areSets_b165 n Z x1 x2 x3 x5) (fun Z x1 x2 x3 x5 => ih Z x1 x2 x3 x5) (4) Z x1 x2 x3 x5 (0 : Int32)))
theorem z_L_areSets_b151 (k36 : St → Int32 → Int32 → Int32 → Int32 → Int32 → Int32 × St) (hk36 : ∀ Z x1 x2 x3 x4 x5, (k36 Z x1 x2 x3 x4 x5).1 = 0 ∨ (k36 Z x1 x2 x3 x4 x5).1 = 1) (Z : St) (x1 : Int32) (x2 : Int32) (x3 : Int32) (x4 : Int32) (x5 : Int32) (t0 : Int32) (t1 : Int32) : (s_L_areSets_b151 k36 Z x1 x2 x3 x4 x5 t0 t1).1 = 0 ∨ (s_L_areSets_b151 k36 Z x1 x2 x3 x4 x5 t0 t1).1 = 1 := by rw [s_L_areSets_b151]; exact (ite_z1 (hk36 Z x1 x2 x3 x4 (x5 + 1)) (Or.inl rfl))
theorem z_L_areSets_b135 (k36 : St → Int32 → Int32 → Int32 → Int32 → Int32 → Int32 × St) (hk36 : ∀ Z x1 x2 x3 x4 x5, (k36 Z x1 x2 x3 x4 x5).1 = 0 ∨ (k36 Z x1 x2 x3 x4 x5).1 = 1) (Z : St) (x1 : Int32) (x2 : Int32) (x3 : Int32) (x4 : Int32) (x5 : Int32) (t0 : Int32) : (s_L_areSets_b135 k36 Z x1 x2 x3 x4 x5 t0).1 = 0 ∨ (s_L_areSets_b135 k36 Z x1 x2 x3 x4 x5 t0).1 = 1 := by rw [s_L_areSets_b135]; exact (ite_z1 (z_L_areSets_b151 k36 hk36 Z x1 x2 x3 x4 x5 (1 : Int32) t0) (z_L_areSets_b151 k36 hk36 Z x1 x2 x3 x4 x5 (0 : Int32) t0))
theorem z_L_areSets_b130 (k36 : St → Int32 → Int32 → Int32 → Int32 → Int32 → Int32 × St) (hk36 : ∀ Z x1 x2 x3 x4 x5, (k36 Z x1 x2 x3 x4 x5).1 = 0 ∨ (k36 Z x1 x2 x3 x4 x5).1 = 1) (Z : St) (x1 : Int32) (x2 : Int32) (x3 : Int32) (x4 : Int32) (x5 : Int32) : (s_L_areSets_b130 k36 Z x1 x2 x3 x4 x5).1 = 0 ∨ (s_L_areSets_b130 k36 Z x1 x2 x3 x4 x5).1 = 1 := by rw [s_L_areSets_b130]; exact (z_L_areSets_b135 k36 hk36 Z x1 x2 x3 x4 x5 (1 : Int32))
theorem z_L_areSets_b117 (k36 : St → Int32 → Int32 → Int32 → Int32 → Int32 → Int32 × St) (hk36 : ∀ Z x1 x2 x3 x4 x5, (k36 Z x1 x2 x3 x4 x5).1 = 0 ∨ (k36 Z x1 x2 x3 x4 x5).1 = 1) (Z : St) (x1 : Int32) (x2 : Int32) (x3 : Int32) (x4 : Int32) (x5 : Int32) (x6 : Int32) : (s_L_areSets_b117 k36 Z x1 x2 x3 x4 x5 x6).1 = 0 ∨ (s_L_areSets_b117 k36 Z x1 x2 x3 x4 x5 x6).1 = 1 := by rw [s_L_areSets_b117]; exact (ite_z1 (z_L_areSets_b130 k36 hk36 Z x1 x2 x3 x4 x5) (ite_z1 (z_L_areSets_b130 k36 hk36 Z x1 x2 x3 x4 x5) (z_L_areSets_b135 k36 hk36 Z x1 x2 x3 x4 x5 (0 : Int32))))
theorem z_L_areSets_b104 (k36 : St → Int32 → Int32 → Int32 → Int32 → Int32 → Int32 × St) (hk36 : ∀ Z x1 x2 x3 x4 x5, (k36 Z x1 x2 x3 x4 x5).1 = 0 ∨ (k36 Z x1 x2 x3 x4 x5).1 = 1) (Z : St) (x1 : Int32) (x2 : Int32) (x3 : Int32) (x4 : Int32) (x5 : Int32) (x6 : Int32) : (s_L_areSets_b104 k36 Z x1 x2 x3 x4 x5 x6).1 = 0 ∨ (s_L_areSets_b104 k36 Z x1 x2 x3 x4 x5 x6).1 = 1 := by rw [s_L_areSets_b104]; exact (ite_z1 (z_L_areSets_b117 k36 hk36 Z x1 x2 x3 x4 x5 x6) (ite_z1 (Or.inl rfl) (z_L_areSets_b117 k36 hk36 Z x1 x2 x3 x4 x5 x6)))
theorem z_L_areSets_b91 (k36 : St → Int32 → Int32 → Int32 → Int32 → Int32 → Int32 × St) (hk36 : ∀ Z x1 x2 x3 x4 x5, (k36 Z x1 x2 x3 x4 x5).1 = 0 ∨ (k36 Z x1 x2 x3 x4 x5).1 = 1) (Z : St) (x1 : Int32) (x2 : Int32) (x3 : Int32) (x4 : Int32) (x5 : Int32) (x6 : Int32) : (s_L_areSets_b91 k36 Z x1 x2 x3 x4 x5 x6).1 = 0 ∨ (s_L_areSets_b91 k36 Z x1 x2 x3 x4 x5 x6).1 = 1 := by rw [s_L_areSets_b91]; exact (ite_z1 (ite_z1 (z_L_areSets_b104 k36 hk36 Z x1 x2 x3 x4 x5 x6) (Or.inl rfl)) (z_L_areSets_b104 k36 hk36 Z x1 x2 x3 x4 x5 x6))
theorem z_L_areSets_b79 (k36 : St → Int32 → Int32 → Int32 → Int32 → Int32 → Int32 × St) (hk36 : ∀ Z x1 x2 x3 x4 x5, (k36 Z x1 x2 x3 x4 x5).1 = 0 ∨ (k36 Z x1 x2 x3 x4 x5).1 = 1) (Z : St) (x1 : Int32) (x2 : Int32) (x3 : Int32) (x4 : Int32) (x5 : Int32) (x6 : Int32) : (s_L_areSets_b79 k36 Z x1 x2 x3 x4 x5 x6).1 = 0 ∨ (s_L_areSets_b79 k36 Z x1 x2 x3 x4 x5 x6).1 = 1 := by rw [s_L_areSets_b79]; exact (ite_z1 (ite_z1 (z_L_areSets_b91 k36 hk36 Z x1 x2 x3 x4 x5 x6) (Or.inl rfl)) (z_L_areSets_b91 k36 hk36 Z x1 x2 x3 x4 x5 x6))
theorem z_L_areSets_b36 (n : Nat) (Z : St) (x1 : Int32) (x2 : Int32) (x3 : Int32) (x4 : Int32) (x5 : Int32) : (s_L_areSets_b36 n Z x1 x2 x3 x4 x5).1 = 0 ∨ (s_L_areSets_b36 n Z x1 x2 x3 x4 x5).1 = 1 := by
  induction n generalizing Z x1 x2 x3 x4 x5 with
  | zero => exact Or.inl rfl
  | succ n ih => rw [s_L_areSets_b36]; exact (ite_z1 (z_L_areSets_b165 (4) Z x1 x2 x3 (0 : Int32)) (ite_z1 (z_L_areSets_b79 (fun Z x1 x2 x3 x4 x5 => s_L_areSets_b36 n Z x1 x2 x3 x4 x5) (fun Z x1 x2 x3 x4 x5 => ih Z x1 x2 x3 x4 x5) Z x1 x2 x3 x4 x5 (s_P_together Z x2 x3 x5)) (ite_z1 (z_L_areSets_b79 (fun Z x1 x2 x3 x4 x5 => s_L_areSets_b36 n Z x1 x2 x3 x4 x5) (fun Z x1 x2 x3 x4 x5 => ih Z x1 x2 x3 x4 x5) Z x1 x2 x3 x4 x5 (s_P_together Z x2 x3 x5)) (ite_z1 (z_L_areSets_b79 (fun Z x1 x2 x3 x4 x5 => s_L_areSets_b36 n Z x1 x2 x3 x4 x5) (fun Z x1 x2 x3 x4 x5 => ih Z x1 x2 x3 x4 x5) Z x1 x2 x3 x4 x5 (s_P_together Z x2 x3 x5)) (ite_z1 (z_L_areSets_b79 (fun Z x1 x2 x3 x4 x5 => s_L_areSets_b36 n Z x1 x2 x3 x4 x5) (fun Z x1 x2 x3 x4 x5 => ih Z x1 x2 x3 x4 x5) Z x1 x2 x3 x4 x5 (s_P_together Z x2 x3 x5)) (Or.inl rfl))))))
theorem z_L_areSets (S : St) (a1 : Int32) : (s_L_areSets S a1).1 = 0 ∨ (s_L_areSets S a1).1 = 1 := by rw [s_L_areSets]; exact (z_L_areSets_b36 (10) S a1 ((5 : Int32) + (((a1 >>> ((3 : Int32) &&& 31)) &&& (127 : Int32)) - ((a1 >>> ((3 : Int32) &&& 31)) &&& (127 : Int32)) / (95 : Int32) * (95 : Int32))) ((5 : Int32) + (((a1 >>> ((10 : Int32) &&& 31)) &&& (127 : Int32)) - ((a1 >>> ((10 : Int32) &&& 31)) &&& (127 : Int32)) / (95 : Int32) * (95 : Int32))) (s_P_most S ((5 : Int32) + (((a1 >>> ((3 : Int32) &&& 31)) &&& (127 : Int32)) - ((a1 >>> ((3 : Int32) &&& 31)) &&& (127 : Int32)) / (95 : Int32) * (95 : Int32))) ((5 : Int32) + (((a1 >>> ((10 : Int32) &&& 31)) &&& (127 : Int32)) - ((a1 >>> ((10 : Int32) &&& 31)) &&& (127 : Int32)) / (95 : Int32) * (95 : Int32)))) (1 : Int32))
set_option maxRecDepth 20000 in
theorem c_L_areSets (l : Launch) (E : Cx) (ad : Nat → Nat) (X : va_W) (S : St) (A : Nat → Prop) (a1 : Int32) : Met l y_L_areSets (Cond.code y_L_areSets b_L_areSets 15 (some .boolean) :: TB) (rk 6 144) (va_Pc [.ref (ad 39), .int a1] (preM E A (fun S => wb E ad S ++ X) S)) (va_Qi (fun r u => (r, u) = (s_L_areSets S a1)) (fun u t => va_P E.1 vwCl ((fun S => wb E ad S ++ X) u) t.heap) A) 0 0 A := by
  refine w_muI rfl (Nat.le_of_ble_eq_true rfl) (k_nb (z_L_areSets S a1)) ?_
  intro p e s m args below meth c Q ls hx hb hml hts hown hP hK hD hS hl hend
  have hl : lv_has ls 15 [(0, .ref (ad 39)), (1, .int a1)] := hl
  have hP : va_P E.1 vwCl (wb E ad S ++ X) s.heap := hP
  have hown : s.vm.findClass R_L = some m.cls := hown
  have hD : ∀ S' : St, va_D A (wb E ad S' ++ X) := hD
  have b439 : ∀ (Z : St) (x5 : Int32) (x6 : Int32) (x7 : Int32) (x8 : Int32) (x9 : Int32) (x10 : Int32) (H : Heap) (locs : List Loc), va_P E.1 vwCl (wb E ad Z ++ X) H → va_S A s.heap H locs → (SQ3 x5 x6 x7) → (S3 x9 ∧ S3 x10) → ∀ (ls : Array Slot), lv_has ls 15 [(0, .ref (ad 39)), (5, .int x5), (6, .int x6), (7, .int x7), (8, .int x8), (9, .int x9), (10, .int x10)] → (s_L_areSets S a1) = s_L_areSets_b439 Z x5 x6 x7 x8 x9 x10 → W p l e (rk 6 144) s m args below meth c H locs 0 0 Q (F0 m 439 ls []) := by
    intro Z x5 x6 x7 x8 x9 x10 H locs hP hS hs h9 ls hl hq
    refine lv_aload_n hx hb d_L_areSets_439 rfl (lv_at hl 0 rfl) ?_
    refine lv_iload hx hb d_L_areSets_440 (lv_at hl 5 rfl) ?_
    refine lv_iload hx hb d_L_areSets_442 (lv_at hl 6 rfl) ?_
    refine lv_iconst (v := (0 : Int32)) hx hb d_L_areSets_444 rfl ?_
    refine lv_iconst (v := (2 : Int32)) hx hb d_L_areSets_445 rfl ?_
    refine lv_iconst (v := (0 : Int32)) hx hb d_L_areSets_446 rfl ?_
    refine k_vl (rest := []) (c_P_planets l E ad X Z x9 x10 (0 : Int32) (2 : Int32) (0 : Int32)) mi_P_planets ml_L_119 hx hb hml hts hown hK hP rvP hl ⟨rfl, rfl⟩ ⟨(Nat.le_of_ble_eq_true rfl), (Nat.le_of_ble_eq_true rfl)⟩ ⟨Nat.zero_le _, Nat.zero_le _⟩ rfl (Nat.le_of_ble_eq_true rfl) rfl d_L_areSets_447 ?_
    refine lv_l2d hx hb d_L_areSets_450 ?_
    refine lv_aload_n hx hb d_L_areSets_451 rfl (lv_at hl 0 rfl) ?_
    refine lv_iload hx hb d_L_areSets_452 (lv_at hl 5 rfl) ?_
    refine lv_iload hx hb d_L_areSets_454 (lv_at hl 6 rfl) ?_
    refine lv_iconst (v := (0 : Int32)) hx hb d_L_areSets_456 rfl ?_
    refine lv_iconst (v := (2 : Int32)) hx hb d_L_areSets_457 rfl ?_
    refine lv_iconst (v := (1 : Int32)) hx hb d_L_areSets_458 rfl ?_
    refine k_vl (rest := [.double (FP.l2d (s_P_planets Z x9 x10 (0 : Int32) (2 : Int32) (0 : Int32)))]) (c_P_planets l E ad X Z x9 x10 (0 : Int32) (2 : Int32) (1 : Int32)) mi_P_planets ml_L_119 hx hb hml hts hown hK hP rvP hl ⟨rfl, rfl⟩ ⟨(Nat.le_of_ble_eq_true rfl), (Nat.le_of_ble_eq_true rfl)⟩ ⟨Nat.zero_le _, Nat.zero_le _⟩ rfl (Nat.le_of_ble_eq_true rfl) rfl d_L_areSets_459 ?_
    refine lv_l2d hx hb d_L_areSets_462 ?_
    refine lv_ddiv hx hb d_L_areSets_463 (nd_463 h9.1 h9.2) ?_
    refine lv_dstore (lv' := [(11, .double (FP.ddiv (FP.l2d (s_P_planets Z x9 x10 (0 : Int32) (2 : Int32) (0 : Int32))) (FP.l2d (s_P_planets Z x9 x10 (0 : Int32) (2 : Int32) (1 : Int32))))), (0, .ref (ad 39)), (5, .int x5), (6, .int x6), (7, .int x7), (8, .int x8), (9, .int x9), (10, .int x10)]) hx hb d_L_areSets_464 hl (by decide) rfl (fun ls hl => ?_)
    refine lv_iload hx hb d_L_areSets_466 (lv_at hl 2 rfl) ?_
    refine lv_bipush (v := (100 : Int32)) hx hb d_L_areSets_468 rfl ?_
    refine lv_idiv hx hb d_L_areSets_470 (by decide) ?_
    refine lv_i2d hx hb d_L_areSets_471 ?_
    refine lv_iload hx hb d_L_areSets_472 (lv_at hl 2 rfl) ?_
    refine lv_bipush (v := (100 : Int32)) hx hb d_L_areSets_474 rfl ?_
    refine lv_irem hx hb d_L_areSets_476 (by decide) ?_
    refine lv_i2d hx hb d_L_areSets_477 ?_
    refine lv_ddiv hx hb d_L_areSets_478 (nd_478 hs) ?_
    refine lv_dstore (lv' := [(13, .double (FP.ddiv (FP.i2d (x5 / (100 : Int32))) (FP.i2d (x5 - x5 / (100 : Int32) * (100 : Int32))))), (11, .double (FP.ddiv (FP.l2d (s_P_planets Z x9 x10 (0 : Int32) (2 : Int32) (0 : Int32))) (FP.l2d (s_P_planets Z x9 x10 (0 : Int32) (2 : Int32) (1 : Int32))))), (0, .ref (ad 39)), (5, .int x5), (6, .int x6), (7, .int x7), (8, .int x8), (9, .int x9), (10, .int x10)]) hx hb d_L_areSets_479 hl (by decide) rfl (fun ls hl => ?_)
    refine lv_aload_n hx hb d_L_areSets_481 rfl (lv_at hl 2 rfl) ?_
    refine lv_iload hx hb d_L_areSets_482 (lv_at hl 7 rfl) ?_
    refine lv_iload hx hb d_L_areSets_484 (lv_at hl 8 rfl) ?_
    refine lv_iload hx hb d_L_areSets_486 (lv_at hl 5 rfl) ?_
    refine k_vi (rest := []) (c_P_together l E ad X Z x9 x10 x7) mi_P_together ml_L_115 hx hb hml hts hown hK hP rvP hl ⟨rfl, rfl⟩ ⟨(Nat.le_of_ble_eq_true rfl), (Nat.le_of_ble_eq_true rfl)⟩ ⟨Nat.zero_le _, Nat.zero_le _⟩ rfl (Nat.le_of_ble_eq_true rfl) rfl d_L_areSets_488 ?_
    refine lv_iconst (v := (1 : Int32)) hx hb d_L_areSets_491 rfl ?_
    refine lv_icmp_ne (tgt := 583) hx hb d_L_areSets_492 (by decide) (fun c_492 => ?_) (fun c_492 => ?_)
    · refine lv_iconst (v := (0 : Int32)) hx hb d_L_areSets_583 rfl ?_
      exact hend _ _ _ _ _ _ (by rw [hq, s_L_areSets_b439, if_neg c_492]) hP hS d_L_areSets_584
    · refine lv_aload_n hx hb d_L_areSets_495 rfl (lv_at hl 2 rfl) ?_
      refine lv_sipush (v := (1030 : Int32)) hx hb d_L_areSets_496 rfl ?_
      refine lv_iload hx hb d_L_areSets_499 (lv_at hl 5 rfl) ?_
      refine lv_iload hx hb d_L_areSets_501 (lv_at hl 3 rfl) ?_
      refine lv_iload hx hb d_L_areSets_503 (lv_at hl 4 rfl) ?_
      refine lv_iconst (v := (3 : Int32)) hx hb d_L_areSets_505 rfl ?_
      refine k_mvi (rest := []) (c_P_searched l E ad X Z A (1030 : Int32) x7 x5 x6 (3 : Int32)) mi_P_searched ml_L_123 hx hb hml hts hown hK hP hD hS rvP hl ⟨rfl, rfl⟩ ⟨(Nat.le_of_ble_eq_true rfl), (Nat.le_of_ble_eq_true rfl)⟩ ⟨Nat.zero_le _, Nat.zero_le _⟩ rfl (Nat.le_of_ble_eq_true rfl) rfl d_L_areSets_506 (fun H locs hP hS => ?_)
      have hP : va_P E.1 vwCl (wb E ad (s_P_searched Z (1030 : Int32) x7 x5 x6 (3 : Int32)).2 ++ X) H := hP
      refine lv_iconst (v := (2 : Int32)) hx hb d_L_areSets_509 rfl ?_
      refine lv_iload hx hb d_L_areSets_510 (lv_at hl 7 rfl) ?_
      refine lv_imul hx hb d_L_areSets_512 ?_
      refine lv_iload hx hb d_L_areSets_513 (lv_at hl 5 rfl) ?_
      refine lv_iconst (v := (2 : Int32)) hx hb d_L_areSets_515 rfl ?_
      refine lv_iadd hx hb d_L_areSets_516 ?_
      refine lv_iload hx hb d_L_areSets_517 (lv_at hl 8 rfl) ?_
      refine lv_imul hx hb d_L_areSets_519 ?_
      refine lv_iadd hx hb d_L_areSets_520 ?_
      refine lv_icmp_ne (tgt := 583) hx hb d_L_areSets_521 (by decide) (fun c_521 => ?_) (fun c_521 => ?_)
      · refine lv_iconst (v := (0 : Int32)) hx hb d_L_areSets_583 rfl ?_
        exact hend _ _ _ _ _ _ (by rw [hq, s_L_areSets_b439, if_pos c_492, if_neg c_521]) hP hS d_L_areSets_584
      · refine lv_dload hx hb d_L_areSets_524 (lv_at hl 1 rfl) ?_
        refine lv_dload hx hb d_L_areSets_526 (lv_at hl 0 rfl) ?_
        refine lv_dsub hx hb d_L_areSets_528 (nd_528 hs h9.1 h9.2) ?_
        refine k_dabs hx hb hml hts hown ml_L_127 hl (nd_528 hs h9.1 h9.2) (Nat.le_of_ble_eq_true rfl) (Nat.le_of_ble_eq_true rfl) d_L_areSets_529 ?_
        refine lv_dload hx hb d_L_areSets_532 (lv_at hl 0 rfl) ?_
        refine lv_iload hx hb d_L_areSets_534 (lv_at hl 4 rfl) ?_
        refine lv_i2d hx hb d_L_areSets_536 ?_
        refine lv_dmul hx hb d_L_areSets_537 (nd_R hs).1 ?_
        refine lv_ldc2d (v := (4652007308841189376 : UInt64)) hx hb hown (hts _ kd_L_130) d_L_areSets_538 ?_
        refine lv_ddiv hx hb d_L_areSets_541 (nd_R hs).2.1 ?_
        refine lv_ldc2d (v := (4517329193108106637 : UInt64)) hx hb hown (hts _ kd_L_132) d_L_areSets_542 ?_
        refine lv_dadd hx hb d_L_areSets_545 (nd_R hs).2.2 ?_
        refine lv_dcmp hx hb d_L_areSets_546 ?_
        refine lv_if_gt (tgt := 583) hx hb d_L_areSets_547 (by decide) (fun c_547 => ?_) (fun c_547 => ?_)
        · refine lv_iconst (v := (0 : Int32)) hx hb d_L_areSets_583 rfl ?_
          exact hend _ _ _ _ _ _ (by rw [hq, s_L_areSets_b439, if_pos c_492, if_pos c_521, if_pos c_547]) hP hS d_L_areSets_584
        · refine lv_aload_n hx hb d_L_areSets_550 rfl (lv_at hl 2 rfl) ?_
          refine lv_sipush (v := (1030 : Int32)) hx hb d_L_areSets_551 rfl ?_
          refine lv_iload hx hb d_L_areSets_554 (lv_at hl 5 rfl) ?_
          refine lv_iload hx hb d_L_areSets_556 (lv_at hl 3 rfl) ?_
          refine lv_iload hx hb d_L_areSets_558 (lv_at hl 4 rfl) ?_
          refine lv_iconst (v := (1 : Int32)) hx hb d_L_areSets_560 rfl ?_
          refine lv_iadd hx hb d_L_areSets_561 ?_
          refine lv_iconst (v := (0 : Int32)) hx hb d_L_areSets_562 rfl ?_
          refine k_mvi (rest := []) (c_P_searched l E ad X (s_P_searched Z (1030 : Int32) x7 x5 x6 (3 : Int32)).2 A (1030 : Int32) x7 x5 (x6 + (1 : Int32)) (0 : Int32)) mi_P_searched ml_L_123 hx hb hml hts hown hK hP hD hS rvP hl ⟨rfl, rfl⟩ ⟨(Nat.le_of_ble_eq_true rfl), (Nat.le_of_ble_eq_true rfl)⟩ ⟨Nat.zero_le _, Nat.zero_le _⟩ rfl (Nat.le_of_ble_eq_true rfl) rfl d_L_areSets_563 (fun H locs hP hS => ?_)
          have hP : va_P E.1 vwCl (wb E ad (s_P_searched (s_P_searched Z (1030 : Int32) x7 x5 x6 (3 : Int32)).2 (1030 : Int32) x7 x5 (x6 + (1 : Int32)) (0 : Int32)).2 ++ X) H := hP
          refine lv_iload hx hb d_L_areSets_566 (lv_at hl 6 rfl) ?_
          refine lv_icmp_lt (tgt := 583) hx hb d_L_areSets_568 (by decide) (fun c_568 => ?_) (fun c_568 => ?_)
          · refine lv_iconst (v := (0 : Int32)) hx hb d_L_areSets_583 rfl ?_
            exact hend _ _ _ _ _ _ (by rw [hq, s_L_areSets_b439, if_pos c_492, if_pos c_521, if_neg c_547, if_pos c_568]) hP hS d_L_areSets_584
          · refine lv_iload hx hb d_L_areSets_571 (lv_at hl 6 rfl) ?_
            refine lv_sipush (v := (441 : Int32)) hx hb d_L_areSets_573 rfl ?_
            refine lv_icmp_gt (tgt := 583) hx hb d_L_areSets_576 (by decide) (fun c_576 => ?_) (fun c_576 => ?_)
            · refine lv_iconst (v := (0 : Int32)) hx hb d_L_areSets_583 rfl ?_
              exact hend _ _ _ _ _ _ (by rw [hq, s_L_areSets_b439, if_pos c_492, if_pos c_521, if_neg c_547, if_neg c_568, if_pos c_576]) hP hS d_L_areSets_584
            · refine lv_iconst (v := (1 : Int32)) hx hb d_L_areSets_579 rfl ?_
              refine lv_goto (tgt := 584) hx hb d_L_areSets_580 (by decide) ?_
              exact hend _ _ _ _ _ _ (by rw [hq, s_L_areSets_b439, if_pos c_492, if_pos c_521, if_neg c_547, if_neg c_568, if_neg c_576]) hP hS d_L_areSets_584
  have b361 : ∀ (Z : St) (x5 : Int32) (x6 : Int32) (x7 : Int32) (H : Heap) (locs : List Loc), va_P E.1 vwCl (wb E ad Z ++ X) H → va_S A s.heap H locs → (SQ3 x5 x6 x7) → ∀ (ls : Array Slot), lv_has ls 15 [(0, .ref (ad 39)), (5, .int x5), (6, .int x6), (7, .int x7)] → (s_L_areSets S a1) = s_L_areSets_b361 Z x5 x6 x7 → W p l e (rk 6 144) s m args below meth c H locs 0 0 Q (F0 m 361 ls []) := by
    intro Z x5 x6 x7 H locs hP hS hs ls hl hq
    refine lv_aload_n hx hb d_L_areSets_361 rfl (lv_at hl 0 rfl) ?_
    refine lv_sipush (v := (1030 : Int32)) hx hb d_L_areSets_362 rfl ?_
    refine lv_iload hx hb d_L_areSets_365 (lv_at hl 3 rfl) ?_
    refine lv_iload hx hb d_L_areSets_367 (lv_at hl 1 rfl) ?_
    refine lv_iload hx hb d_L_areSets_369 (lv_at hl 2 rfl) ?_
    refine lv_iconst (v := (0 : Int32)) hx hb d_L_areSets_371 rfl ?_
    refine k_mvi (rest := []) (c_P_searched l E ad X Z A (1030 : Int32) x7 x5 x6 (0 : Int32)) mi_P_searched ml_L_123 hx hb hml hts hown hK hP hD hS rvP hl ⟨rfl, rfl⟩ ⟨(Nat.le_of_ble_eq_true rfl), (Nat.le_of_ble_eq_true rfl)⟩ ⟨Nat.zero_le _, Nat.zero_le _⟩ rfl (Nat.le_of_ble_eq_true rfl) rfl d_L_areSets_372 (fun H locs hP hS => ?_)
    have hP : va_P E.1 vwCl (wb E ad (s_P_searched Z (1030 : Int32) x7 x5 x6 (0 : Int32)).2 ++ X) H := hP
    refine lv_istore (lv' := [(8, .int (s_P_searched Z (1030 : Int32) x7 x5 x6 (0 : Int32)).1), (0, .ref (ad 39)), (5, .int x5), (6, .int x6), (7, .int x7)]) hx hb d_L_areSets_375 hl (by decide) rfl (fun ls hl => ?_)
    refine lv_iload hx hb d_L_areSets_377 (lv_at hl 0 rfl) ?_
    refine lv_if_ne (tgt := 407) hx hb d_L_areSets_379 (by decide) (fun c_379 => ?_) (fun c_379 => ?_)
    · refine lv_aload_n hx hb d_L_areSets_407 rfl (lv_at hl 1 rfl) ?_
      refine lv_sipush (v := (1030 : Int32)) hx hb d_L_areSets_408 rfl ?_
      refine lv_iload hx hb d_L_areSets_411 (lv_at hl 4 rfl) ?_
      refine lv_iload hx hb d_L_areSets_413 (lv_at hl 2 rfl) ?_
      refine lv_iload hx hb d_L_areSets_415 (lv_at hl 3 rfl) ?_
      refine lv_iconst (v := (1 : Int32)) hx hb d_L_areSets_417 rfl ?_
      refine k_mvi (rest := []) (c_P_searched l E ad X (s_P_searched Z (1030 : Int32) x7 x5 x6 (0 : Int32)).2 A (1030 : Int32) x7 x5 x6 (1 : Int32)) mi_P_searched ml_L_123 hx hb hml hts hown hK hP hD hS rvP hl ⟨rfl, rfl⟩ ⟨(Nat.le_of_ble_eq_true rfl), (Nat.le_of_ble_eq_true rfl)⟩ ⟨Nat.zero_le _, Nat.zero_le _⟩ rfl (Nat.le_of_ble_eq_true rfl) rfl d_L_areSets_418 (fun H locs hP hS => ?_)
      have hP : va_P E.1 vwCl (wb E ad (s_P_searched (s_P_searched Z (1030 : Int32) x7 x5 x6 (0 : Int32)).2 (1030 : Int32) x7 x5 x6 (1 : Int32)).2 ++ X) H := hP
      refine lv_istore (lv' := [(9, .int (s_P_searched (s_P_searched Z (1030 : Int32) x7 x5 x6 (0 : Int32)).2 (1030 : Int32) x7 x5 x6 (1 : Int32)).1), (8, .int (s_P_searched Z (1030 : Int32) x7 x5 x6 (0 : Int32)).1), (0, .ref (ad 39)), (5, .int x5), (6, .int x6), (7, .int x7)]) hx hb d_L_areSets_421 hl (by decide) rfl (fun ls hl => ?_)
      refine lv_aload_n hx hb d_L_areSets_423 rfl (lv_at hl 2 rfl) ?_
      refine lv_sipush (v := (1030 : Int32)) hx hb d_L_areSets_424 rfl ?_
      refine lv_iload hx hb d_L_areSets_427 (lv_at hl 5 rfl) ?_
      refine lv_iload hx hb d_L_areSets_429 (lv_at hl 3 rfl) ?_
      refine lv_iload hx hb d_L_areSets_431 (lv_at hl 4 rfl) ?_
      refine lv_iconst (v := (2 : Int32)) hx hb d_L_areSets_433 rfl ?_
      refine k_mvi (rest := []) (c_P_searched l E ad X (s_P_searched (s_P_searched Z (1030 : Int32) x7 x5 x6 (0 : Int32)).2 (1030 : Int32) x7 x5 x6 (1 : Int32)).2 A (1030 : Int32) x7 x5 x6 (2 : Int32)) mi_P_searched ml_L_123 hx hb hml hts hown hK hP hD hS rvP hl ⟨rfl, rfl⟩ ⟨(Nat.le_of_ble_eq_true rfl), (Nat.le_of_ble_eq_true rfl)⟩ ⟨Nat.zero_le _, Nat.zero_le _⟩ rfl (Nat.le_of_ble_eq_true rfl) rfl d_L_areSets_434 (fun H locs hP hS => ?_)
      have hP : va_P E.1 vwCl (wb E ad (s_P_searched (s_P_searched (s_P_searched Z (1030 : Int32) x7 x5 x6 (0 : Int32)).2 (1030 : Int32) x7 x5 x6 (1 : Int32)).2 (1030 : Int32) x7 x5 x6 (2 : Int32)).2 ++ X) H := hP
      refine lv_istore (lv' := [(10, .int (s_P_searched (s_P_searched (s_P_searched Z (1030 : Int32) x7 x5 x6 (0 : Int32)).2 (1030 : Int32) x7 x5 x6 (1 : Int32)).2 (1030 : Int32) x7 x5 x6 (2 : Int32)).1), (9, .int (s_P_searched (s_P_searched Z (1030 : Int32) x7 x5 x6 (0 : Int32)).2 (1030 : Int32) x7 x5 x6 (1 : Int32)).1), (8, .int (s_P_searched Z (1030 : Int32) x7 x5 x6 (0 : Int32)).1), (0, .ref (ad 39)), (5, .int x5), (6, .int x6), (7, .int x7)]) hx hb d_L_areSets_437 hl (by decide) rfl (fun ls hl => ?_)
      exact b439 (s_P_searched (s_P_searched (s_P_searched Z (1030 : Int32) x7 x5 x6 (0 : Int32)).2 (1030 : Int32) x7 x5 x6 (1 : Int32)).2 (1030 : Int32) x7 x5 x6 (2 : Int32)).2 x5 x6 x7 (s_P_searched Z (1030 : Int32) x7 x5 x6 (0 : Int32)).1 (s_P_searched (s_P_searched Z (1030 : Int32) x7 x5 x6 (0 : Int32)).2 (1030 : Int32) x7 x5 x6 (1 : Int32)).1 (s_P_searched (s_P_searched (s_P_searched Z (1030 : Int32) x7 x5 x6 (0 : Int32)).2 (1030 : Int32) x7 x5 x6 (1 : Int32)).2 (1030 : Int32) x7 x5 x6 (2 : Int32)).1 H locs hP hS (hs) (sea_in hs c_379 _ _) ls (lv_sub hl [3, 4, 5, 6, 2, 1, 0] rfl) (by rw [hq, s_L_areSets_b361, if_neg c_379])
    · refine lv_aload_n hx hb d_L_areSets_382 rfl (lv_at hl 1 rfl) ?_
      refine lv_sipush (v := (1030 : Int32)) hx hb d_L_areSets_383 rfl ?_
      refine lv_iload hx hb d_L_areSets_386 (lv_at hl 4 rfl) ?_
      refine lv_iload hx hb d_L_areSets_388 (lv_at hl 2 rfl) ?_
      refine lv_iload hx hb d_L_areSets_390 (lv_at hl 3 rfl) ?_
      refine lv_iconst (v := (1 : Int32)) hx hb d_L_areSets_392 rfl ?_
      refine k_mvi (rest := []) (c_P_searched l E ad X (s_P_searched Z (1030 : Int32) x7 x5 x6 (0 : Int32)).2 A (1030 : Int32) x7 x5 x6 (1 : Int32)) mi_P_searched ml_L_123 hx hb hml hts hown hK hP hD hS rvP hl ⟨rfl, rfl⟩ ⟨(Nat.le_of_ble_eq_true rfl), (Nat.le_of_ble_eq_true rfl)⟩ ⟨Nat.zero_le _, Nat.zero_le _⟩ rfl (Nat.le_of_ble_eq_true rfl) rfl d_L_areSets_393 (fun H locs hP hS => ?_)
      have hP : va_P E.1 vwCl (wb E ad (s_P_searched (s_P_searched Z (1030 : Int32) x7 x5 x6 (0 : Int32)).2 (1030 : Int32) x7 x5 x6 (1 : Int32)).2 ++ X) H := hP
      refine lv_bipush (v := (-2 : Int32)) hx hb d_L_areSets_396 rfl ?_
      refine lv_icmp_ne (tgt := 405) hx hb d_L_areSets_398 (by decide) (fun c_398 => ?_) (fun c_398 => ?_)
      · refine lv_iconst (v := (0 : Int32)) hx hb d_L_areSets_405 rfl ?_
        exact hend _ _ _ _ _ _ (by rw [hq, s_L_areSets_b361, if_pos c_379, if_neg c_398]) hP hS d_L_areSets_406
      · refine lv_iconst (v := (1 : Int32)) hx hb d_L_areSets_401 rfl ?_
        refine lv_goto (tgt := 406) hx hb d_L_areSets_402 (by decide) ?_
        exact hend _ _ _ _ _ _ (by rw [hq, s_L_areSets_b361, if_pos c_379, if_pos c_398]) hP hS d_L_areSets_406
  have b165 : ∀ (n : Nat) (Z : St) (x1 : Int32) (x2 : Int32) (x3 : Int32) (x5 : Int32) (H : Heap) (locs : List Loc), va_P E.1 vwCl (wb E ad Z ++ X) H → va_S A s.heap H locs → (UP n 3 x5) → ∀ (ls : Array Slot), lv_has ls 15 [(0, .ref (ad 39)), (1, .int x1), (2, .int x2), (3, .int x3), (5, .int x5)] → (s_L_areSets S a1) = s_L_areSets_b165 n Z x1 x2 x3 x5 → W p l e (rk 6 144) s m args below meth c H locs 0 0 Q (F0 m 165 ls []) := by
    intro n165
    induction n165 with
    | zero => intro Z x1 x2 x3 x5 H locs hP hS hv; exact absurd hv (UP_z)
    | succ n165 ih165 =>
      have b174 : ∀ (n : Nat) (Z : St) (x1 : Int32) (x2 : Int32) (x3 : Int32) (x5 : Int32) (x6 : Int32) (H : Heap) (locs : List Loc), va_P E.1 vwCl (wb E ad Z ++ X) H → va_S A s.heap H locs → (UP n 3 x6) → (UP n165 3 (x5 + 1)) → ∀ (ls : Array Slot), lv_has ls 15 [(0, .ref (ad 39)), (1, .int x1), (2, .int x2), (3, .int x3), (5, .int x5), (6, .int x6)] → (s_L_areSets S a1) = s_L_areSets_b174 (fun Z x1 x2 x3 x5 => s_L_areSets_b165 n165 Z x1 x2 x3 x5) n Z x1 x2 x3 x5 x6 → W p l e (rk 6 144) s m args below meth c H locs 0 0 Q (F0 m 174 ls []) := by
        intro n174
        induction n174 with
        | zero => intro Z x1 x2 x3 x5 x6 H locs hP hS hv; exact absurd hv (UP_z)
        | succ n174 ih174 =>
          have b264 : ∀ (Z : St) (x1 : Int32) (x2 : Int32) (x3 : Int32) (x5 : Int32) (x6 : Int32) (x7 : Int64) (x9 : Int64) (x11 : Int32) (t0 : Int32) (t1 : Int32) (H : Heap) (locs : List Loc), va_P E.1 vwCl (wb E ad Z ++ X) H → va_S A s.heap H locs → (UP n165 3 (x5 + 1)) → (UP n174 3 (x6 + 1)) → ∀ (ls : Array Slot), lv_has ls 15 [(0, .ref (ad 39)), (1, .int x1), (2, .int x2), (3, .int x3), (5, .int x5), (6, .int x6), (7, .long x7), (9, .long x9), (11, .int x11)] → (s_L_areSets S a1) = s_L_areSets_b264 (fun Z x1 x2 x3 x5 => s_L_areSets_b165 n165 Z x1 x2 x3 x5) (fun Z x1 x2 x3 x5 x6 => s_L_areSets_b174 (fun Z x1 x2 x3 x5 => s_L_areSets_b165 n165 Z x1 x2 x3 x5) n174 Z x1 x2 x3 x5 x6) Z x1 x2 x3 x5 x6 x7 x9 x11 t0 t1 → W p l e (rk 6 144) s m args below meth c H locs 0 0 Q (F0 m 264 ls [.int t0, .int t1]) := by
            intro Z x1 x2 x3 x5 x6 x7 x9 x11 t0 t1 H locs hP hS ho hi ls hl hq
            refine lv_icmp_ne (tgt := 307) hx hb d_L_areSets_264 (by decide) (fun c_264 => ?_) (fun c_264 => ?_)
            · refine lv_iconst (v := (0 : Int32)) hx hb d_L_areSets_307 rfl ?_
              exact hend _ _ _ _ _ _ (by rw [hq, s_L_areSets_b264, if_neg c_264]) hP hS d_L_areSets_308
            · refine lv_aload_n hx hb d_L_areSets_267 rfl (lv_at hl 0 rfl) ?_
              refine lv_iload_n hx hb d_L_areSets_268 rfl (lv_at hl 2 rfl) ?_
              refine lv_iload_n hx hb d_L_areSets_269 rfl (lv_at hl 3 rfl) ?_
              refine lv_iload hx hb d_L_areSets_270 (lv_at hl 8 rfl) ?_
              refine lv_iload hx hb d_L_areSets_272 (lv_at hl 5 rfl) ?_
              refine lv_iconst (v := (0 : Int32)) hx hb d_L_areSets_274 rfl ?_
              refine k_vl (rest := []) (c_P_planets l E ad X Z x2 x3 x11 x6 (0 : Int32)) mi_P_planets ml_L_119 hx hb hml hts hown hK hP rvP hl ⟨rfl, rfl⟩ ⟨(Nat.le_of_ble_eq_true rfl), (Nat.le_of_ble_eq_true rfl)⟩ ⟨Nat.zero_le _, Nat.zero_le _⟩ rfl (Nat.le_of_ble_eq_true rfl) rfl d_L_areSets_275 ?_
              refine va_mabs_long hx hb (hml.trans hl.1.symm) hown (hts _ ml_L_90) (hts _ st_mabsl) (hts _ iz_Math) (hts _ co_mabsl) (Nat.le_of_ble_eq_true rfl) (Nat.le_of_ble_eq_true rfl) (Nat.zero_le _) (Nat.zero_le _) d_L_areSets_278 ?_
              refine lv_lload hx hb d_L_areSets_281 (lv_at hl 7 rfl) ?_
              refine W.lcmp hx hb d_L_areSets_283 ?_
              refine lv_if_ne (tgt := 307) hx hb d_L_areSets_284 (by decide) (fun c_284 => ?_) (fun c_284 => ?_)
              · refine lv_iconst (v := (0 : Int32)) hx hb d_L_areSets_307 rfl ?_
                exact hend _ _ _ _ _ _ (by rw [hq, s_L_areSets_b264, if_pos c_264, if_neg c_284]) hP hS d_L_areSets_308
              · refine lv_aload_n hx hb d_L_areSets_287 rfl (lv_at hl 0 rfl) ?_
                refine lv_iload_n hx hb d_L_areSets_288 rfl (lv_at hl 2 rfl) ?_
                refine lv_iload_n hx hb d_L_areSets_289 rfl (lv_at hl 3 rfl) ?_
                refine lv_iload hx hb d_L_areSets_290 (lv_at hl 8 rfl) ?_
                refine lv_iload hx hb d_L_areSets_292 (lv_at hl 5 rfl) ?_
                refine lv_iconst (v := (1 : Int32)) hx hb d_L_areSets_294 rfl ?_
                refine k_vl (rest := []) (c_P_planets l E ad X Z x2 x3 x11 x6 (1 : Int32)) mi_P_planets ml_L_119 hx hb hml hts hown hK hP rvP hl ⟨rfl, rfl⟩ ⟨(Nat.le_of_ble_eq_true rfl), (Nat.le_of_ble_eq_true rfl)⟩ ⟨Nat.zero_le _, Nat.zero_le _⟩ rfl (Nat.le_of_ble_eq_true rfl) rfl d_L_areSets_295 ?_
                refine lv_lload hx hb d_L_areSets_298 (lv_at hl 6 rfl) ?_
                refine va_mabs_long hx hb (hml.trans hl.1.symm) hown (hts _ ml_L_90) (hts _ st_mabsl) (hts _ iz_Math) (hts _ co_mabsl) (Nat.le_of_ble_eq_true rfl) (Nat.le_of_ble_eq_true rfl) (Nat.zero_le _) (Nat.zero_le _) d_L_areSets_300 ?_
                refine W.lcmp hx hb d_L_areSets_303 ?_
                refine lv_if_eq (tgt := 309) hx hb d_L_areSets_304 (by decide) (fun c_304 => ?_) (fun c_304 => ?_)
                · refine lv_iinc (v := (x6 + 1)) (lv' := [(6, .int (x6 + 1)), (0, .ref (ad 39)), (1, .int x1), (2, .int x2), (3, .int x3), (5, .int x5), (7, .long x7), (9, .long x9), (11, .int x11)]) hx hb d_L_areSets_309 hl (k := 5) rfl rfl (by decide) rfl (fun ls hl => ?_)
                  refine lv_goto (tgt := 174) hx hb d_L_areSets_312 (by decide) ?_
                  exact ih174 Z x1 x2 x3 x5 (x6 + 1) H locs hP hS (hi) (by assumption) ls (lv_sub hl [1, 2, 3, 4, 5, 0] rfl) (by rw [hq, s_L_areSets_b264, if_pos c_264, if_pos c_284, if_pos c_304])
                · refine lv_iconst (v := (0 : Int32)) hx hb d_L_areSets_307 rfl ?_
                  exact hend _ _ _ _ _ _ (by rw [hq, s_L_areSets_b264, if_pos c_264, if_pos c_284, if_neg c_304]) hP hS d_L_areSets_308
          have b253 : ∀ (Z : St) (x1 : Int32) (x2 : Int32) (x3 : Int32) (x5 : Int32) (x6 : Int32) (x7 : Int64) (x9 : Int64) (x11 : Int32) (t0 : Int32) (H : Heap) (locs : List Loc), va_P E.1 vwCl (wb E ad Z ++ X) H → va_S A s.heap H locs → (UP n165 3 (x5 + 1)) → (UP n174 3 (x6 + 1)) → ∀ (ls : Array Slot), lv_has ls 15 [(0, .ref (ad 39)), (1, .int x1), (2, .int x2), (3, .int x3), (5, .int x5), (6, .int x6), (7, .long x7), (9, .long x9), (11, .int x11)] → (s_L_areSets S a1) = s_L_areSets_b253 (fun Z x1 x2 x3 x5 => s_L_areSets_b165 n165 Z x1 x2 x3 x5) (fun Z x1 x2 x3 x5 x6 => s_L_areSets_b174 (fun Z x1 x2 x3 x5 => s_L_areSets_b165 n165 Z x1 x2 x3 x5) n174 Z x1 x2 x3 x5 x6) Z x1 x2 x3 x5 x6 x7 x9 x11 t0 → W p l e (rk 6 144) s m args below meth c H locs 0 0 Q (F0 m 253 ls [.int t0]) := by
            intro Z x1 x2 x3 x5 x6 x7 x9 x11 t0 H locs hP hS ho hi ls hl hq
            refine lv_iload hx hb d_L_areSets_253 (lv_at hl 5 rfl) ?_
            refine lv_iconst (v := (1 : Int32)) hx hb d_L_areSets_255 rfl ?_
            refine lv_icmp_ne (tgt := 263) hx hb d_L_areSets_256 (by decide) (fun c_256 => ?_) (fun c_256 => ?_)
            · refine lv_iconst (v := (0 : Int32)) hx hb d_L_areSets_263 rfl ?_
              exact b264 Z x1 x2 x3 x5 x6 x7 x9 x11 (0 : Int32) t0 H locs hP hS (by assumption) (by assumption) ls (lv_sub hl [0, 1, 2, 3, 4, 5, 6, 7, 8] rfl) (by rw [hq, s_L_areSets_b253, if_neg c_256])
            · refine lv_iconst (v := (1 : Int32)) hx hb d_L_areSets_259 rfl ?_
              refine lv_goto (tgt := 264) hx hb d_L_areSets_260 (by decide) ?_
              exact b264 Z x1 x2 x3 x5 x6 x7 x9 x11 (1 : Int32) t0 H locs hP hS (by assumption) (by assumption) ls (lv_sub hl [0, 1, 2, 3, 4, 5, 6, 7, 8] rfl) (by rw [hq, s_L_areSets_b253, if_pos c_256])
          intro Z x1 x2 x3 x5 x6 H locs hP hS hv ho ls hl hq
          refine lv_iload hx hb d_L_areSets_174 (lv_at hl 5 rfl) ?_
          refine lv_iconst (v := (3 : Int32)) hx hb d_L_areSets_176 rfl ?_
          refine lv_icmp_ge (tgt := 315) hx hb d_L_areSets_177 (by decide) (fun c_177 => ?_) (fun c_177 => ?_)
          · refine lv_iinc (v := (x5 + 1)) (lv' := [(5, .int (x5 + 1)), (0, .ref (ad 39)), (1, .int x1), (2, .int x2), (3, .int x3), (6, .int x6)]) hx hb d_L_areSets_315 hl (k := 4) rfl rfl (by decide) rfl (fun ls hl => ?_)
            refine lv_goto (tgt := 165) hx hb d_L_areSets_318 (by decide) ?_
            exact ih165 Z x1 x2 x3 (x5 + 1) H locs hP hS (ho) ls (lv_sub hl [1, 2, 3, 4, 0] rfl) (by rw [hq, s_L_areSets_b174, if_pos c_177])
          · refine lv_aload_n hx hb d_L_areSets_180 rfl (lv_at hl 0 rfl) ?_
            refine lv_iload_n hx hb d_L_areSets_181 rfl (lv_at hl 2 rfl) ?_
            refine lv_iload_n hx hb d_L_areSets_182 rfl (lv_at hl 3 rfl) ?_
            refine lv_iload hx hb d_L_areSets_183 (lv_at hl 4 rfl) ?_
            refine lv_iload hx hb d_L_areSets_185 (lv_at hl 5 rfl) ?_
            refine lv_iconst (v := (0 : Int32)) hx hb d_L_areSets_187 rfl ?_
            refine k_vl (rest := []) (c_P_planets l E ad X Z x2 x3 x5 x6 (0 : Int32)) mi_P_planets ml_L_119 hx hb hml hts hown hK hP rvP hl ⟨rfl, rfl⟩ ⟨(Nat.le_of_ble_eq_true rfl), (Nat.le_of_ble_eq_true rfl)⟩ ⟨Nat.zero_le _, Nat.zero_le _⟩ rfl (Nat.le_of_ble_eq_true rfl) rfl d_L_areSets_188 ?_
            refine lv_lstore (lv' := [(7, .long (s_P_planets Z x2 x3 x5 x6 (0 : Int32))), (0, .ref (ad 39)), (1, .int x1), (2, .int x2), (3, .int x3), (5, .int x5), (6, .int x6)]) hx hb d_L_areSets_191 hl (by decide) rfl (fun ls hl => ?_)
            refine lv_aload_n hx hb d_L_areSets_193 rfl (lv_at hl 1 rfl) ?_
            refine lv_iload_n hx hb d_L_areSets_194 rfl (lv_at hl 3 rfl) ?_
            refine lv_iload_n hx hb d_L_areSets_195 rfl (lv_at hl 4 rfl) ?_
            refine lv_iload hx hb d_L_areSets_196 (lv_at hl 5 rfl) ?_
            refine lv_iload hx hb d_L_areSets_198 (lv_at hl 6 rfl) ?_
            refine lv_iconst (v := (1 : Int32)) hx hb d_L_areSets_200 rfl ?_
            refine k_vl (rest := []) (c_P_planets l E ad X Z x2 x3 x5 x6 (1 : Int32)) mi_P_planets ml_L_119 hx hb hml hts hown hK hP rvP hl ⟨rfl, rfl⟩ ⟨(Nat.le_of_ble_eq_true rfl), (Nat.le_of_ble_eq_true rfl)⟩ ⟨Nat.zero_le _, Nat.zero_le _⟩ rfl (Nat.le_of_ble_eq_true rfl) rfl d_L_areSets_201 ?_
            refine lv_lstore (lv' := [(9, .long (s_P_planets Z x2 x3 x5 x6 (1 : Int32))), (7, .long (s_P_planets Z x2 x3 x5 x6 (0 : Int32))), (0, .ref (ad 39)), (1, .int x1), (2, .int x2), (3, .int x3), (5, .int x5), (6, .int x6)]) hx hb d_L_areSets_204 hl (by decide) rfl (fun ls hl => ?_)
            refine lv_iconst (v := (3 : Int32)) hx hb d_L_areSets_206 rfl ?_
            refine lv_iload hx hb d_L_areSets_207 (lv_at hl 6 rfl) ?_
            refine lv_isub hx hb d_L_areSets_209 ?_
            refine lv_iload hx hb d_L_areSets_210 (lv_at hl 7 rfl) ?_
            refine lv_isub hx hb d_L_areSets_212 ?_
            refine lv_istore (lv' := [(11, .int (((3 : Int32) - x5) - x6)), (9, .long (s_P_planets Z x2 x3 x5 x6 (1 : Int32))), (7, .long (s_P_planets Z x2 x3 x5 x6 (0 : Int32))), (0, .ref (ad 39)), (1, .int x1), (2, .int x2), (3, .int x3), (5, .int x5), (6, .int x6)]) hx hb d_L_areSets_213 hl (by decide) rfl (fun ls hl => ?_)
            refine lv_iload hx hb d_L_areSets_215 (lv_at hl 7 rfl) ?_
            refine lv_iload hx hb d_L_areSets_217 (lv_at hl 8 rfl) ?_
            refine lv_icmp_ne (tgt := 234) hx hb d_L_areSets_219 (by decide) (fun c_219 => ?_) (fun c_219 => ?_)
            · refine lv_lload hx hb d_L_areSets_234 (lv_at hl 1 rfl) ?_
              refine lv_lconst (v := (1 : Int64)) hx hb d_L_areSets_236 rfl ?_
              refine W.lcmp hx hb d_L_areSets_237 ?_
              refine lv_if_lt (tgt := 307) hx hb d_L_areSets_238 (by decide) (fun c_238 => ?_) (fun c_238 => ?_)
              · refine lv_iconst (v := (0 : Int32)) hx hb d_L_areSets_307 rfl ?_
                exact hend _ _ _ _ _ _ (by rw [hq, s_L_areSets_b174, if_neg c_177, if_neg c_219, if_pos c_238]) hP hS d_L_areSets_308
              · refine lv_lload hx hb d_L_areSets_241 (lv_at hl 2 rfl) ?_
                refine lv_lconst (v := (0 : Int64)) hx hb d_L_areSets_243 rfl ?_
                refine W.lcmp hx hb d_L_areSets_244 ?_
                refine lv_if_ge (tgt := 252) hx hb d_L_areSets_245 (by decide) (fun c_245 => ?_) (fun c_245 => ?_)
                · refine lv_iconst (v := (0 : Int32)) hx hb d_L_areSets_252 rfl ?_
                  exact b253 Z x1 x2 x3 x5 x6 (s_P_planets Z x2 x3 x5 x6 (0 : Int32)) (s_P_planets Z x2 x3 x5 x6 (1 : Int32)) (((3 : Int32) - x5) - x6) (0 : Int32) H locs hP hS (ho) (UP_up hv c_177) ls (lv_sub hl [3, 4, 5, 6, 7, 8, 2, 1, 0] rfl) (by rw [hq, s_L_areSets_b174, if_neg c_177, if_neg c_219, if_neg c_238, if_pos c_245])
                · refine lv_iconst (v := (1 : Int32)) hx hb d_L_areSets_248 rfl ?_
                  refine lv_goto (tgt := 253) hx hb d_L_areSets_249 (by decide) ?_
                  exact b253 Z x1 x2 x3 x5 x6 (s_P_planets Z x2 x3 x5 x6 (0 : Int32)) (s_P_planets Z x2 x3 x5 x6 (1 : Int32)) (((3 : Int32) - x5) - x6) (1 : Int32) H locs hP hS (ho) (UP_up hv c_177) ls (lv_sub hl [3, 4, 5, 6, 7, 8, 2, 1, 0] rfl) (by rw [hq, s_L_areSets_b174, if_neg c_177, if_neg c_219, if_neg c_238, if_neg c_245])
            · refine lv_lload hx hb d_L_areSets_222 (lv_at hl 2 rfl) ?_
              refine lv_ldc2 (v := (-9223372036854775808 : Int64)) hx hb hown (hts _ kl_L_75) d_L_areSets_224 ?_
              refine W.lcmp hx hb d_L_areSets_227 ?_
              refine lv_if_eq (tgt := 309) hx hb d_L_areSets_228 (by decide) (fun c_228 => ?_) (fun c_228 => ?_)
              · refine lv_iinc (v := (x6 + 1)) (lv' := [(6, .int (x6 + 1)), (11, .int (((3 : Int32) - x5) - x6)), (9, .long (s_P_planets Z x2 x3 x5 x6 (1 : Int32))), (7, .long (s_P_planets Z x2 x3 x5 x6 (0 : Int32))), (0, .ref (ad 39)), (1, .int x1), (2, .int x2), (3, .int x3), (5, .int x5)]) hx hb d_L_areSets_309 hl (k := 8) rfl rfl (by decide) rfl (fun ls hl => ?_)
                refine lv_goto (tgt := 174) hx hb d_L_areSets_312 (by decide) ?_
                exact ih174 Z x1 x2 x3 x5 (x6 + 1) H locs hP hS (UP_up hv c_177) (ho) ls (lv_sub hl [4, 5, 6, 7, 8, 0] rfl) (by rw [hq, s_L_areSets_b174, if_neg c_177, if_pos c_219, if_pos c_228])
              · refine lv_goto (tgt := 307) hx hb d_L_areSets_231 (by decide) ?_
                refine lv_iconst (v := (0 : Int32)) hx hb d_L_areSets_307 rfl ?_
                exact hend _ _ _ _ _ _ (by rw [hq, s_L_areSets_b174, if_neg c_177, if_pos c_219, if_neg c_228]) hP hS d_L_areSets_308
      intro Z x1 x2 x3 x5 H locs hP hS hv ls hl hq
      refine lv_iload hx hb d_L_areSets_165 (lv_at hl 4 rfl) ?_
      refine lv_iconst (v := (3 : Int32)) hx hb d_L_areSets_167 rfl ?_
      refine lv_icmp_ge (tgt := 321) hx hb d_L_areSets_168 (by decide) (fun c_168 => ?_) (fun c_168 => ?_)
      · refine lv_bipush (v := (100 : Int32)) hx hb d_L_areSets_321 rfl ?_
        refine lv_iconst (v := (2 : Int32)) hx hb d_L_areSets_323 rfl ?_
        refine lv_iload_n hx hb d_L_areSets_324 rfl (lv_at hl 1 rfl) ?_
        refine lv_iconst (v := (5 : Int32)) hx hb d_L_areSets_325 rfl ?_
        refine lv_ishr hx hb d_L_areSets_326 ?_
        refine lv_bipush (v := (15 : Int32)) hx hb d_L_areSets_327 rfl ?_
        refine lv_iand hx hb d_L_areSets_329 ?_
        refine lv_iadd hx hb d_L_areSets_330 ?_
        refine lv_imul hx hb d_L_areSets_331 ?_
        refine lv_iconst (v := (1 : Int32)) hx hb d_L_areSets_332 rfl ?_
        refine lv_iadd hx hb d_L_areSets_333 ?_
        refine lv_iload_n hx hb d_L_areSets_334 rfl (lv_at hl 1 rfl) ?_
        refine lv_bipush (v := (9 : Int32)) hx hb d_L_areSets_335 rfl ?_
        refine lv_ishr hx hb d_L_areSets_337 ?_
        refine lv_iconst (v := (3 : Int32)) hx hb d_L_areSets_338 rfl ?_
        refine lv_iand hx hb d_L_areSets_339 ?_
        refine lv_iadd hx hb d_L_areSets_340 ?_
        refine lv_istore (lv' := [(5, .int ((((100 : Int32) * ((2 : Int32) + ((x1 >>> ((5 : Int32) &&& 31)) &&& (15 : Int32)))) + (1 : Int32)) + ((x1 >>> ((9 : Int32) &&& 31)) &&& (3 : Int32)))), (0, .ref (ad 39)), (1, .int x1), (2, .int x2), (3, .int x3)]) hx hb d_L_areSets_341 hl (by decide) rfl (fun ls hl => ?_)
        refine lv_iload_n hx hb d_L_areSets_343 rfl (lv_at hl 2 rfl) ?_
        refine lv_bipush (v := (11 : Int32)) hx hb d_L_areSets_344 rfl ?_
        refine lv_ishr hx hb d_L_areSets_346 ?_
        refine lv_bipush (v := (127 : Int32)) hx hb d_L_areSets_347 rfl ?_
        refine lv_iand hx hb d_L_areSets_349 ?_
        refine lv_istore (lv' := [(6, .int ((x1 >>> ((11 : Int32) &&& 31)) &&& (127 : Int32))), (5, .int ((((100 : Int32) * ((2 : Int32) + ((x1 >>> ((5 : Int32) &&& 31)) &&& (15 : Int32)))) + (1 : Int32)) + ((x1 >>> ((9 : Int32) &&& 31)) &&& (3 : Int32)))), (0, .ref (ad 39)), (1, .int x1), (2, .int x2), (3, .int x3)]) hx hb d_L_areSets_350 hl (by decide) rfl (fun ls hl => ?_)
        refine lv_iconst (v := (1 : Int32)) hx hb d_L_areSets_352 rfl ?_
        refine lv_iload_n hx hb d_L_areSets_353 rfl (lv_at hl 3 rfl) ?_
        refine lv_iconst (v := (4 : Int32)) hx hb d_L_areSets_354 rfl ?_
        refine lv_ishr hx hb d_L_areSets_355 ?_
        refine lv_iconst (v := (3 : Int32)) hx hb d_L_areSets_356 rfl ?_
        refine lv_iand hx hb d_L_areSets_357 ?_
        refine lv_iadd hx hb d_L_areSets_358 ?_
        refine lv_istore (lv' := [(7, .int ((1 : Int32) + ((x1 >>> ((4 : Int32) &&& 31)) &&& (3 : Int32)))), (6, .int ((x1 >>> ((11 : Int32) &&& 31)) &&& (127 : Int32))), (5, .int ((((100 : Int32) * ((2 : Int32) + ((x1 >>> ((5 : Int32) &&& 31)) &&& (15 : Int32)))) + (1 : Int32)) + ((x1 >>> ((9 : Int32) &&& 31)) &&& (3 : Int32)))), (0, .ref (ad 39)), (1, .int x1), (2, .int x2), (3, .int x3)]) hx hb d_L_areSets_359 hl (by decide) rfl (fun ls hl => ?_)
        exact b361 Z ((((100 : Int32) * ((2 : Int32) + ((x1 >>> ((5 : Int32) &&& 31)) &&& (15 : Int32)))) + (1 : Int32)) + ((x1 >>> ((9 : Int32) &&& 31)) &&& (3 : Int32))) ((x1 >>> ((11 : Int32) &&& 31)) &&& (127 : Int32)) ((1 : Int32) + ((x1 >>> ((4 : Int32) &&& 31)) &&& (3 : Int32))) H locs hP hS (sq3_of x1) ls (lv_sub hl [3, 2, 1, 0] rfl) (by rw [hq, s_L_areSets_b165, if_pos c_168])
      · refine lv_iconst (v := (0 : Int32)) hx hb d_L_areSets_171 rfl ?_
        refine lv_istore (lv' := [(6, .int (0 : Int32)), (0, .ref (ad 39)), (1, .int x1), (2, .int x2), (3, .int x3), (5, .int x5)]) hx hb d_L_areSets_172 hl (by decide) rfl (fun ls hl => ?_)
        exact b174 (4) Z x1 x2 x3 x5 (0 : Int32) H locs hP hS (UP_in' (by decide) (by decide)) (UP_up hv c_168) ls (lv_sub hl [1, 2, 3, 4, 5, 0] rfl) (by rw [hq, s_L_areSets_b165, if_neg c_168])
  have b36 : ∀ (n : Nat) (Z : St) (x1 : Int32) (x2 : Int32) (x3 : Int32) (x4 : Int32) (x5 : Int32) (H : Heap) (locs : List Loc), va_P E.1 vwCl (wb E ad Z ++ X) H → va_S A s.heap H locs → (UQ n 9 x5) → ∀ (ls : Array Slot), lv_has ls 15 [(0, .ref (ad 39)), (1, .int x1), (2, .int x2), (3, .int x3), (4, .int x4), (5, .int x5)] → (s_L_areSets S a1) = s_L_areSets_b36 n Z x1 x2 x3 x4 x5 → W p l e (rk 6 144) s m args below meth c H locs 0 0 Q (F0 m 36 ls []) := by
    intro n36
    induction n36 with
    | zero => intro Z x1 x2 x3 x4 x5 H locs hP hS hv; exact absurd hv (UQ_z)
    | succ n36 ih36 =>
      have b151 : ∀ (Z : St) (x1 : Int32) (x2 : Int32) (x3 : Int32) (x4 : Int32) (x5 : Int32) (t0 : Int32) (t1 : Int32) (H : Heap) (locs : List Loc), va_P E.1 vwCl (wb E ad Z ++ X) H → va_S A s.heap H locs → (UQ n36 9 (x5 + 1) ∧ ¬ x5 = 0) → ∀ (ls : Array Slot), lv_has ls 15 [(0, .ref (ad 39)), (1, .int x1), (2, .int x2), (3, .int x3), (4, .int x4), (5, .int x5)] → (s_L_areSets S a1) = s_L_areSets_b151 (fun Z x1 x2 x3 x4 x5 => s_L_areSets_b36 n36 Z x1 x2 x3 x4 x5) Z x1 x2 x3 x4 x5 t0 t1 → W p l e (rk 6 144) s m args below meth c H locs 0 0 Q (F0 m 151 ls [.int t0, .int t1]) := by
        intro Z x1 x2 x3 x4 x5 t0 t1 H locs hP hS ho ls hl hq
        refine lv_icmp_eq (tgt := 156) hx hb d_L_areSets_151 (by decide) (fun c_151 => ?_) (fun c_151 => ?_)
        · refine lv_iinc (v := (x5 + 1)) (lv' := [(5, .int (x5 + 1)), (0, .ref (ad 39)), (1, .int x1), (2, .int x2), (3, .int x3), (4, .int x4)]) hx hb d_L_areSets_156 hl (k := 5) rfl rfl (by decide) rfl (fun ls hl => ?_)
          refine lv_goto (tgt := 36) hx hb d_L_areSets_159 (by decide) ?_
          exact ih36 Z x1 x2 x3 x4 (x5 + 1) H locs hP hS (ho.1) ls (lv_sub hl [1, 2, 3, 4, 5, 0] rfl) (by rw [hq, s_L_areSets_b151, if_pos c_151])
        · refine lv_iconst (v := (0 : Int32)) hx hb d_L_areSets_154 rfl ?_
          exact hend _ _ _ _ _ _ (by rw [hq, s_L_areSets_b151, if_neg c_151]) hP hS d_L_areSets_155
      have b135 : ∀ (Z : St) (x1 : Int32) (x2 : Int32) (x3 : Int32) (x4 : Int32) (x5 : Int32) (t0 : Int32) (H : Heap) (locs : List Loc), va_P E.1 vwCl (wb E ad Z ++ X) H → va_S A s.heap H locs → (UQ n36 9 (x5 + 1) ∧ ¬ x5 = 0) → ∀ (ls : Array Slot), lv_has ls 15 [(0, .ref (ad 39)), (1, .int x1), (2, .int x2), (3, .int x3), (4, .int x4), (5, .int x5)] → (s_L_areSets S a1) = s_L_areSets_b135 (fun Z x1 x2 x3 x4 x5 => s_L_areSets_b36 n36 Z x1 x2 x3 x4 x5) Z x1 x2 x3 x4 x5 t0 → W p l e (rk 6 144) s m args below meth c H locs 0 0 Q (F0 m 135 ls [.int t0]) := by
        intro Z x1 x2 x3 x4 x5 t0 H locs hP hS ho ls hl hq
        refine lv_iconst (v := (2 : Int32)) hx hb d_L_areSets_135 rfl ?_
        refine lv_iload_n hx hb d_L_areSets_136 rfl (lv_at hl 2 rfl) ?_
        refine lv_iload_n hx hb d_L_areSets_137 rfl (lv_at hl 3 rfl) ?_
        refine lv_iadd hx hb d_L_areSets_138 ?_
        refine lv_imul hx hb d_L_areSets_139 ?_
        refine lv_iload hx hb d_L_areSets_140 (lv_at hl 5 rfl) ?_
        refine lv_irem hx hb d_L_areSets_142 ho.2 ?_
        refine lv_if_ne (tgt := 150) hx hb d_L_areSets_143 (by decide) (fun c_143 => ?_) (fun c_143 => ?_)
        · refine lv_iconst (v := (0 : Int32)) hx hb d_L_areSets_150 rfl ?_
          exact b151 Z x1 x2 x3 x4 x5 (0 : Int32) t0 H locs hP hS (by assumption) ls (lv_sub hl [0, 1, 2, 3, 4, 5] rfl) (by rw [hq, s_L_areSets_b135, if_neg c_143])
        · refine lv_iconst (v := (1 : Int32)) hx hb d_L_areSets_146 rfl ?_
          refine lv_goto (tgt := 151) hx hb d_L_areSets_147 (by decide) ?_
          exact b151 Z x1 x2 x3 x4 x5 (1 : Int32) t0 H locs hP hS (by assumption) ls (lv_sub hl [0, 1, 2, 3, 4, 5] rfl) (by rw [hq, s_L_areSets_b135, if_pos c_143])
      have b130 : ∀ (Z : St) (x1 : Int32) (x2 : Int32) (x3 : Int32) (x4 : Int32) (x5 : Int32) (H : Heap) (locs : List Loc), va_P E.1 vwCl (wb E ad Z ++ X) H → va_S A s.heap H locs → (UQ n36 9 (x5 + 1) ∧ ¬ x5 = 0) → ∀ (ls : Array Slot), lv_has ls 15 [(0, .ref (ad 39)), (1, .int x1), (2, .int x2), (3, .int x3), (4, .int x4), (5, .int x5)] → (s_L_areSets S a1) = s_L_areSets_b130 (fun Z x1 x2 x3 x4 x5 => s_L_areSets_b36 n36 Z x1 x2 x3 x4 x5) Z x1 x2 x3 x4 x5 → W p l e (rk 6 144) s m args below meth c H locs 0 0 Q (F0 m 130 ls []) := by
        intro Z x1 x2 x3 x4 x5 H locs hP hS ho ls hl hq
        refine lv_iconst (v := (1 : Int32)) hx hb d_L_areSets_130 rfl ?_
        refine lv_goto (tgt := 135) hx hb d_L_areSets_131 (by decide) ?_
        exact b135 Z x1 x2 x3 x4 x5 (1 : Int32) H locs hP hS (by assumption) ls (lv_sub hl [0, 1, 2, 3, 4, 5] rfl) (by rw [hq, s_L_areSets_b130])
      have b117 : ∀ (Z : St) (x1 : Int32) (x2 : Int32) (x3 : Int32) (x4 : Int32) (x5 : Int32) (x6 : Int32) (H : Heap) (locs : List Loc), va_P E.1 vwCl (wb E ad Z ++ X) H → va_S A s.heap H locs → (UQ n36 9 (x5 + 1) ∧ ¬ x5 = 0) → ∀ (ls : Array Slot), lv_has ls 15 [(0, .ref (ad 39)), (1, .int x1), (2, .int x2), (3, .int x3), (4, .int x4), (5, .int x5), (6, .int x6)] → (s_L_areSets S a1) = s_L_areSets_b117 (fun Z x1 x2 x3 x4 x5 => s_L_areSets_b36 n36 Z x1 x2 x3 x4 x5) Z x1 x2 x3 x4 x5 x6 → W p l e (rk 6 144) s m args below meth c H locs 0 0 Q (F0 m 117 ls []) := by
        intro Z x1 x2 x3 x4 x5 x6 H locs hP hS ho ls hl hq
        refine lv_iload hx hb d_L_areSets_117 (lv_at hl 6 rfl) ?_
        refine lv_iconst (v := (1 : Int32)) hx hb d_L_areSets_119 rfl ?_
        refine lv_icmp_eq (tgt := 130) hx hb d_L_areSets_120 (by decide) (fun c_120 => ?_) (fun c_120 => ?_)
        · exact b130 Z x1 x2 x3 x4 x5 H locs hP hS (by assumption) ls (lv_sub hl [0, 1, 2, 3, 4, 5] rfl) (by rw [hq, s_L_areSets_b117, if_pos c_120])
        · refine lv_iload hx hb d_L_areSets_123 (lv_at hl 6 rfl) ?_
          refine lv_bipush (v := (-2 : Int32)) hx hb d_L_areSets_125 rfl ?_
          refine lv_icmp_ne (tgt := 134) hx hb d_L_areSets_127 (by decide) (fun c_127 => ?_) (fun c_127 => ?_)
          · refine lv_iconst (v := (0 : Int32)) hx hb d_L_areSets_134 rfl ?_
            exact b135 Z x1 x2 x3 x4 x5 (0 : Int32) H locs hP hS (by assumption) ls (lv_sub hl [0, 1, 2, 3, 4, 5] rfl) (by rw [hq, s_L_areSets_b117, if_neg c_120, if_neg c_127])
          · exact b130 Z x1 x2 x3 x4 x5 H locs hP hS (by assumption) ls (lv_sub hl [0, 1, 2, 3, 4, 5] rfl) (by rw [hq, s_L_areSets_b117, if_neg c_120, if_pos c_127])
      have b104 : ∀ (Z : St) (x1 : Int32) (x2 : Int32) (x3 : Int32) (x4 : Int32) (x5 : Int32) (x6 : Int32) (H : Heap) (locs : List Loc), va_P E.1 vwCl (wb E ad Z ++ X) H → va_S A s.heap H locs → (UQ n36 9 (x5 + 1) ∧ ¬ x5 = 0) → ∀ (ls : Array Slot), lv_has ls 15 [(0, .ref (ad 39)), (1, .int x1), (2, .int x2), (3, .int x3), (4, .int x4), (5, .int x5), (6, .int x6)] → (s_L_areSets S a1) = s_L_areSets_b104 (fun Z x1 x2 x3 x4 x5 => s_L_areSets_b36 n36 Z x1 x2 x3 x4 x5) Z x1 x2 x3 x4 x5 x6 → W p l e (rk 6 144) s m args below meth c H locs 0 0 Q (F0 m 104 ls []) := by
        intro Z x1 x2 x3 x4 x5 x6 H locs hP hS ho ls hl hq
        refine lv_iload hx hb d_L_areSets_104 (lv_at hl 5 rfl) ?_
        refine lv_iload hx hb d_L_areSets_106 (lv_at hl 4 rfl) ?_
        refine lv_icmp_le (tgt := 117) hx hb d_L_areSets_108 (by decide) (fun c_108 => ?_) (fun c_108 => ?_)
        · exact b117 Z x1 x2 x3 x4 x5 x6 H locs hP hS (by assumption) ls (lv_sub hl [0, 1, 2, 3, 4, 5, 6] rfl) (by rw [hq, s_L_areSets_b104, if_pos c_108])
        · refine lv_iload hx hb d_L_areSets_111 (lv_at hl 6 rfl) ?_
          refine lv_iconst (v := (1 : Int32)) hx hb d_L_areSets_113 rfl ?_
          refine lv_icmp_eq (tgt := 154) hx hb d_L_areSets_114 (by decide) (fun c_114 => ?_) (fun c_114 => ?_)
          · refine lv_iconst (v := (0 : Int32)) hx hb d_L_areSets_154 rfl ?_
            exact hend _ _ _ _ _ _ (by rw [hq, s_L_areSets_b104, if_neg c_108, if_pos c_114]) hP hS d_L_areSets_155
          · exact b117 Z x1 x2 x3 x4 x5 x6 H locs hP hS (by assumption) ls (lv_sub hl [0, 1, 2, 3, 4, 5, 6] rfl) (by rw [hq, s_L_areSets_b104, if_neg c_108, if_neg c_114])
      have b91 : ∀ (Z : St) (x1 : Int32) (x2 : Int32) (x3 : Int32) (x4 : Int32) (x5 : Int32) (x6 : Int32) (H : Heap) (locs : List Loc), va_P E.1 vwCl (wb E ad Z ++ X) H → va_S A s.heap H locs → (UQ n36 9 (x5 + 1) ∧ ¬ x5 = 0) → ∀ (ls : Array Slot), lv_has ls 15 [(0, .ref (ad 39)), (1, .int x1), (2, .int x2), (3, .int x3), (4, .int x4), (5, .int x5), (6, .int x6)] → (s_L_areSets S a1) = s_L_areSets_b91 (fun Z x1 x2 x3 x4 x5 => s_L_areSets_b36 n36 Z x1 x2 x3 x4 x5) Z x1 x2 x3 x4 x5 x6 → W p l e (rk 6 144) s m args below meth c H locs 0 0 Q (F0 m 91 ls []) := by
        intro Z x1 x2 x3 x4 x5 x6 H locs hP hS ho ls hl hq
        refine lv_iload hx hb d_L_areSets_91 (lv_at hl 5 rfl) ?_
        refine lv_iload hx hb d_L_areSets_93 (lv_at hl 4 rfl) ?_
        refine lv_icmp_ne (tgt := 104) hx hb d_L_areSets_95 (by decide) (fun c_95 => ?_) (fun c_95 => ?_)
        · exact b104 Z x1 x2 x3 x4 x5 x6 H locs hP hS (by assumption) ls (lv_sub hl [0, 1, 2, 3, 4, 5, 6] rfl) (by rw [hq, s_L_areSets_b91, if_neg c_95])
        · refine lv_iload hx hb d_L_areSets_98 (lv_at hl 6 rfl) ?_
          refine lv_iconst (v := (1 : Int32)) hx hb d_L_areSets_100 rfl ?_
          refine lv_icmp_ne (tgt := 154) hx hb d_L_areSets_101 (by decide) (fun c_101 => ?_) (fun c_101 => ?_)
          · refine lv_iconst (v := (0 : Int32)) hx hb d_L_areSets_154 rfl ?_
            exact hend _ _ _ _ _ _ (by rw [hq, s_L_areSets_b91, if_pos c_95, if_neg c_101]) hP hS d_L_areSets_155
          · exact b104 Z x1 x2 x3 x4 x5 x6 H locs hP hS (by assumption) ls (lv_sub hl [0, 1, 2, 3, 4, 5, 6] rfl) (by rw [hq, s_L_areSets_b91, if_pos c_95, if_pos c_101])
      have b79 : ∀ (Z : St) (x1 : Int32) (x2 : Int32) (x3 : Int32) (x4 : Int32) (x5 : Int32) (x6 : Int32) (H : Heap) (locs : List Loc), va_P E.1 vwCl (wb E ad Z ++ X) H → va_S A s.heap H locs → (UQ n36 9 (x5 + 1) ∧ ¬ x5 = 0) → ∀ (ls : Array Slot), lv_has ls 15 [(0, .ref (ad 39)), (1, .int x1), (2, .int x2), (3, .int x3), (4, .int x4), (5, .int x5), (6, .int x6)] → (s_L_areSets S a1) = s_L_areSets_b79 (fun Z x1 x2 x3 x4 x5 => s_L_areSets_b36 n36 Z x1 x2 x3 x4 x5) Z x1 x2 x3 x4 x5 x6 → W p l e (rk 6 144) s m args below meth c H locs 0 0 Q (F0 m 79 ls []) := by
        intro Z x1 x2 x3 x4 x5 x6 H locs hP hS ho ls hl hq
        refine lv_iload hx hb d_L_areSets_79 (lv_at hl 5 rfl) ?_
        refine lv_iconst (v := (1 : Int32)) hx hb d_L_areSets_81 rfl ?_
        refine lv_icmp_ne (tgt := 91) hx hb d_L_areSets_82 (by decide) (fun c_82 => ?_) (fun c_82 => ?_)
        · exact b91 Z x1 x2 x3 x4 x5 x6 H locs hP hS (by assumption) ls (lv_sub hl [0, 1, 2, 3, 4, 5, 6] rfl) (by rw [hq, s_L_areSets_b79, if_neg c_82])
        · refine lv_iload hx hb d_L_areSets_85 (lv_at hl 6 rfl) ?_
          refine lv_iconst (v := (1 : Int32)) hx hb d_L_areSets_87 rfl ?_
          refine lv_icmp_ne (tgt := 154) hx hb d_L_areSets_88 (by decide) (fun c_88 => ?_) (fun c_88 => ?_)
          · refine lv_iconst (v := (0 : Int32)) hx hb d_L_areSets_154 rfl ?_
            exact hend _ _ _ _ _ _ (by rw [hq, s_L_areSets_b79, if_pos c_82, if_neg c_88]) hP hS d_L_areSets_155
          · exact b91 Z x1 x2 x3 x4 x5 x6 H locs hP hS (by assumption) ls (lv_sub hl [0, 1, 2, 3, 4, 5, 6] rfl) (by rw [hq, s_L_areSets_b79, if_pos c_82, if_pos c_88])
      intro Z x1 x2 x3 x4 x5 H locs hP hS hv ls hl hq
      refine lv_iload hx hb d_L_areSets_36 (lv_at hl 5 rfl) ?_
      refine lv_bipush (v := (9 : Int32)) hx hb d_L_areSets_38 rfl ?_
      refine lv_icmp_ge (tgt := 162) hx hb d_L_areSets_40 (by decide) (fun c_40 => ?_) (fun c_40 => ?_)
      · refine lv_iconst (v := (0 : Int32)) hx hb d_L_areSets_162 rfl ?_
        refine lv_istore (lv' := [(5, .int (0 : Int32)), (0, .ref (ad 39)), (1, .int x1), (2, .int x2), (3, .int x3), (4, .int x4)]) hx hb d_L_areSets_163 hl (by decide) rfl (fun ls hl => ?_)
        exact b165 (4) Z x1 x2 x3 (0 : Int32) H locs hP hS (UP_in' (by decide) (by decide)) ls (lv_sub hl [1, 2, 3, 4, 0] rfl) (by rw [hq, s_L_areSets_b36, if_pos c_40])
      · refine lv_aload_n hx hb d_L_areSets_43 rfl (lv_at hl 0 rfl) ?_
        refine lv_iload_n hx hb d_L_areSets_44 rfl (lv_at hl 2 rfl) ?_
        refine lv_iload_n hx hb d_L_areSets_45 rfl (lv_at hl 3 rfl) ?_
        refine lv_iload hx hb d_L_areSets_46 (lv_at hl 5 rfl) ?_
        refine k_vi (rest := []) (c_P_together l E ad X Z x2 x3 x5) mi_P_together ml_L_115 hx hb hml hts hown hK hP rvP hl ⟨rfl, rfl⟩ ⟨(Nat.le_of_ble_eq_true rfl), (Nat.le_of_ble_eq_true rfl)⟩ ⟨Nat.zero_le _, Nat.zero_le _⟩ rfl (Nat.le_of_ble_eq_true rfl) rfl d_L_areSets_48 ?_
        refine lv_istore (lv' := [(6, .int (s_P_together Z x2 x3 x5)), (0, .ref (ad 39)), (1, .int x1), (2, .int x2), (3, .int x3), (4, .int x4), (5, .int x5)]) hx hb d_L_areSets_51 hl (by decide) rfl (fun ls hl => ?_)
        refine lv_iload hx hb d_L_areSets_53 (lv_at hl 0 rfl) ?_
        refine lv_iconst (v := (1 : Int32)) hx hb d_L_areSets_55 rfl ?_
        refine lv_icmp_eq (tgt := 79) hx hb d_L_areSets_56 (by decide) (fun c_56 => ?_) (fun c_56 => ?_)
        · exact b79 Z x1 x2 x3 x4 x5 (s_P_together Z x2 x3 x5) H locs hP hS (⟨UQ_up hv c_40, UQ_ne hv⟩) ls (lv_sub hl [1, 2, 3, 4, 5, 6, 0] rfl) (by rw [hq, s_L_areSets_b36, if_neg c_40, if_pos c_56])
        · refine lv_iload hx hb d_L_areSets_59 (lv_at hl 0 rfl) ?_
          refine lv_iconst (v := (-1 : Int32)) hx hb d_L_areSets_61 rfl ?_
          refine lv_icmp_eq (tgt := 79) hx hb d_L_areSets_62 (by decide) (fun c_62 => ?_) (fun c_62 => ?_)
          · exact b79 Z x1 x2 x3 x4 x5 (s_P_together Z x2 x3 x5) H locs hP hS (⟨UQ_up hv c_40, UQ_ne hv⟩) ls (lv_sub hl [1, 2, 3, 4, 5, 6, 0] rfl) (by rw [hq, s_L_areSets_b36, if_neg c_40, if_neg c_56, if_pos c_62])
          · refine lv_iload hx hb d_L_areSets_65 (lv_at hl 0 rfl) ?_
            refine lv_bipush (v := (-2 : Int32)) hx hb d_L_areSets_67 rfl ?_
            refine lv_icmp_eq (tgt := 79) hx hb d_L_areSets_69 (by decide) (fun c_69 => ?_) (fun c_69 => ?_)
            · exact b79 Z x1 x2 x3 x4 x5 (s_P_together Z x2 x3 x5) H locs hP hS (⟨UQ_up hv c_40, UQ_ne hv⟩) ls (lv_sub hl [1, 2, 3, 4, 5, 6, 0] rfl) (by rw [hq, s_L_areSets_b36, if_neg c_40, if_neg c_56, if_neg c_62, if_pos c_69])
            · refine lv_iload hx hb d_L_areSets_72 (lv_at hl 0 rfl) ?_
              refine lv_bipush (v := (-3 : Int32)) hx hb d_L_areSets_74 rfl ?_
              refine lv_icmp_ne (tgt := 154) hx hb d_L_areSets_76 (by decide) (fun c_76 => ?_) (fun c_76 => ?_)
              · refine lv_iconst (v := (0 : Int32)) hx hb d_L_areSets_154 rfl ?_
                exact hend _ _ _ _ _ _ (by rw [hq, s_L_areSets_b36, if_neg c_40, if_neg c_56, if_neg c_62, if_neg c_69, if_neg c_76]) hP hS d_L_areSets_155
              · exact b79 Z x1 x2 x3 x4 x5 (s_P_together Z x2 x3 x5) H locs hP hS (⟨UQ_up hv c_40, UQ_ne hv⟩) ls (lv_sub hl [1, 2, 3, 4, 5, 6, 0] rfl) (by rw [hq, s_L_areSets_b36, if_neg c_40, if_neg c_56, if_neg c_62, if_neg c_69, if_pos c_76])
  refine lv_iconst (v := (5 : Int32)) hx hb d_L_areSets_0 rfl ?_
  refine lv_iload_n hx hb d_L_areSets_1 rfl (lv_at hl 1 rfl) ?_
  refine lv_iconst (v := (3 : Int32)) hx hb d_L_areSets_2 rfl ?_
  refine lv_ishr hx hb d_L_areSets_3 ?_
  refine lv_bipush (v := (127 : Int32)) hx hb d_L_areSets_4 rfl ?_
  refine lv_iand hx hb d_L_areSets_6 ?_
  refine lv_bipush (v := (95 : Int32)) hx hb d_L_areSets_7 rfl ?_
  refine lv_irem hx hb d_L_areSets_9 (by decide) ?_
  refine lv_iadd hx hb d_L_areSets_10 ?_
  refine lv_istore_n (lv' := [(2, .int ((5 : Int32) + (((a1 >>> ((3 : Int32) &&& 31)) &&& (127 : Int32)) - ((a1 >>> ((3 : Int32) &&& 31)) &&& (127 : Int32)) / (95 : Int32) * (95 : Int32)))), (0, .ref (ad 39)), (1, .int a1)]) hx hb d_L_areSets_11 rfl hl (by decide) rfl (fun ls hl => ?_)
  refine lv_iconst (v := (5 : Int32)) hx hb d_L_areSets_12 rfl ?_
  refine lv_iload_n hx hb d_L_areSets_13 rfl (lv_at hl 2 rfl) ?_
  refine lv_bipush (v := (10 : Int32)) hx hb d_L_areSets_14 rfl ?_
  refine lv_ishr hx hb d_L_areSets_16 ?_
  refine lv_bipush (v := (127 : Int32)) hx hb d_L_areSets_17 rfl ?_
  refine lv_iand hx hb d_L_areSets_19 ?_
  refine lv_bipush (v := (95 : Int32)) hx hb d_L_areSets_20 rfl ?_
  refine lv_irem hx hb d_L_areSets_22 (by decide) ?_
  refine lv_iadd hx hb d_L_areSets_23 ?_
  refine lv_istore_n (lv' := [(3, .int ((5 : Int32) + (((a1 >>> ((10 : Int32) &&& 31)) &&& (127 : Int32)) - ((a1 >>> ((10 : Int32) &&& 31)) &&& (127 : Int32)) / (95 : Int32) * (95 : Int32)))), (2, .int ((5 : Int32) + (((a1 >>> ((3 : Int32) &&& 31)) &&& (127 : Int32)) - ((a1 >>> ((3 : Int32) &&& 31)) &&& (127 : Int32)) / (95 : Int32) * (95 : Int32)))), (0, .ref (ad 39)), (1, .int a1)]) hx hb d_L_areSets_24 rfl hl (by decide) rfl (fun ls hl => ?_)
  refine lv_aload_n hx hb d_L_areSets_25 rfl (lv_at hl 2 rfl) ?_
  refine lv_iload_n hx hb d_L_areSets_26 rfl (lv_at hl 1 rfl) ?_
  refine lv_iload_n hx hb d_L_areSets_27 rfl (lv_at hl 0 rfl) ?_
  refine k_vi (rest := []) (c_P_most l E ad X S ((5 : Int32) + (((a1 >>> ((3 : Int32) &&& 31)) &&& (127 : Int32)) - ((a1 >>> ((3 : Int32) &&& 31)) &&& (127 : Int32)) / (95 : Int32) * (95 : Int32))) ((5 : Int32) + (((a1 >>> ((10 : Int32) &&& 31)) &&& (127 : Int32)) - ((a1 >>> ((10 : Int32) &&& 31)) &&& (127 : Int32)) / (95 : Int32) * (95 : Int32)))) mi_P_most ml_L_112 hx hb hml hts hown hK hP rvP hl ⟨rfl, rfl⟩ ⟨(Nat.le_of_ble_eq_true rfl), (Nat.le_of_ble_eq_true rfl)⟩ ⟨Nat.zero_le _, Nat.zero_le _⟩ rfl (Nat.le_of_ble_eq_true rfl) rfl d_L_areSets_28 ?_
  refine lv_istore (lv' := [(4, .int (s_P_most S ((5 : Int32) + (((a1 >>> ((3 : Int32) &&& 31)) &&& (127 : Int32)) - ((a1 >>> ((3 : Int32) &&& 31)) &&& (127 : Int32)) / (95 : Int32) * (95 : Int32))) ((5 : Int32) + (((a1 >>> ((10 : Int32) &&& 31)) &&& (127 : Int32)) - ((a1 >>> ((10 : Int32) &&& 31)) &&& (127 : Int32)) / (95 : Int32) * (95 : Int32))))), (3, .int ((5 : Int32) + (((a1 >>> ((10 : Int32) &&& 31)) &&& (127 : Int32)) - ((a1 >>> ((10 : Int32) &&& 31)) &&& (127 : Int32)) / (95 : Int32) * (95 : Int32)))), (2, .int ((5 : Int32) + (((a1 >>> ((3 : Int32) &&& 31)) &&& (127 : Int32)) - ((a1 >>> ((3 : Int32) &&& 31)) &&& (127 : Int32)) / (95 : Int32) * (95 : Int32)))), (0, .ref (ad 39)), (1, .int a1)]) hx hb d_L_areSets_31 hl (by decide) rfl (fun ls hl => ?_)
  refine lv_iconst (v := (1 : Int32)) hx hb d_L_areSets_33 rfl ?_
  refine lv_istore (lv' := [(5, .int (1 : Int32)), (4, .int (s_P_most S ((5 : Int32) + (((a1 >>> ((3 : Int32) &&& 31)) &&& (127 : Int32)) - ((a1 >>> ((3 : Int32) &&& 31)) &&& (127 : Int32)) / (95 : Int32) * (95 : Int32))) ((5 : Int32) + (((a1 >>> ((10 : Int32) &&& 31)) &&& (127 : Int32)) - ((a1 >>> ((10 : Int32) &&& 31)) &&& (127 : Int32)) / (95 : Int32) * (95 : Int32))))), (3, .int ((5 : Int32) + (((a1 >>> ((10 : Int32) &&& 31)) &&& (127 : Int32)) - ((a1 >>> ((10 : Int32) &&& 31)) &&& (127 : Int32)) / (95 : Int32) * (95 : Int32)))), (2, .int ((5 : Int32) + (((a1 >>> ((3 : Int32) &&& 31)) &&& (127 : Int32)) - ((a1 >>> ((3 : Int32) &&& 31)) &&& (127 : Int32)) / (95 : Int32) * (95 : Int32)))), (0, .ref (ad 39)), (1, .int a1)]) hx hb d_L_areSets_34 hl (by decide) rfl (fun ls hl => ?_)
  exact b36 (10) S a1 ((5 : Int32) + (((a1 >>> ((3 : Int32) &&& 31)) &&& (127 : Int32)) - ((a1 >>> ((3 : Int32) &&& 31)) &&& (127 : Int32)) / (95 : Int32) * (95 : Int32))) ((5 : Int32) + (((a1 >>> ((10 : Int32) &&& 31)) &&& (127 : Int32)) - ((a1 >>> ((10 : Int32) &&& 31)) &&& (127 : Int32)) / (95 : Int32) * (95 : Int32))) (s_P_most S ((5 : Int32) + (((a1 >>> ((3 : Int32) &&& 31)) &&& (127 : Int32)) - ((a1 >>> ((3 : Int32) &&& 31)) &&& (127 : Int32)) / (95 : Int32) * (95 : Int32))) ((5 : Int32) + (((a1 >>> ((10 : Int32) &&& 31)) &&& (127 : Int32)) - ((a1 >>> ((10 : Int32) &&& 31)) &&& (127 : Int32)) / (95 : Int32) * (95 : Int32)))) (1 : Int32) s.heap [] hP hS (⟨UP_in' (by decide) (by decide), by decide⟩) ls (lv_sub hl [4, 5, 3, 2, 1, 0] rfl) (by rw [s_L_areSets])
