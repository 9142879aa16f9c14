/-! the library's Math by its words; loops' measures; small facts of the walks -/
theorem st_mabs : Cond.static Lib.Math.abs.name ∈ TB := tb_t 583 (by decide +kernel) rfl
theorem co_mabs : Cond.code Lib.Math.abs.name Lib.Math.abs.code 1 (some .int) ∈ TB := tb_t 584 (by decide +kernel) rfl
theorem st_mabsl : Cond.static Lib.MathLoose.abs_long.x ∈ TB := tb_t 590 (by decide +kernel) rfl
theorem co_mabsl : Cond.code Lib.MathLoose.abs_long.x Lib.MathLoose.abs_long.code 2 (some .long) ∈ TB := tb_t 591 (by decide +kernel) rfl
theorem st_mmaxl : Cond.static Lib.MathLoose.max_long.x ∈ TB := tb_t 639 (by decide +kernel) rfl
theorem co_mmaxl : Cond.code Lib.MathLoose.max_long.x Lib.MathLoose.max_long.code 4 (some .long) ∈ TB := tb_t 640 (by decide +kernel) rfl
theorem st_mmin : Cond.static Lib.Math.min.name ∈ TB := tb_t 312 (by decide +kernel) rfl
theorem co_mmin : Cond.code Lib.Math.min.name Lib.Math.min.code 2 (some .int) ∈ TB := tb_t 313 (by decide +kernel) rfl
theorem st_mmax : Cond.static Lib.Math.max.name ∈ TB := tb_t 377 (by decide +kernel) rfl
theorem co_mmax : Cond.code Lib.Math.max.name Lib.Math.max.code 2 (some .int) ∈ TB := tb_t 378 (by decide +kernel) rfl
def UP (n : Nat) (B x : Int32) : Prop := 0 < n ∧ B.toInt - x.toInt < (n : Int) ∧ 0 ≤ x.toInt
def UE (n : Nat) (B x : Int32) : Prop := 0 < n ∧ B.toInt + 1 - x.toInt < (n : Int) ∧ B.toInt < 1000
def DN (n : Nat) (x : Int32) : Prop := 0 < n ∧ x.toInt + 1 < (n : Int)
theorem UP_z {B x : Int32} : ¬ UP 0 B x := fun h => Nat.lt_irrefl 0 h.1
theorem UE_z {B x : Int32} : ¬ UE 0 B x := fun h => Nat.lt_irrefl 0 h.1
theorem DN_z {x : Int32} : ¬ DN 0 x := fun h => Nat.lt_irrefl 0 h.1
theorem i32_lo (x : Int32) : -2147483648 ≤ x.toInt := by have h := Int32.le_toInt x; simpa using h
theorem i32_hi (x : Int32) : x.toInt < 2147483648 := by have h := Int32.toInt_lt x; simpa using h
theorem i32_add {x y : Int32} (h1 : -2147483648 ≤ x.toInt + y.toInt) (h2 : x.toInt + y.toInt < 2147483648) : (x + y).toInt = x.toInt + y.toInt := by
  rw [Int32.toInt_add]
  exact Int.bmod_eq_of_le (by omega) (by omega)
theorem i32_suc {x : Int32} (h : x.toInt < 2147483647) : (x + 1).toInt = x.toInt + 1 := by
  have h1 := i32_lo x
  have e : (1 : Int32).toInt = 1 := by decide
  rw [i32_add (by rw [e]; omega) (by rw [e]; omega), e]
theorem UP_in {B x : Int32} (h : 0 ≤ x.toInt) : UP (B.toInt.toNat + 1) B x := ⟨by omega, by omega, h⟩
theorem UP_up {n : Nat} {B x : Int32} (h : UP (n + 1) B x) (c : ¬ B ≤ x) : UP n B (x + 1) := by
  obtain ⟨h1, h2, h3⟩ := h
  have hb := i32_hi B
  rw [Int32.le_iff_toInt_le] at c
  have e : (x + 1).toInt = x.toInt + 1 := i32_suc (by omega)
  exact ⟨by omega, by rw [e]; omega, by rw [e]; omega⟩
theorem UP_in' {B x : Int32} (h : 0 ≤ x.toInt) {n : Nat} (hn : B.toInt.toNat + 1 ≤ n) : UP n B x := ⟨by omega, by omega, h⟩
theorem UE_in {B x : Int32} (h : B.toInt < 1000) : UE ((B.toInt + 1 - x.toInt).toNat + 1) B x := ⟨by omega, by omega, h⟩
theorem UE_in' {n : Nat} {B x : Int32} (h1 : 0 < n) (h2 : B.toInt + 1 - x.toInt < (n : Int)) (h3 : B.toInt < 1000) : UE n B x := ⟨h1, h2, h3⟩
theorem UE_up {n : Nat} {B x : Int32} (h : UE (n + 1) B x) (c : ¬ B < x) : UE n B (x + 1) := by
  obtain ⟨h1, h2, h3⟩ := h
  rw [Int32.lt_iff_toInt_lt] at c
  have e : (x + 1).toInt = x.toInt + 1 := i32_suc (by omega)
  exact ⟨by omega, by rw [e]; omega, h3⟩
theorem DN_in {x : Int32} : DN (x.toInt.toNat + 2) x := ⟨by omega, by omega⟩
theorem DN_dn {n : Nat} {x : Int32} (h : DN (n + 1) x) (c : ¬ x < 0) : DN n (x + (-1)) := by
  obtain ⟨h1, h2⟩ := h
  have hb := i32_hi x
  rw [Int32.lt_iff_toInt_lt] at c
  have z : (0 : Int32).toInt = 0 := by decide
  rw [z] at c
  have e1 : (-1 : Int32).toInt = -1 := by decide
  have e : (x + (-1)).toInt = x.toInt - 1 := by rw [i32_add (by rw [e1]; omega) (by rw [e1]; omega), e1]; omega
  exact ⟨by omega, by rw [e]; omega⟩
theorem DN_dn1 {n : Nat} {x : Int32} (h : DN (n + 1) x) (c : ¬ x ≤ 1) : DN n (x + (-1)) := DN_dn h (fun q => c (by
  rw [Int32.lt_iff_toInt_lt] at q
  rw [Int32.le_iff_toInt_le]
  have z : (0 : Int32).toInt = 0 := by decide
  have o : (1 : Int32).toInt = 1 := by decide
  rw [z] at q; rw [o]; omega))
theorem vin_c {n : Nat} {M x : Int32} (hM : M.toInt = (n : Int)) (h0 : ¬ x < 0) (h1 : ¬ M ≤ x) : vp_in x n := by
  rw [vp_in_iff]
  rw [Int32.lt_iff_toInt_lt] at h0
  rw [Int32.le_iff_toInt_le, hM] at h1
  have z : (0 : Int32).toInt = 0 := by decide
  rw [z] at h0
  omega
theorem vin_p {n : Nat} {M x : Int32} (hM : M.toInt = (n : Int)) (h0 : 0 ≤ x.toInt) (h1 : ¬ M ≤ x) : vp_in x n := by
  rw [vp_in_iff]
  rw [Int32.le_iff_toInt_le, hM] at h1
  omega
theorem cap_lt (i : Nat) : cap i ≤ 80 := by
  unfold cap
  rcases Nat.lt_or_ge i 16 with h | h
  · match i, h with
    | 0, _ => decide
    | 1, _ => decide
    | 2, _ => decide
    | 3, _ => decide
    | 4, _ => decide
    | 5, _ => decide
    | 6, _ => decide
    | 7, _ => decide
    | 8, _ => decide
    | 9, _ => decide
    | 10, _ => decide
    | 11, _ => decide
    | 12, _ => decide
    | 13, _ => decide
    | 14, _ => decide
    | 15, _ => decide
    | k + 16, h => exact absurd h (by omega)
  · have : ([16, 16, 9, 9, 16, 16, 9, 9, 16, 16, 9, 9, 80, 40, 40, 40] : List Nat)[i]? = none := List.getElem?_eq_none (by simpa using h)
    rw [List.getD_eq_getElem?_getD, this]; decide
theorem cap_i (i : Nat) : (nI (cap i)).toInt = (cap i : Int) := nI_toInt (by have := cap_lt i; omega)
theorem lcmp_ne {x : Int64} (h : ¬ lg_cmp x 0 = 0) : ¬ x = 0 := fun e => h (by rw [e]; decide)
theorem lcmp_gt1 {x : Int64} (h : ¬ lg_cmp x 1 ≤ 0) : ¬ x = 0 := fun e => h (by rw [e]; decide)
theorem i32_div {x y : Int32} (hy : 0 < y.toInt) : (x / y).toInt = x.toInt.tdiv y.toInt := Int32.toInt_div_of_ne_right x y (fun e => by rw [e] at hy; exact absurd hy (by decide))
theorem tq_b {x y : Int} (hy : 0 < y) : y * x.tdiv y + x.tmod y = x ∧ (0 ≤ x → 0 ≤ y * x.tdiv y ∧ 0 ≤ x.tmod y) ∧ (x ≤ 0 → y * x.tdiv y ≤ 0 ∧ x.tmod y ≤ 0) ∧ x.tmod y < y ∧ -y < x.tmod y := by
  have e := Int.mul_tdiv_add_tmod x y
  refine ⟨e, fun h => ⟨Int.mul_nonneg (by omega) (Int.tdiv_nonneg h (by omega)), Int.tmod_nonneg y h⟩, fun h => ?_, Int.tmod_lt_of_pos x hy, Int.lt_tmod_of_pos x hy⟩
  have h1 : 0 ≤ (-x).tdiv y := Int.tdiv_nonneg (by omega) (by omega)
  have h2 : 0 ≤ (-x).tmod y := Int.tmod_nonneg y (by omega)
  rw [Int.neg_tdiv] at h1
  rw [Int.neg_tmod] at h2
  have h3 : 0 ≤ y * (-(x.tdiv y)) := Int.mul_nonneg (by omega) h1
  rw [Int.mul_neg] at h3
  exact ⟨by omega, by omega⟩
theorem i32_rem {x y : Int32} (hy : 0 < y.toInt) : (x - x / y * y).toInt = x.toInt.tmod y.toInt := by
  obtain ⟨e, h1, h2, h3, h4⟩ := tq_b (x := x.toInt) hy
  have hl := i32_lo x
  have hh := i32_hi x
  have hb : (x / y * y).toInt = y.toInt * x.toInt.tdiv y.toInt := by
    rw [Int32.toInt_mul, i32_div hy, Int.mul_comm]
    refine Int.bmod_eq_of_le ?_ ?_ <;> rcases Int.le_total 0 x.toInt with h | h <;> (have q1 := h1; have q2 := h2; first | (have q := h1 h; omega) | (have q := h2 h; omega))
  rw [Int32.toInt_sub, hb]
  have : x.toInt - y.toInt * x.toInt.tdiv y.toInt = x.toInt.tmod y.toInt := by omega
  rw [this]
  have hyh := i32_hi y
  exact Int.bmod_eq_of_le (by omega) (by omega)
theorem rem100_lt (x : Int32) : (x - x / 100 * 100).toInt < 1000 := by
  have h : (100 : Int32).toInt = 100 := by decide
  rw [i32_rem (by rw [h]; decide), h]
  have := Int.tmod_lt_of_pos x.toInt (show (0 : Int) < 100 by decide)
  omega
theorem ra_lt {x : Int32} (h : 0 ≤ x ∧ x < 3) : x.toNatClampNeg < 3 := by
  have h2 := h.2
  rw [Int32.lt_iff_toInt_lt] at h2
  have e : (3 : Int32).toInt = 3 := by decide
  rw [e] at h2
  unfold Int32.toNatClampNeg
  omega
theorem ite_z {c : Prop} {dc : Decidable c} {a b : Int32} (ha : a = 0 ∨ a = 1) (hb : b = 0 ∨ b = 1) : (@ite Int32 c dc a b) = 0 ∨ (@ite Int32 c dc a b) = 1 := by
  by_cases h : c
  · rw [if_pos h]; exact ha
  · rw [if_neg h]; exact hb
theorem ite_z1 {c : Prop} {dc : Decidable c} {a b : Int32 × St} (ha : a.1 = 0 ∨ a.1 = 1) (hb : b.1 = 0 ∨ b.1 = 1) : (@ite (Int32 × St) c dc a b).1 = 0 ∨ (@ite (Int32 × St) c dc a b).1 = 1 := by
  by_cases h : c
  · rw [if_pos h]; exact ha
  · rw [if_neg h]; exact hb
