/-! the train; the law's isTrain -/
section train
variable {S : St} {w a b t v x k : Int32}
theorem pr_at (hB : BN S) (h0 : 0 ≤ k.toInt) (h1 : k.toInt < (S.1 2).toInt) : PM S (s_N_at S 2 k) (s_N_at S 3 k) := by
  have hB0 := hB
  obtain ⟨-, -, h2, h3, -, -, hP⟩ := hB
  have cc := c16
  have hk : (k.toNatClampNeg : Int) < (S.1 2).toInt := by rw [i32_tn h0]; exact h1
  have e := hP _ hk
  rw [at_in h0 h1 (by omega), at_in h0 (by rw [h3]; exact h1) (by omega)]
  exact PQ_PM hB0 e
theorem fc_b (hB : BN S) : ∀ (n : Nat) (y : Int32), UP n (S.1 2) y → y.toInt ≤ (S.1 2).toInt → (s_B_firstClash_b2 S n y = -2 ∧ ∀ k : Int32, y.toInt ≤ k.toInt → k.toInt < (S.1 2).toInt → s_B_clashes S (s_N_at S 2 k) (s_N_at S 3 k) = 0) ∨ (y.toInt ≤ (s_B_firstClash_b2 S n y).toInt ∧ (s_B_firstClash_b2 S n y).toInt < (S.1 2).toInt) := by
  have b2 := hB.2.2.1
  intro n
  induction n with
  | zero => intro y h; exact absurd h UP_z
  | succ n ih =>
    intro y h hy
    rw [s_B_firstClash_b2, s_N_size]
    by_cases c : S.1 2 ≤ y
    · rw [if_pos c]; rw [le32] at c; exact Or.inl ⟨rfl, fun k h1 h2 => by omega⟩
    · rw [if_neg c]
      have h' := UP_up h c
      have h0 := h.2.2
      rw [le32] at c
      have es : (y + 1).toInt = y.toInt + 1 := i32_suc (by omega)
      by_cases d : s_B_clashes S (s_N_at S 2 y) (s_N_at S 3 y) = 0
      · rw [if_pos d]
        rcases ih (y + 1) h' (by omega) with ⟨i1, i2⟩ | ⟨i1, i2⟩
        · refine Or.inl ⟨i1, fun k k1 k2 => ?_⟩
          by_cases e : k.toInt = y.toInt
          · rw [eq32.mpr e]; exact d
          · exact i2 k (by omega) k2
        · exact Or.inr ⟨by omega, i2⟩
      · rw [if_neg d]; exact Or.inr ⟨Int.le_refl _, by omega⟩
theorem fc (hB : BN S) : (s_B_firstClash S = -2 ∧ ∀ k : Int32, 0 ≤ k.toInt → k.toInt < (S.1 2).toInt → s_B_clashes S (s_N_at S 2 k) (s_N_at S 3 k) = 0) ∨ (0 ≤ (s_B_firstClash S).toInt ∧ (s_B_firstClash S).toInt < (S.1 2).toInt) := by
  have b2 := hB.2.2.1
  rw [s_B_firstClash]
  have := fc_b hB ((S.1 2).toInt.toNat + 1) 0 (UP_in (by decide)) (by rw [z32]; exact b2.1)
  rw [z32] at this
  exact this
/-- two products of sizes of k wheels -/
def TQ (k : Int32) (x y : Int64) : Prop := ∃ P Q : Nat, 0 < P ∧ 0 < Q ∧ P ≤ 99 ^ k.toInt.toNat ∧ Q ≤ 99 ^ k.toInt.toNat ∧ (x.toInt = (P : Int) ∨ x.toInt = -(P : Int)) ∧ y.toInt = (Q : Int)
theorem p99 {k : Nat} (h : k ≤ 9) : 99 ^ k ≤ 913517247483640899 := by
  have : 99 ^ k ≤ 99 ^ 9 := Nat.pow_le_pow_right (by decide) h
  exact Nat.le_trans this (by decide)
theorem TQ_st (hB : BN S) {x y : Int64} (h : TQ k x y) (h0 : 0 ≤ k.toInt) (h9 : k.toInt < 9) {o r : Int32} (hp : PM S o r) : TQ (k + 1) (x * s_B_above S o r) (y * s_B_below S o r) := by
  obtain ⟨P, Q, P0, Q0, P1, Q1, hx, hy⟩ := h
  obtain ⟨na, a0, a1, ea⟩ := siz hB hp.1
  obtain ⟨nb, b0, b1, eb⟩ := siz hB hp.2.1
  obtain ⟨u1, u2⟩ := above_i (a := o) hB hp.2.1 b0 b1 eb
  have l1 := below_i (b := r) ea
  have es : (k + 1).toInt.toNat = k.toInt.toNat + 1 := by rw [i32_suc (by omega)]; omega
  have q1 : P * nb ≤ 99 ^ k.toInt.toNat * 99 := Nat.mul_le_mul P1 b1
  have q2 : Q * na ≤ 99 ^ k.toInt.toNat * 99 := Nat.mul_le_mul Q1 a1
  have e9 : 99 ^ (k.toInt.toNat + 1) = 99 ^ k.toInt.toNat * 99 := Nat.pow_succ ..
  have m9 := p99 (k := k.toInt.toNat + 1) (by omega)
  rw [e9] at m9
  have p0 : 0 < P * nb := Nat.mul_pos P0 (by omega)
  have q0 : 0 < Q * na := Nat.mul_pos Q0 (by omega)
  refine ⟨P * nb, Q * na, p0, q0, by rw [es, e9]; exact q1, by rw [es, e9]; exact q2, ?_, ?_⟩
  · have s1 : (s_B_above S o r).toInt = (nb : Int) ∨ (s_B_above S o r).toInt = -(nb : Int) := (Classical.em (s_B_hasRing S o r = 0)).elim (fun q => Or.inr (u1 q)) (fun q => Or.inl (u2 q))
    have ex : x.toInt * (s_B_above S o r).toInt = ((P * nb : Nat) : Int) ∨ x.toInt * (s_B_above S o r).toInt = -((P * nb : Nat) : Int) := by
      rw [Int.natCast_mul]
      rcases hx with e | e <;> rcases s1 with f | f <;> rw [e, f]
      · exact Or.inl rfl
      · exact Or.inr (Int.mul_neg _ _)
      · exact Or.inr (Int.neg_mul _ _)
      · exact Or.inl (Int.neg_mul_neg _ _)
    rw [i64_mul (by omega) (by omega)]
    exact ex
  · rw [i64_mul (by rw [hy, l1, ← Int.natCast_mul]; omega) (by rw [hy, l1, ← Int.natCast_mul]; omega), hy, l1, Int.natCast_mul]
theorem tr_b (hB : BN S) (c : Int32) : ∀ (n : Nat) (x y : Int64) (k : Int32), UP n (S.1 2) k → k.toInt ≤ (S.1 2).toInt → TQ k x y → ∃ (x' y' : Int64) (k' : Int32), (0 ≤ k'.toInt ∧ k'.toInt ≤ 9) ∧ TQ k' x' y' ∧ s_B_trainRatio_b8 S n c x y k = s_P_partOf x' y' c := by
  have b2 := hB.2.2.1
  intro n
  induction n with
  | zero => intro x y k h; exact absurd h UP_z
  | succ n ih =>
    intro x y k h hk ht
    rw [s_B_trainRatio_b8, s_N_size]
    have h0 := h.2.2
    by_cases d : S.1 2 ≤ k
    · rw [if_pos d]; exact ⟨x, y, k, ⟨h0, by omega⟩, ht, rfl⟩
    · rw [if_neg d]
      have h' := UP_up h d
      rw [le32] at d
      have es : (k + 1).toInt = k.toInt + 1 := i32_suc (by omega)
      exact ih _ _ _ h' (by omega) (TQ_st hB ht h0 (by omega) (pr_at hB h0 (by omega)))
theorem tr_g (hB : BN S) (c : Int32) : ∃ (x y : Int64) (k : Int32), (0 ≤ k.toInt ∧ k.toInt ≤ 9) ∧ TQ k x y ∧ s_B_trainRatio S c = s_P_partOf x y c := by
  have b2 := hB.2.2.1
  rw [s_B_trainRatio]
  exact tr_b hB c _ _ _ 0 (UP_in (by decide)) (by rw [z32]; exact b2.1) ⟨1, 1, by decide, by decide, by decide, by decide, Or.inl (by decide), by decide⟩
theorem near_b (hB : BN S) : ∀ (n : Nat) (x y : Int32), UP n (S.1 2) y → 0 ≤ x.toInt → x.toInt < (S.1 2).toInt → 0 ≤ (s_B_nearestPair_b4 S n x y).toInt ∧ (s_B_nearestPair_b4 S n x y).toInt < (S.1 2).toInt := by
  have b2 := hB.2.2.1
  intro n
  induction n with
  | zero => intro x y h; exact absurd h UP_z
  | succ n ih =>
    intro x y h h0 h1
    rw [s_B_nearestPair_b4, s_N_size]
    by_cases c : S.1 2 ≤ y
    · rw [if_pos c]; exact ⟨h0, h1⟩
    · rw [if_neg c]
      have h' := UP_up h c
      have hy := h.2.2
      rw [le32] at c
      split
      · exact ih x _ h' h0 h1
      · exact ih y _ h' hy (by omega)
theorem clo_ne (hB : BN S) : ¬ s_P_closest S 2 = 0 := by
  rw [s_P_closest, if_neg (by decide), if_neg (by decide)]
  split
  · decide
  · split
    · rw [if_neg (by decide)]
      generalize s_B_hundredthsInTrain S (s_B_nearestPair S) = H
      have e100 : (100 : Int64).toInt = 100 := by decide
      have h21 : (2 : Int32) - 1 = 1 := by decide
      intro q
      have q1 := part_t (a := H.toInt64) (b := (100 : Int64)) (c := 1) (by rw [e100]; omega) (by rw [i64_of]; have := i32_lo H; omega)
      rw [if_neg (by decide)] at q1
      rw [h21] at q
      rw [q, z64] at q1
      have g := Int.tdiv_mul_cancel (GD_dvd_b (a := H.toInt64) (b := (100 : Int64)) (by rw [e100]; omega))
      rw [← q1, e100] at g
      omega
    · decide
theorem isTrain_1 (hB : BN S) : s_L_isTrain S = 1 := by
  have b2 := hB.2.2.1
  have e1 : s_P_count S 1 = S.1 2 := by rw [s_P_count, if_neg (by decide), if_pos rfl, s_B_pairsInTrain, s_N_size]
  have e2 : s_P_faulty S = s_B_firstClash S := rfl
  have en : s_B_pairsInTrain S = S.1 2 := by rw [s_B_pairsInTrain, s_N_size]
  have hf := fc hB
  rw [s_L_isTrain, e1, e2]
  by_cases c : S.1 2 = 0
  · have hn : (S.1 2).toInt = 0 := by rw [c, z32]
    have f2 : s_B_firstClash S = -2 := by
      rcases hf with ⟨f, -⟩ | ⟨f1, f2⟩
      · exact f
      · omega
    have v1 : s_P_train S 0 = -9223372036854775808 := by rw [s_P_train, if_neg isPt0, en, if_pos c]
    have v2 : s_P_closest S 0 = -9223372036854775808 := by rw [s_P_closest, if_neg (by decide), if_neg (by decide), en, if_pos c]
    rw [if_pos c, if_pos f2, v1, v2, if_pos (by decide), if_pos (by decide)]
  · rw [if_neg c]
    have hn : 0 < (S.1 2).toInt := by
      have : (S.1 2).toInt ≠ 0 := fun q => c (eq32.mpr (by rw [q, z32]))
      omega
    rcases hf with ⟨f1, f2⟩ | ⟨f1, f2⟩
    · have fl : s_B_firstClash S < 0 := by rw [f1]; decide
      have nr := near_b hB ((S.1 2).toInt.toNat + 1) 0 1 (UP_in (B := S.1 2) (x := 1) (by decide)) (by decide) (by rw [z32]; exact hn)
      have en2 : s_B_nearestPair S = s_B_nearestPair_b4 S ((S.1 2).toInt.toNat + 1) 0 1 := rfl
      rw [← en2] at nr
      have hp := pr_at hB nr.1 nr.2
      have hb := hund_b hB hp (f2 _ nr.1 nr.2)
      have eh : s_B_hundredthsInTrain S (s_B_nearestPair S) = s_B_hundredths S (s_N_at S 2 (s_B_nearestPair S)) (s_N_at S 3 (s_B_nearestPair S)) := rfl
      rw [← eh] at hb
      have t0 : s_P_train S 0 = s_B_trainRatio S 0 := by rw [s_P_train, if_neg isPt0, en, if_neg c, if_pos fl]
      have t1 : s_P_train S 1 = s_B_trainRatio S 1 := by rw [s_P_train, if_neg isPt1, en, if_neg c, if_pos fl]
      have c0 : s_P_closest S 0 = (s_B_nearestPair S).toInt64 := by rw [s_P_closest, if_neg (by decide), if_neg (by decide), en, if_neg c, if_pos fl, if_pos rfl]
      have c1 : s_P_closest S 1 = s_P_partOf (s_B_hundredthsInTrain S (s_B_nearestPair S)).toInt64 100 0 := by rw [s_P_closest, if_neg (by decide), if_neg (by decide), en, if_neg c, if_pos fl, if_neg (by decide)]; rfl
      have c2 : s_P_closest S 2 = s_P_partOf (s_B_hundredthsInTrain S (s_B_nearestPair S)).toInt64 100 1 := by rw [s_P_closest, if_neg (by decide), if_neg (by decide), en, if_neg c, if_pos fl, if_neg (by decide)]; rfl
      generalize s_B_hundredthsInTrain S (s_B_nearestPair S) = H at hb c1 c2
      have e100 : (100 : Int64).toInt = 100 := by decide
      have q0 := part_t (a := H.toInt64) (b := (100 : Int64)) (c := 0) (by rw [e100]; omega) (by rw [i64_of]; omega)
      have q1 := part_t (a := H.toInt64) (b := (100 : Int64)) (c := 1) (by rw [e100]; omega) (by rw [i64_of]; omega)
      rw [if_pos rfl] at q0
      rw [if_neg (by decide)] at q1
      have g0 : 0 < Nat.gcd H.toInt64.toInt.natAbs (100 : Int64).toInt.toNat := Nat.gcd_pos_of_pos_right _ (by rw [e100]; decide)
      have r0 : (s_P_closest S 1).toInt * (Nat.gcd H.toInt64.toInt.natAbs (100 : Int64).toInt.toNat : Nat) = H.toInt := by rw [c1, q0, Int.tdiv_mul_cancel GD_dvd_a, i64_of]
      have r1 : (s_P_closest S 2).toInt * (Nat.gcd H.toInt64.toInt.natAbs (100 : Int64).toInt.toNat : Nat) = 100 := by rw [c2, q1, Int.tdiv_mul_cancel (GD_dvd_b (by rw [e100]; omega)), e100]
      obtain ⟨d1, d2⟩ := rem100 g0 r1
      have k0 : 0 < (s_P_closest S 1).toInt := by
        rcases Int.lt_or_le 0 (s_P_closest S 1).toInt with q | q
        · exact q
        · have := Int.mul_le_mul_of_nonneg_right q (show (0 : Int) ≤ (Nat.gcd H.toInt64.toInt.natAbs (100 : Int64).toInt.toNat : Nat) by omega)
          omega
      obtain ⟨x, y, j, hj, ⟨P, Q, P0, Q0, P1, Q1, hx, hy⟩, et0⟩ := tr_g hB 0
      obtain ⟨x', y', j', hj', ⟨P', Q', P0', Q0', P1', Q1', hx', hy'⟩, et1⟩ := tr_g hB 1
      have m9 := p99 (k := j.toInt.toNat) (by omega)
      have m9' := p99 (k := j'.toInt.toNat) (by omega)
      obtain ⟨-, w2, w3, w4, -⟩ := part_pq P0 Q0 hy hx (by omega)
      obtain ⟨v1, -, -, -, v5⟩ := part_pq P0' Q0' hy' hx' (by omega)
      have n0 : ¬ (s_B_trainRatio S 0).toInt = 0 := by
        rw [et0]
        rcases hx with e | e
        · rw [w2 e]; omega
        · rw [w3 e]; omega
      have n1 : 0 < (s_B_trainRatio S 1).toInt := by rw [et1, v1]; omega
      rw [if_pos fl, t0, t1, if_neg (by rw [lcmp_eq, eq64, z64]; exact n0), if_neg (by rw [lcmp_le, le64, z64]; omega), c0, if_neg (by rw [lcmp_lt, lt64, z64, i64_of]; omega), if_neg (by rw [lcmp_ge, le64, i64_of, i64_of]; omega), if_neg (by rw [lcmp_le, le64, z64]; omega), if_pos (by rw [lcmp_eq]; exact d2)]
    · have fl : ¬ s_B_firstClash S < 0 := by rw [lt32, z32]; omega
      have v1 : s_P_train S 1 = -9223372036854775807 := by rw [s_P_train, if_neg isPt1, en, if_neg c, if_neg fl]
      have v2 : s_P_closest S 2 = -9223372036854775807 := by rw [s_P_closest, if_neg (by decide), if_neg (by decide), en, if_neg c, if_neg fl]
      rw [if_neg fl, if_neg (by rw [le32]; omega), v1, v2, if_pos (by decide), if_pos (by decide)]
end train
