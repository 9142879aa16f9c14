/-! closest, train -/
section tr
variable {S M : St} {w a b t v x : Int32}
theorem hit_eq (hB : BN S M) (h0 : 0 ≤ w.toInt) (c : ¬ M.2.1 0 34 ≤ w) : s_B_hundredthsInTrain S w = s_M_hundredths M (M.2.1 0 ((35 : Int32) + w).toNatClampNeg) (M.2.1 0 ((44 : Int32) + w).toNatClampNeg) := by
  obtain ⟨p1, p2, p3⟩ := pr_at hB h0 c
  rw [s_B_hundredthsInTrain, p1, p2, hund_eq hB p3]
def CL (M : St) (x r : Int32) : Int64 × St := (if x = 0 then ((r.toInt64), (s_M_lays M ((s_M_hundredths M (M.2.1 0 ((35 : Int32) + r).toNatClampNeg) (M.2.1 0 ((44 : Int32) + r).toNatClampNeg)).toInt64) (100 : Int64))) else ((s_M_part (s_M_lays M ((s_M_hundredths M (M.2.1 0 ((35 : Int32) + r).toNatClampNeg) (M.2.1 0 ((44 : Int32) + r).toNatClampNeg)).toInt64) (100 : Int64)) (x - (1 : Int32))), (s_M_lays M ((s_M_hundredths M (M.2.1 0 ((35 : Int32) + r).toNatClampNeg) (M.2.1 0 ((44 : Int32) + r).toNatClampNeg)).toInt64) (100 : Int64))))
theorem clo_b (hB : BN S M) (w : Int32) : ∀ (n : Nat) (x y : Int32), UP n (M.2.1 0 34) y → 0 ≤ x.toInt → ¬ M.2.1 0 34 ≤ x → ∃ r : Int32, 0 ≤ r.toInt ∧ (¬ M.2.1 0 34 ≤ r) ∧ s_B_nearestPair_b4 S n x y = r ∧ s_M_closest_b41 n M w x y = CL M w r := by
  have e2 := hB.2.1.2.2.1
  intro n
  induction n with
  | zero => intro x y h; exact absurd h UP_z
  | succ n ih =>
    intro x y h h0 hx
    rw [s_B_nearestPair_b4, s_M_closest_b41, s_N_size, e2]
    by_cases c : M.2.1 0 34 ≤ y
    · rw [if_pos c, if_pos c]; exact ⟨x, h0, hx, rfl, rfl⟩
    · rw [if_neg c, if_neg c, hit_eq hB h0 hx, hit_eq hB h.2.2 c]
      by_cases d : s_M_hundredths M (M.2.1 0 ((35 : Int32) + x).toNatClampNeg) (M.2.1 0 ((44 : Int32) + x).toNatClampNeg) ≤ s_M_hundredths M (M.2.1 0 ((35 : Int32) + y).toNatClampNeg) (M.2.1 0 ((44 : Int32) + y).toNatClampNeg)
      · rw [if_pos d, if_pos d]; exact ih _ _ (UP_up h c) h0 hx
      · rw [if_neg d, if_neg d]; exact ih _ _ (UP_up h c) h.2.2 c
theorem q_closest (h : Rel S M) : s_P_closest S x = (s_M_closest M x).1 ∧ Rel S (s_M_closest M x).2 := by
  have hB := h.1
  have e2 : (2 : Int64).toInt = 2 := by decide
  have e3 : (2 : Int32).toInt = 2 := by decide
  have ei : s_M_in x.toInt64 (0 : Int64) (2 : Int64) = 0 ↔ ¬ (0 ≤ x.toInt ∧ x.toInt ≤ 2) := by rw [in_i, i64_of, z64, e2]
  rw [s_P_closest, s_M_closest, s_B_pairsInTrain, s_N_size, hB.2.1.2.2.1, flt_eq hB]
  by_cases c : 0 ≤ x.toInt ∧ x.toInt ≤ 2
  · rw [if_neg (show ¬ x < 0 by rw [lt32, z32]; omega), if_neg (show ¬ (2 : Int32) < x by rw [lt32, e3]; omega), if_neg (fun q => ei.mp q c)]
    by_cases c1 : M.2.1 0 34 = 0
    · rw [if_pos c1, if_pos c1]; exact ⟨rfl, h⟩
    · rw [if_neg c1, if_neg c1]
      by_cases c2 : s_M_faulty M < 0
      · rw [if_pos c2, if_pos c2]
        have hm := hB.1.2.2.1
        obtain ⟨r, r0, r1, r2, r3⟩ := clo_b hB x ((M.2.1 0 34).toInt.toNat + 1) 0 1 (UP_in (by decide)) (by decide) (g34_pos hB.1 c1)
        rw [s_B_nearestPair, hB.2.1.2.2.1, r2, r3, hit_eq hB r0 r1, CL]
        by_cases c3 : x = 0
        · rw [if_pos c3, if_pos c3]; exact ⟨rfl, Rel_lays h⟩
        · rw [if_neg c3, if_neg c3]; exact ⟨part_eq (by decide) (i2l_lo _), Rel_lays h⟩
      · rw [if_neg c2, if_neg c2]; exact ⟨rfl, h⟩
  · rw [if_pos (ei.mpr c)]
    refine ⟨?_, h⟩
    by_cases d : x < 0
    · rw [if_pos d]
    · rw [if_neg d, if_pos (show (2 : Int32) < x by rw [lt32, z32] at d; rw [lt32, e3]; omega)]
/-- the class's products beside the reference's reduced ones -/
def TI9 (k : Int32) (x y a b : Int64) : Prop := T9 k x y ∧ T9 k a b ∧ ∃ G : Nat, 0 < G ∧ x.toInt = a.toInt * G ∧ y.toInt = b.toInt * G ∧ Nat.gcd a.toInt.natAbs b.toInt.toNat = 1
theorem TI9_st {k o r : Int32} {x y a b : Int64} (hG : GI (M.2.1 0)) (h : TI9 k x y a b) (h0 : 0 ≤ k.toInt) (hk : k.toInt ≤ 8) (ho : wl (M.2.1 0) o) (hr : wl (M.2.1 0) r) (Z : St) :
    TI9 (k + 1) (x * (s_M_sign M o r).toInt64 * (s_M_size M r).toInt64) (y * (s_M_size M o).toInt64) ((s_M_lays Z (a * (s_M_sign M o r).toInt64 * (s_M_size M r).toInt64) (b * (s_M_size M o).toInt64)).2.2 1 0) ((s_M_lays Z (a * (s_M_sign M o r).toInt64 * (s_M_size M r).toInt64) (b * (s_M_size M o).toInt64)).2.2 1 1) := by
  obtain ⟨t1, t2, G, hG0, ex, ey, hg⟩ := h
  obtain ⟨m1, m2, m3, m4, m5⟩ := T9_mul hG t1 hk ho hr
  obtain ⟨n1, n2, n3, n4, n5⟩ := T9_mul hG t2 hk ho hr
  obtain ⟨p1, p2⟩ := p99 (k := k.toInt.toNat) (by omega)
  have e : (k + 1).toInt = k.toInt + 1 := i32_suc (by omega)
  have e2 : (99 : Int) ^ (k + 1).toInt.toNat = 99 ^ k.toInt.toNat * 99 := by
    rw [e, show (k.toInt + 1).toNat = k.toInt.toNat + 1 by omega, Int.pow_succ]
  refine ⟨⟨by omega, by rw [e2]; exact m1, m2, by rw [e2]; exact m3⟩, T9_st hG t2 h0 hk ho hr, ?_⟩
  generalize x * (s_M_sign M o r).toInt64 * (s_M_size M r).toInt64 = X at m1 m4 ⊢
  generalize y * (s_M_size M o).toInt64 = Y at m2 m3 m5 ⊢
  generalize a * (s_M_sign M o r).toInt64 * (s_M_size M r).toInt64 = A at n1 n4 ⊢
  generalize b * (s_M_size M o).toInt64 = B at n2 n3 n5 ⊢
  generalize (s_M_sign M o r).toInt = sg at m4 n4
  generalize (s_M_size M r).toInt = sr at m4 n4
  generalize (s_M_size M o).toInt = so at m5 n5
  rw [lays_eq n2 (by omega), sL_1.1, sL_1.2]
  have la := lay_a (a := A) n2
  have lb := lay_b (a := A) n2
  obtain ⟨-, gp⟩ := GD_toInt (a := A) n2
  have bpos := (lay_bd (M := 99 ^ k.toInt.toNat * 99) n2 n1 n3).2.1
  generalize hH : Nat.gcd A.toInt.natAbs B.toInt.toNat = H at la lb gp
  generalize (A / GD A B).toInt = u at la ⊢
  generalize (B / GD A B).toInt = w at lb bpos ⊢
  refine ⟨H * G, Nat.mul_pos gp hG0, ?_, ?_, ?_⟩
  · rw [m4, ex, Int.natCast_mul, ← Int.mul_assoc, la, n4]
    rw [Int.mul_right_comm a.toInt (G : Int) sg, Int.mul_right_comm (a.toInt * sg) (G : Int) sr]
  · rw [m5, ey, Int.natCast_mul, ← Int.mul_assoc, lb, n5, Int.mul_right_comm b.toInt (G : Int) so]
  · have ha : A.toInt.natAbs = u.natAbs * H := by rw [← la, Int.natAbs_mul, Int.natAbs_natCast]
    have hb : B.toInt.toNat = w.toNat * H := by
      rw [← lb, Int.toNat_mul (by omega) (by omega), Int.toNat_natCast]
    rw [ha, hb, Nat.gcd_mul_right] at hH
    have : Nat.gcd u.natAbs w.toNat * H = 1 * H := by omega
    exact Nat.eq_of_mul_eq_mul_right gp this
theorem TI9_end {k : Int32} {x y a b : Int64} (h : TI9 k x y a b) (c : Int32) : s_P_partOf x y c = (if c = 0 then a else b) := by
  obtain ⟨⟨hk, t1, t2, t3⟩, ⟨-, u1, u2, u3⟩, G, hG0, ex, ey, hg⟩ := h
  have hx := i64_lo x
  have hlo : -9223372036854775807 ≤ x.toInt := by
    have q : (99 : Int) ^ k.toInt.toNat ≤ 913517247483640899 := by
      have : k.toInt.toNat ≤ 9 := by omega
      generalize k.toInt.toNat = j at this ⊢
      match j, this with
      | 0, _ => decide
      | 1, _ => decide
      | 2, _ => decide
      | 3, _ => decide
      | 4, _ => decide
      | 5, _ => decide
      | 6, _ => decide
      | 7, _ => decide
      | 8, _ => decide
      | 9, _ => decide
      | j + 10, h => omega
    omega
  rw [part_eq (S := (fun _ => 0, fun _ _ => 0, fun _ _ => 0)) t2 hlo, s_M_part, lays_eq t2 hlo, sL_1.1, sL_1.2]
  have hgg : Nat.gcd x.toInt.natAbs y.toInt.toNat = G := by
    have ha : x.toInt.natAbs = a.toInt.natAbs * G := by rw [ex, Int.natAbs_mul, Int.natAbs_natCast]
    have hb : y.toInt.toNat = b.toInt.toNat * G := by rw [ey, Int.toNat_mul (by omega) (by omega), Int.toNat_natCast]
    rw [ha, hb, Nat.gcd_mul_right, hg, Nat.one_mul]
  have la := lay_a (a := x) t2
  have lb := lay_b (a := x) t2
  rw [hgg] at la lb
  have e1 : x / GD x y = a := eq64.mpr (Int.eq_of_mul_eq_mul_right (by omega) (la.trans ex))
  have e2 : y / GD x y = b := eq64.mpr (Int.eq_of_mul_eq_mul_right (by omega) (lb.trans ey))
  rw [e1, e2]
theorem trn_b (x : Int32) : ∀ (n : Nat) (Z : St) (p q a b : Int64) (k : Int32), Rel S Z → UP n (Z.2.1 0 34) k → TI9 k p q a b → (Z.2.1 0 34 ≤ k → Z.2.2 1 0 = a ∧ Z.2.2 1 1 = b) → s_B_trainRatio_b8 S n x p q k = (s_M_train_b43 n Z x a b k).1 ∧ Rel S (s_M_train_b43 n Z x a b k).2 := by
  intro n
  induction n with
  | zero => intro Z p q a b k _ h; exact absurd h UP_z
  | succ n ih =>
    intro Z p q a b k hR h hT he
    have hB := hR.1
    have e2 := hB.2.1.2.2.1
    have hm := hB.1.2.2.1
    rw [s_B_trainRatio_b8, s_M_train_b43, s_N_size, e2]
    by_cases c : Z.2.1 0 34 ≤ k
    · rw [if_pos c, if_pos c, TI9_end hT x, s_M_part, (he c).1, (he c).2]; exact ⟨rfl, hR⟩
    · rw [if_neg c, if_neg c]
      obtain ⟨p1, p2, p3⟩ := pr_at hB h.2.2 c
      have c1 := c
      rw [le32] at c1
      have hs := TI9_st hB.1 hT h.2.2 (by omega) p3.1 p3.2.1 Z
      rw [p1, p2, above_eq hB p3, below_eq hB p3, ← Int64.mul_assoc]
      refine ih _ _ _ _ _ _ (Rel_lays hR) ?_ hs (fun _ => ⟨rfl, rfl⟩)
      rw [lays_21]; exact UP_up h c
theorem q_train (h : Rel S M) : s_P_train S x = (s_M_train M x).1 ∧ Rel S (s_M_train M x).2 := by
  have hB := h.1
  rw [s_P_train, s_M_train, s_B_pairsInTrain, s_N_size, hB.2.1.2.2.1, flt_eq hB]
  simp only [isPt]
  by_cases c : s_M_in x.toInt64 (0 : Int64) (1 : Int64) = 0
  · rw [if_pos c, if_pos c]; exact ⟨rfl, h⟩
  · rw [if_neg c, if_neg c]
    by_cases c1 : M.2.1 0 34 = 0
    · rw [if_pos c1, if_pos c1]; exact ⟨rfl, h⟩
    · rw [if_neg c1, if_neg c1]
      by_cases c2 : s_M_faulty M < 0
      · rw [if_pos c2, if_pos c2, s_B_trainRatio, hB.2.1.2.2.1]
        exact trn_b x _ M 1 1 1 1 0 h (UP_in (by decide)) ⟨T9_0 rfl, T9_0 rfl, 1, by decide, by decide, by decide, by decide⟩ (fun q => absurd q (g34_pos hB.1 c1))
      · rw [if_neg c2, if_neg c2]; exact ⟨rfl, h⟩
end tr
