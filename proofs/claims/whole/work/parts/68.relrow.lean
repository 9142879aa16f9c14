/-! the rows -/
def IR (S M : St) : Prop := ∀ r : Nat, r < 3 → ∀ k : Nat, k < 20 → S.2.2 r k = M.2.2 0 (20 * r + k)
theorem Rel.IR {S M : St} (h : Rel S M) : IR S M := fun r hr k hk => (h.2.2.2 r hr).2.2 k hk
theorem Rel_ir {S M S' M' : St} (h : Rel S M) (h1 : S'.1 = S.1) (h2 : S'.2.1 = S.2.1) (m1 : M'.1 = M.1) (m2 : M'.2.1 = M.2.1) (hI : IR S' M') : Rel S' M' := by
  obtain ⟨hB, hK, hT, hW⟩ := h
  refine ⟨?_, ?_, ?_, ?_⟩
  · unfold BN; rw [h1, h2, m2]; exact hB
  · unfold KP BK; rw [h1, h2, m1, m2]; exact hK
  · unfold TR; rw [h1, h2, m1, m2]; exact hT
  · intro r hr
    rw [h1, m2]
    exact ⟨(hW r hr).1, (hW r hr).2.1, fun k hk => hI r hr k hk⟩
theorem Rel_sz {S M : St} {n : Int32} {r : Nat} (h : Rel S M) (hr : r < 3) (hn : -1 ≤ n.toInt ∧ n.toInt ≤ 20) : Rel (sV S (16 + r) n) (sA M 7 r n) := by
  obtain ⟨hB, hK, hT, hW⟩ := h
  have e1 : ∀ l : Nat, l ≠ 16 + r → (sV S (16 + r) n).1 l = S.1 l := fun l q => upd_ne q
  have e2 : ∀ i : Nat, i ≠ 7 → (sA M 7 r n).2.1 i = M.2.1 i := fun i q => by show va_up M.2.1 7 _ i = M.2.1 i; rw [va_up, if_neg q]
  refine ⟨?_, ?_, ?_, ?_⟩
  · exact hB.cg (e1 0 (by omega)) (e1 1 (by omega)) (e1 2 (by omega)) (e1 3 (by omega)) (e1 19 (by omega)) rfl rfl rfl rfl (e2 0 (by omega))
  · refine ⟨(e1 22 (by omega)).trans hK.1, hK.2.imp (fun q => q) (fun q => q.cg (e1 4 (by omega)) (e1 5 (by omega)) (e1 6 (by omega)) (e1 7 (by omega)) (e1 20 (by omega)) rfl rfl rfl rfl (e2 1 (by omega)))⟩
  · refine ⟨(e1 12 (by omega)).trans hT.1, hT.2.1, fun k hk => ?_⟩
    rw [e2 3 (by omega)]; exact hT.2.2 k hk
  · intro r' hr'
    by_cases e : r' = r
    · subst e
      refine ⟨?_, ?_, (hW r' hr').2.2⟩
      · rw [sA_rs]; show upd S.1 (16 + r') n (16 + r') = n; rw [upd_eq]
      · rw [sA_rs]; exact hn
    · rw [e1 _ (by omega), sA_rd e]
      exact hW r' hr'
theorem sL_rd {S : St} {i j r k : Nat} {v : Int64} (h : ¬ (r = i ∧ k = j)) : (sL S i j v).2.2 r k = S.2.2 r k := by
  show va_up S.2.2 i (vp_updL (S.2.2 i) j v) r k = S.2.2 r k
  rw [va_up]
  by_cases e : r = i
  · subst e
    rw [if_pos rfl, vp_updL, if_neg (fun q => h ⟨rfl, q⟩)]
  · rw [if_neg e]
theorem sL_rs {S : St} {i j : Nat} {v : Int64} : (sL S i j v).2.2 i j = v := by
  show va_up S.2.2 i (vp_updL (S.2.2 i) j v) i j = v
  rw [va_up, if_pos rfl, vp_updL, if_pos rfl]
theorem IR_st {S M : St} {r j : Nat} {v : Int64} (h : IR S M) (hr : r < 3) (hj : j < 20) : IR (sL S r j v) (sL M 0 (20 * r + j) v) := by
  intro r' hr' k hk
  by_cases e : r' = r ∧ k = j
  · rw [e.1, e.2, sL_rs, sL_rs]
  · rw [sL_rd e, sL_rd (by omega)]; exact h r' hr' k hk
section rw
variable {S M : St} {r i x n : Int32} {v : Int64}
theorem row_i : s_M_isRow r = 0 ↔ ¬ (0 ≤ r.toInt ∧ r.toInt < 3) := by
  have e2 : (2 : Int64).toInt = 2 := by decide
  rw [s_M_isRow, in_i, i64_of, z64, e2]
  exact not_congr (by omega)
theorem row_c : (0 ≤ r ∧ r < 3) ↔ (0 ≤ r.toInt ∧ r.toInt < 3) := by
  have e3 : (3 : Int32).toInt = 3 := by decide
  rw [le32, lt32, z32, e3]
theorem ix20 (h : 0 ≤ r.toInt ∧ r.toInt < 3) (h0 : 0 ≤ x.toInt) (h1 : x.toInt < 20) : (((20 : Int32) * r) + x).toNatClampNeg = 20 * r.toNatClampNeg + x.toNatClampNeg := by
  have c : (20 : Int32).toInt = 20 := by decide
  have e1 : ((20 : Int32) * r).toInt = 20 * r.toInt := by rw [i32_mul (by rw [c]; omega) (by rw [c]; omega), c]
  have e2 : ((20 : Int32) * r + x).toInt = 20 * r.toInt + x.toInt := by rw [i32_add (by omega) (by omega), e1]
  have t1 := i32_tn h.1
  have t2 := i32_tn h0
  have t3 := i32_tn (x := (20 : Int32) * r + x) (by omega)
  omega
theorem rsz_b (hr : 0 ≤ r.toInt ∧ r.toInt < 3) : ∀ (n : Nat) (Z Y : St) (x : Int32), 0 ≤ x.toInt → x.toInt ≤ 20 → 21 ≤ x.toInt + n → Rel Z Y → (s_O_resize_b23 r.toNatClampNeg n Z x).1 = 1 ∧ (s_M_row_b32 n Y r x).1 = 1 ∧ Rel (s_O_resize_b23 r.toNatClampNeg n Z x).2 (s_M_row_b32 n Y r x).2 := by
  intro n
  have e20 : (20 : Int32).toInt = 20 := by decide
  induction n with
  | zero => intro Z Y x h0 h1 h2 _; omega
  | succ n ih =>
    intro Z Y x h0 h1 h2 h
    rw [s_O_resize_b23, s_M_row_b32]
    by_cases c : (20 : Int32) ≤ x
    · rw [if_pos c, if_pos c]; exact ⟨rfl, rfl, h⟩
    · rw [if_neg c, if_neg c]
      rw [le32, e20] at c
      have es : (x + 1).toInt = x.toInt + 1 := i32_suc (by omega)
      have t2 := i32_tn h0
      rw [ix20 hr h0 (by omega)]
      exact ih _ _ _ (by omega) (by omega) (by omega) (Rel_ir h rfl rfl rfl rfl (IR_st h.IR (rw_tn hr) (by omega)))
theorem q_row (h : Rel S M) : (s_P_row S r n).1 = (s_M_row M r n).1 ∧ Rel (s_P_row S r n).2 (s_M_row M r n).2 := by
  have e20 : (20 : Int32).toInt = 20 := by decide
  have em : (-1 : Int32).toInt = -1 := by decide
  rw [s_P_row, s_M_row]
  by_cases hr : 0 ≤ r.toInt ∧ r.toInt < 3
  · rw [if_pos (row_c.mpr hr), if_neg (fun q => row_i.mp q hr)]
    by_cases c : n ≤ 20
    · rw [if_pos c, if_pos c, s_O_resize]
      rw [le32, e20] at c
      by_cases d : n < -1
      · simp only [if_pos d, if_true]
        rw [if_neg (show ¬ -1 ≤ n by rw [lt32, em] at d; rw [le32, em]; omega)]
        exact ⟨rfl, h⟩
      · rw [if_neg d, if_pos (show n ≤ 20 by rw [le32, e20]; exact c), if_pos (show -1 ≤ n by rw [lt32, em] at d; rw [le32, em]; omega)]
        rw [lt32, em] at d
        obtain ⟨q1, q2, q3⟩ := rsz_b hr 21 _ _ 0 (by decide) (by decide) (by decide) (Rel_sz h (rw_tn hr) ⟨by omega, c⟩)
        rw [if_neg (by rw [q1]; decide)]
        exact ⟨q2.symm, q3⟩
    · rw [if_neg c, if_neg c]; exact ⟨rfl, h⟩
  · rw [if_neg (fun q => hr (row_c.mp q)), if_pos (row_i.mpr hr)]; exact ⟨rfl, h⟩
theorem rsz (h : Rel S M) (hr : 0 ≤ r.toInt ∧ r.toInt < 3) : S.1 (16 + r.toNatClampNeg) = M.2.1 7 r.toNatClampNeg ∧ -1 ≤ (M.2.1 7 r.toNatClampNeg).toInt ∧ (M.2.1 7 r.toNatClampNeg).toInt ≤ 20 := ⟨(h.2.2.2 _ (rw_tn hr)).1, (h.2.2.2 _ (rw_tn hr)).2.1⟩
theorem mis_i (h : Rel S M) (hr : 0 ≤ r.toInt ∧ r.toInt < 3) : s_O_isMissing S r.toNatClampNeg = 0 ↔ 0 ≤ M.2.1 7 r.toNatClampNeg := by
  rw [s_O_isMissing, (rsz h hr).1]
  by_cases c : 0 ≤ M.2.1 7 r.toNatClampNeg
  · rw [if_pos c]; exact iff_of_true rfl c
  · rw [if_neg c]; exact iff_of_false (by decide) c
theorem plc_i (h : Rel S M) (hr : 0 ≤ r.toInt ∧ r.toInt < 3) : s_O_hasPlace S r.toNatClampNeg i = 0 ↔ ¬ (0 ≤ i.toInt ∧ i.toInt < (M.2.1 7 r.toNatClampNeg).toInt) := by
  have e20 : (20 : Int32).toInt = 20 := by decide
  obtain ⟨h1, h2, h3⟩ := rsz h hr
  rw [s_O_hasPlace, h1]
  simp only [lt32, le32, z32, e20]
  repeat' split
  all_goals first | exact iff_of_true rfl (by omega) | exact iff_of_false (by decide) (by omega)
theorem plm_i (h : Rel S M) (hr : 0 ≤ r.toInt ∧ r.toInt < 3) : s_M_in (i.toInt64) (0 : Int64) (((M.2.1 7 r.toNatClampNeg) - (1 : Int32)).toInt64) = 0 ↔ ¬ (0 ≤ i.toInt ∧ i.toInt < (M.2.1 7 r.toNatClampNeg).toInt) := by
  obtain ⟨h1, h2, h3⟩ := rsz h hr
  rw [in_i, i64_of, i64_of, z64, i32_pred (by omega)]
  exact not_congr (by omega)
theorem q_put (h : Rel S M) : (s_P_put S r i v).1 = (s_M_put M r i v).1 ∧ Rel (s_P_put S r i v).2 (s_M_put M r i v).2 := by
  rw [s_P_put, s_M_put]
  by_cases hr : 0 ≤ r.toInt ∧ r.toInt < 3
  · rw [if_pos (row_c.mpr hr), if_neg (fun q => row_i.mp q hr)]
    by_cases c : 0 ≤ M.2.1 7 r.toNatClampNeg
    · rw [if_pos ((mis_i h hr).mpr c), if_pos c, s_O_set]
      by_cases d : 0 ≤ i.toInt ∧ i.toInt < (M.2.1 7 r.toNatClampNeg).toInt
      · have d1 : ¬ s_O_hasPlace S r.toNatClampNeg i = 0 := fun q => (plc_i h hr).mp q d
        obtain ⟨h1, h2, h3⟩ := rsz h hr
        have t2 := i32_tn d.1
        simp only [if_neg d1]
        rw [if_neg (fun q => (plm_i h hr).mp q d), ix20 hr d.1 (by omega)]
        exact ⟨rfl, Rel_ir h rfl rfl rfl rfl (IR_st h.IR (rw_tn hr) (by omega))⟩
      · have d1 := (plc_i (i := i) h hr).mpr d
        simp only [if_pos d1]
        rw [if_pos ((plm_i h hr).mpr d)]
        exact ⟨rfl, h⟩
    · rw [if_neg (fun q => c ((mis_i h hr).mp q)), if_neg c]; exact ⟨rfl, h⟩
  · rw [if_neg (fun q => hr (row_c.mp q)), if_pos (row_i.mpr hr)]; exact ⟨rfl, h⟩
theorem at_r (h : Rel S M) (hr : 0 ≤ r.toInt ∧ r.toInt < 3) (d : 0 ≤ i.toInt ∧ i.toInt < (M.2.1 7 r.toNatClampNeg).toInt) : s_O_at S r.toNatClampNeg i = M.2.2 0 (((20 : Int32) * r) + i).toNatClampNeg := by
  obtain ⟨h1, h2, h3⟩ := rsz h hr
  have t2 := i32_tn d.1
  rw [s_O_at, if_neg (fun q => (plc_i h hr).mp q d), ix20 hr d.1 (by omega)]
  exact h.IR _ (rw_tn hr) _ (by omega)
theorem q_get (h : Rel S M) : s_P_get S r i = s_M_get M r i := by
  rw [s_P_get, s_M_get]
  by_cases hr : 0 ≤ r.toInt ∧ r.toInt < 3
  · rw [if_pos (row_c.mpr hr), if_neg (fun q => row_i.mp q hr)]
    by_cases d : 0 ≤ i.toInt ∧ i.toInt < (M.2.1 7 r.toNatClampNeg).toInt
    · rw [if_neg (fun q => (plc_i h hr).mp q d), if_neg (fun q => (plm_i h hr).mp q d), at_r h hr d]
    · rw [if_pos ((plc_i h hr).mpr d), if_pos ((plm_i h hr).mpr d)]
  · rw [if_neg (fun q => hr (row_c.mp q)), if_pos (row_i.mpr hr)]
theorem lay_b' (hr : 0 ≤ r.toInt ∧ r.toInt < 3) (x : Int32) : ∀ (n : Nat) (Z Y : St) (y : Int32), Rel Z Y → UP n x y → x.toInt ≤ (Y.2.1 7 r.toNatClampNeg).toInt → x.toInt ≤ (Y.2.1 0 0).toInt → (s_P_lay_b40 n Z r.toNatClampNeg x y).1 = (s_M_lay_b54 n Y r x y).1 ∧ Rel (s_P_lay_b40 n Z r.toNatClampNeg x y).2 (s_M_lay_b54 n Y r x y).2 := by
  intro n
  induction n with
  | zero => intro Z Y y _ h; exact absurd h UP_z
  | succ n ih =>
    intro Z Y y h hu h1 h2
    rw [s_P_lay_b40, s_M_lay_b54]
    by_cases c : x ≤ y
    · rw [if_pos c, if_pos c]; exact ⟨rfl, h⟩
    · rw [if_neg c, if_neg c]
      have c1 := c
      rw [le32] at c1
      have y0 := hu.2.2
      obtain ⟨g1, g2, g3⟩ := rsz h hr
      have t2 := i32_tn y0
      obtain ⟨t, s, v1, v2, v3, v4, -⟩ := view h.1 (w := y) ⟨y0, by omega⟩
      have hs : (s_O_set Z r.toNatClampNeg y (s_B_teethOf Z y).toInt64).2 = sL Z r.toNatClampNeg y.toNatClampNeg t.toInt64 := by
        rw [s_O_set, if_neg (fun q => (plc_i h hr).mp q ⟨y0, by omega⟩), s_B_teethOf, v1]
      rw [hs, v3, ix20 hr y0 (by omega)]
      exact ih _ _ _ (Rel_ir h rfl rfl rfl rfl (IR_st h.IR (rw_tn hr) (by omega))) (UP_up hu c) h1 h2
theorem q_lay (h : Rel S M) : (s_P_lay S r).1 = (s_M_lay M r).1 ∧ Rel (s_P_lay S r).2 (s_M_lay M r).2 := by
  rw [s_P_lay, s_M_lay]
  by_cases hr : 0 ≤ r.toInt ∧ r.toInt < 3
  · rw [if_pos (row_c.mpr hr), if_neg (fun q => row_i.mp q hr)]
    by_cases c : 0 ≤ M.2.1 7 r.toNatClampNeg
    · rw [if_pos ((mis_i h hr).mpr c), if_pos c, s_B_size, s_N_size, s_O_size, (rsz h hr).1, h.1.2.1.1]
      by_cases d : M.2.1 0 0 ≤ M.2.1 7 r.toNatClampNeg
      · rw [if_pos d]
        have hm : (if M.2.1 0 0 < M.2.1 7 r.toNatClampNeg then M.2.1 0 0 else M.2.1 7 r.toNatClampNeg) = M.2.1 0 0 := by
          by_cases e : M.2.1 0 0 < M.2.1 7 r.toNatClampNeg
          · rw [if_pos e]
          · rw [if_neg e]; rw [le32] at d; rw [lt32] at e; exact eq32.mpr (by omega)
        rw [hm]
        rw [le32] at d
        exact lay_b' hr _ _ _ _ 0 h (UP_in (by decide)) d (by omega)
      · rw [if_neg d]
        have hm : (if M.2.1 0 0 < M.2.1 7 r.toNatClampNeg then M.2.1 0 0 else M.2.1 7 r.toNatClampNeg) = M.2.1 7 r.toNatClampNeg := by
          rw [if_neg (by rw [le32] at d; rw [lt32]; omega)]
        rw [hm]
        rw [le32] at d
        exact lay_b' hr _ _ _ _ 0 h (UP_in (by decide)) (by omega) (by omega)
    · rw [if_neg (fun q => c ((mis_i h hr).mp q)), if_neg c]; exact ⟨rfl, h⟩
  · rw [if_neg (fun q => hr (row_c.mp q)), if_pos (row_i.mpr hr)]; exact ⟨rfl, h⟩
theorem jdg_b (h : Rel S M) (hr : 0 ≤ r.toInt ∧ r.toInt < 3) : ∀ (n : Nat) (y : Int32), 0 ≤ y.toInt → s_P_judge_b24 S n r.toNatClampNeg y = s_M_judge_b23 M n r y := by
  obtain ⟨g1, g2, g3⟩ := rsz h hr
  intro n
  induction n with
  | zero => intro y _; rfl
  | succ n ih =>
    intro y y0
    rw [s_P_judge_b24, s_M_judge_b23, s_O_size, g1, s_B_hasWheel, has_eq h.1]
    by_cases c : M.2.1 7 r.toNatClampNeg ≤ y
    · rw [if_pos c, if_pos c]
    · rw [if_neg c, if_neg c]
      rw [le32] at c
      by_cases d : s_M_isWheel M y = 0
      · rw [if_pos d, if_pos d]
      · obtain ⟨t, s, v1, v2, v3, v4, -⟩ := view h.1 (isW h.1.1 d)
        rw [if_neg d, if_neg d, at_r h hr ⟨y0, by omega⟩, s_B_teethOf, v1, v3, ih _ (by rw [i32_suc (by omega)]; omega)]
theorem q_judge (h : Rel S M) : s_P_judge S r = s_M_judge M r := by
  rw [s_P_judge, s_M_judge]
  by_cases hr : 0 ≤ r.toInt ∧ r.toInt < 3
  · rw [if_pos (row_c.mpr hr), if_neg (fun q => row_i.mp q hr)]
    by_cases c : 0 ≤ M.2.1 7 r.toNatClampNeg
    · rw [if_pos ((mis_i h hr).mpr c), if_pos c, (rsz h hr).1]
      exact jdg_b h hr _ _ (by decide)
    · rw [if_neg (fun q => c ((mis_i h hr).mp q)), if_neg c]
  · rw [if_neg (fun q => hr (row_c.mp q)), if_pos (row_i.mpr hr)]
end rw
