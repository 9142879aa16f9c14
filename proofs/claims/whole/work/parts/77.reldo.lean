/-! read: the acts done one behind the other -/
section dn
variable {S M Z Y : St} {n m x c b a i : Int32}
theorem it_e {c c' : Prop} {dc : Decidable c} {dc' : Decidable c'} {u u' : St} (h : c ↔ c') : (@ite (Int32 × St) c dc ((0 : Int32), u) ((1 : Int32), u)).1 = (@ite (Int32 × St) c' dc' ((0 : Int32), u') ((1 : Int32), u')).1 := by
  by_cases k : c
  · rw [if_pos k, if_pos (h.mp k)]
  · rw [if_neg k, if_neg (fun q => k (h.mpr q))]
/-- an act done by both -/
def DQ (Z Y : St) (q r : Int32 × St) : Prop := q.1 = r.1 ∧ BN q.2 r.2 ∧ FR Z q.2 ∧ FM Y r.2
theorem DQ_of {q r : Int32 × St} {p p' : Prop} {dp : Decidable p} {dp' : Decidable p'} (h : BN q.2 r.2 ∧ FR Z q.2 ∧ FM Y r.2) (e : p ↔ p') : DQ Z Y (@ite (Int32 × St) p dp ((0 : Int32), q.2) ((1 : Int32), q.2)) (@ite (Int32 × St) p' dp' ((0 : Int32), r.2) ((1 : Int32), r.2)) := by
  refine ⟨it_e e, ?_, ?_, ?_⟩
  · rw [it_1, it_1]; exact h.1
  · rw [it_1]; exact h.2.1
  · rw [it_1]; exact h.2.2
theorem pre_1 (hG : GI (Y.2.1 0)) : (s_M_pressure Y x).1 = -1 ↔ (s_M_pressure Y x).1 < 0 := by
  have e1 : (-1 : Int32).toInt = -1 := by decide
  have en : (33 : Int32).toNatClampNeg = 33 := by decide
  rw [s_M_pressure]
  by_cases d : s_M_in x.toInt64 (0 : Int64) (2 : Int64) = 0
  · rw [if_pos d]; exact iff_of_true rfl (show (-1 : Int32) < 0 by decide)
  · rw [if_neg d, s_M_becomes, en]
    have p := gi_p hG
    show Y.2.1 0 33 = -1 ↔ Y.2.1 0 33 < 0
    rw [eq32, lt32, e1, z32]
    omega
theorem done_q (hB : BN Z Y) (hk : IsL (Y.2.1 4 i.toNatClampNeg)) {f s : Int32} (h1 : ¬ Y.2.1 4 i.toNatClampNeg = 120 → f = Y.2.1 5 i.toNatClampNeg) (h2 : (Y.2.1 4 i.toNatClampNeg = 115 ∨ Y.2.1 4 i.toNatClampNeg = 116) → s = Y.2.1 6 i.toNatClampNeg) : DQ Z Y (s_B_does Z (Y.2.1 4 i.toNatClampNeg) f s) (s_M_isDone Y i) := by
  rw [s_B_does, s_M_isDone]
  generalize Y.2.1 4 i.toNatClampNeg = L at hk h1 h2 ⊢
  generalize Y.2.1 5 i.toNatClampNeg = F at h1 ⊢
  generalize Y.2.1 6 i.toNatClampNeg = G at h2 ⊢
  by_cases c1 : L = 112
  · rw [if_pos c1, if_pos c1, h1 (by rw [c1]; decide)]
    obtain ⟨p1, p2⟩ := b_press (v := F) hB
    exact DQ_of p2 (by rw [p1]; exact pre_1 hB.1)
  rw [if_neg c1, if_neg c1]
  by_cases c2 : L = 115
  · rw [if_pos c2, if_pos c2, h1 (by rw [c2]; decide), h2 (Or.inl c2)]
    obtain ⟨p1, p2⟩ := b_shift (w := F) (v := G) hB
    exact DQ_of p2 (by rw [p1])
  rw [if_neg c2, if_neg c2]
  by_cases c3 : L = 116
  · rw [if_pos c3, if_pos c3, h1 (by rw [c3]; decide), h2 (Or.inr c3)]
    obtain ⟨p1, p2⟩ := b_pair (a := F) (b := G) hB
    exact DQ_of p2 (by rw [p1])
  rw [if_neg c3, if_neg c3]
  by_cases c4 : L = 119
  · rw [if_pos c4, if_pos c4, h1 (by rw [c4]; decide)]
    obtain ⟨p1, p2⟩ := b_wheel (t := F) hB
    exact DQ_of p2 (by rw [p1])
  rw [if_neg c4, if_neg c4]
  have c5 : L = 120 := by
    unfold IsL at hk
    rcases hk with q | q | q | q | q
    · exact absurd q c4
    · exact absurd q c2
    · exact absurd q c1
    · exact absurd q c3
    · exact q
  rw [if_pos c5]
  obtain ⟨p1, p2⟩ := b_clear hB
  exact DQ_of p2 (by rw [p1])
theorem BA_fr {S' M' : St} (h : BA S M) (hS : FR S S') (hM : FM M M') : BA S' M' := by
  obtain ⟨s1, s2, -⟩ := hS
  exact h.cg (s1 8 (by omega) (by omega)) (s1 9 (by omega) (by omega)) (s1 10 (by omega) (by omega)) (s1 11 (by omega) (by omega)) (s1 21 (by omega) (by omega)) (s2 8 (by omega)) (s2 9 (by omega)) (s2 10 (by omega)) (s2 11 (by omega)) (hM.2.1 2 (by omega))
theorem LR_fr {S' M' : St} (h : LR n S M) (hS : FR S S') (hM : FM M M') : LR n S' M' := by
  obtain ⟨s1, s2, -⟩ := hS
  obtain ⟨l1, l2⟩ := h
  refine ⟨?_, ?_⟩
  · rw [s1 13 (by omega) (by omega), s1 14 (by omega) (by omega), s1 15 (by omega) (by omega)]; exact l1
  · rw [s2 13 (by omega), s2 14 (by omega), s2 15 (by omega), hM.2.1 4 (by omega), hM.2.1 5 (by omega), hM.2.1 6 (by omega)]; exact l2
theorem back_q (h : Rel Z Y) (hA : BA Z Y) : Rel (s_B_become_02 Z) (s_M_copies_ahead_g Y) := by
  have hc := bc_02 hA
  have hm := cp_ahead_g (M := Y)
  generalize s_B_become_02 Z = F at hc ⊢
  generalize s_M_copies_ahead_g Y = G at hm ⊢
  have hb := hc.br (g' := G.2.1 0) hA hm.2.2.2
  obtain ⟨-, -, x1, f2, f3⟩ := hc
  obtain ⟨m1, m2, m3, -⟩ := hm
  exact Rel_of h hb ⟨fun j a b => x1 j (by omega) (by omega), fun r a => f2 r (by omega), f3⟩ ⟨m1, fun r a => m2 r a, by rw [m3]⟩
theorem acts_q : ∀ (f : Nat) (Z Y : St) (i : Int32), Rel Z Y → BA Z Y → LR m Z Y → m.toInt ≤ 40 → 0 ≤ i.toInt → m.toInt - i.toInt < (f : Int) → (s_P_doActs_b13 f Z i).1 = (s_M_read_b124 f Y m i).1 ∧ Rel (s_P_doActs_b13 f Z i).2 (s_M_read_b124 f Y m i).2 := by
  intro f
  induction f with
  | zero => intro Z Y i h _ _ _ _ _; exact ⟨rfl, h⟩
  | succ f ih =>
    intro Z Y i h hA hL h40 h0 hf
    have hL0 := hL
    obtain ⟨⟨l13, l14, l15⟩, l2⟩ := hL0
    rw [s_P_doActs_b13, s_M_read_b124, s_X_acts, s_N_size, l13]
    by_cases cc : m ≤ i
    · rw [if_pos cc, if_pos cc]; exact ⟨rfl, h⟩
    · rw [if_neg cc, if_neg cc]
      rw [le32] at cc
      have c13 : (cap 13 : Int) = 40 := by decide
      have c14 : (cap 14 : Int) = 40 := by decide
      have c15 : (cap 15 : Int) = 40 := by decide
      have hk := i32_tn h0
      have es : (i + 1).toInt = i.toInt + 1 := i32_suc (by omega)
      obtain ⟨k1, k2, k3, k4⟩ := l2 i.toNatClampNeg (by omega)
      have w1 : s_X_letterOf Z i = Y.2.1 4 i.toNatClampNeg := by rw [s_X_letterOf, at_in h0 (by rw [l13]; omega) (by omega)]; exact k2
      have w2 : s_X_firstOf Z i = Z.2.1 14 i.toNatClampNeg := by rw [s_X_firstOf, at_in h0 (by rw [l14]; omega) (by omega)]
      have w3 : s_X_secondOf Z i = Z.2.1 15 i.toNatClampNeg := by rw [s_X_secondOf, at_in h0 (by rw [l15]; omega) (by omega)]
      rw [w1, w2, w3]
      have q := done_q (i := i) h.1 k1 k3 k4
      generalize s_B_does Z (Y.2.1 4 i.toNatClampNeg) (Z.2.1 14 i.toNatClampNeg) (Z.2.1 15 i.toNatClampNeg) = U at q ⊢
      generalize s_M_isDone Y i = V at q ⊢
      obtain ⟨q1, q2, q3, q4⟩ := q
      have hR := Rel_of h q2 q3 q4
      have hA2 := BA_fr hA q3 q4
      by_cases d : V.1 = 0
      · rw [if_pos d, if_pos (by rw [q1]; exact d)]
        have hb := back_q hR hA2
        generalize s_B_become_02 U.2 = F at hb ⊢
        generalize s_M_copies_ahead_g V.2 = G at hb ⊢
        exact ⟨rfl, hb⟩
      · rw [if_neg d, if_neg (by rw [q1]; exact d)]
        exact ih _ _ _ hR hA2 (LR_fr hL q3 q4) h40 (by omega) (by omega)
theorem do_q (h : Rel Z Y) (hL : LR m Z Y) (h0 : 0 ≤ m.toInt) (h40 : m.toInt ≤ 40) : (s_P_doActs Z).1 = (s_M_read_b124 (m.toInt.toNat + 1) (s_M_copies_g_ahead Y) m 0).1 ∧ Rel (s_P_doActs Z).2 (s_M_read_b124 (m.toInt.toNat + 1) (s_M_copies_g_ahead Y) m 0).2 := by
  have hc := bc_20 h.1
  have hm := cp_g_ahead (M := Y)
  rw [s_P_doActs]
  generalize s_B_become_20 Z = F at hc ⊢
  generalize s_M_copies_g_ahead Y = G at hm ⊢
  have hb : BA F G := hc.br (g' := G.2.1 2) h.1 hm.2.2.2
  obtain ⟨-, -, x1, f2, f3⟩ := hc
  obtain ⟨m1, m2, m3, -⟩ := hm
  obtain ⟨l1, l2⟩ := hL
  have e13 : F.1 13 = m := (x1 13 (by omega) (by omega)).trans l1.1
  rw [e13]
  refine acts_q _ _ _ 0 (Rel_g h ⟨?_, ?_, ?_⟩ (fun j hj => x1 j (by omega) (by omega)) (fun r hr => f2 r (by omega)) f3 (by rw [m1]) (fun r hr => m2 r (by omega)) m3) hb ⟨?_, ?_⟩ h40 (by decide) (by rw [z32]; omega)
  · rw [x1 12 (by omega) (by omega), m1]; exact h.2.2.1.1
  · rw [m1]; exact h.2.2.1.2.1
  · rw [f2 12 (by omega), m1, m2 3 (by omega)]; exact h.2.2.1.2.2
  · rw [x1 13 (by omega) (by omega), x1 14 (by omega) (by omega), x1 15 (by omega) (by omega)]; exact l1
  · rw [f2 13 (by omega), f2 14 (by omega), f2 15 (by omega), m2 4 (by omega), m2 5 (by omega), m2 6 (by omega)]; exact l2
/-- behind the text: the tape is empty -/
theorem emp_q (h : Rel S M) (f : FX S Z) (av : AV M Y) : Rel (s_X_empty Z) (sV Y 4 0) := by
  obtain ⟨f1, f2, f3⟩ := f
  obtain ⟨a1, a2, a3⟩ := av
  refine Rel_g (S' := sV Z 12 0) (M' := sV Y 4 0) h ⟨?_, ?_, ?_⟩ (fun j hj => ?_) (fun r hr => f2 r (by omega)) f3 ?_ (fun r hr => a2 r (by omega) (by omega) (by omega)) a1
  · rw [sV_eq, sV_eq]
  · rw [sV_eq]; decide
  · intro k hk
    rw [sV_eq, z32] at hk; omega
  · rw [sV_ne (by omega)]; exact f1 j (by omega)
  · rw [sV_ne (by omega)]; exact a3 0 (by omega) (by omega)
theorem q_read (h : Rel S M) : (s_P_read S).1 = (s_M_read M).1 ∧ Rel (s_P_read S).2 (s_M_read M).2 := by
  have q := par_in h
  rw [s_P_read]
  generalize s_X_parse S = U at q ⊢
  generalize s_M_read M = V at q ⊢
  rcases q with ⟨Y, q1, q2, q3, q4⟩ | ⟨Y, m, q1, q2, q3, q4⟩
  · rw [if_neg (by rw [lt32, z32]; omega), q4]
    exact ⟨rfl, emp_q h q2 q3⟩
  · rw [if_pos (by rw [q1]; decide), q4]
    obtain ⟨l1, l2⟩ := q2.2.2.2.2
    have hL : LR m (s_X_empty U.2) (sV Y 4 0) := by
      show LR m (sV U.2 12 0) (sV Y 4 0)
      refine ⟨?_, l2⟩
      rw [sV_ne (show 13 ≠ 12 by omega), sV_ne (show 14 ≠ 12 by omega), sV_ne (show 15 ≠ 12 by omega)]; exact l1
    have hE := emp_q h q2.1 q2.2.1
    generalize s_X_empty U.2 = A at hL hE ⊢
    generalize sV Y 4 0 = B at hL hE ⊢
    have r := do_q hE hL q3.1 q3.2
    generalize s_P_doActs A = F at r ⊢
    generalize s_M_read_b124 (m.toInt.toNat + 1) (s_M_copies_g_ahead B) m 0 = G at r ⊢
    exact r
end dn
