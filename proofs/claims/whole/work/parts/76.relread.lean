/-! read: the text, then its acts -/
section rd
variable {S M Z Y : St} {n m x c b a i : Int32}
/-- the two readers' ends: a fault at one place, or as many acts told by both -/
def RP (S M : St) (q r : Int32 × St) : Prop := (∃ Y' : St, 0 ≤ q.1.toInt ∧ FX S q.2 ∧ AV M Y' ∧ r = ((-100 : Int32) - q.1, sV Y' 4 0)) ∨ (∃ (Y' : St) (m : Int32), q.1 = -1 ∧ PW S M m q.2 Y' ∧ (0 ≤ m.toInt ∧ m.toInt ≤ 40) ∧ r = s_M_read_b124 (m.toInt.toNat + 1) (s_M_copies_g_ahead (sV Y' 4 0)) m 0)
theorem AV_5 {x : Int32} (h : AV M Y) : AV M (sV Y 5 x) := h.trans MV_5.av
/-- the reference's end by a fault -/
theorem end_f {f : Nat} (h : Y.1 6 = 0) : s_M_read_b14 (f + 1) (sV Y 5 (Y.1 5 + 0)) m 0 = ((-100 : Int32) - Y.1 5, sV (sV Y 5 (Y.1 5 + 0)) 4 0) := by
  rw [s_M_read_b14, if_pos rfl, if_pos (by rw [sV_ne (by omega)]; exact h), sV_eq, add_0]
theorem par_pw (hT : TR S M) : ∀ (f : Nat) (n : Int32) (Z Y : St), n.toInt + (f : Int) = 41 → 0 ≤ n.toInt → n.toInt ≤ 40 → PW S M n Z Y → 2 * n.toInt ≤ (Y.1 5).toInt → RP S M (s_X_parse_b28 f Z n) (s_M_read_b14 (f + 2) Y n 1) := by
  have e40 : (40 : Int32).toInt = 40 := by decide
  intro f
  induction f with
  | zero => intro n Z Y h1 h2 h3 _ _; omega
  | succ f ih =>
    intro n Z Y h1 h2 h3 h h5
    have ht := h.2.2.1
    obtain ⟨t1, t2, t3⟩ := ht
    have hA := AC_act (k := n) h.2.2.1
    have hav : AV M (s_M_act Y n) := h.2.1.trans hA.2.1
    rw [s_X_parse_b28, s_M_read_b14, if_neg (show ¬ (1 : Int32) = 0 by decide)]
    by_cases cc : (40 : Int32) ≤ n
    · rw [if_pos cc]
      rw [le32, e40] at cc
      have hn : s_M_here Y = -1 := by rw [s_M_here, if_pos (by rw [le32]; omega)]
      have z : FZ (Y.1 5) (s_M_act Y n) := by
        rw [act_N (by rw [hn]; unfold IsL; decide)]; exact FZ_41
      rw [if_pos z.1, end_f z.1, z.2]
      refine Or.inl ⟨sV (s_M_act Y n) 5 (Y.1 5 + 0), ?_, h.1, AV_5 hav, ?_⟩
      · show 0 ≤ (Z.1 23).toInt
        rw [h.2.2.2.1]; exact t1
      · show _ = ((-100 : Int32) - Z.1 23, _)
        rw [h.2.2.2.1]
    · rw [if_neg cc]
      rw [le32, e40] at cc
      have q := act_pw hT h ⟨h2, by omega⟩
      have es : (n + 1).toInt = n.toInt + 1 := i32_suc (by omega)
      generalize s_X_parseAct Z = U at q ⊢
      generalize s_M_act Y n = V at q hA hav ⊢
      rcases q with ⟨u1, u2, u3, u4⟩ | ⟨u1, u2, u3⟩
      · rw [if_pos u1, if_pos u4, end_f u4]
        refine Or.inl ⟨sV V 5 (V.1 5 + 0), ?_, u2, AV_5 hav, ?_⟩
        · show 0 ≤ (U.2.1 23).toInt
          rw [u3]; exact hA.1.1
        · show _ = ((-100 : Int32) - U.2.1 23, _)
          rw [u3]
      · obtain ⟨v1, v2, v3⟩ := hA.1
        have hp := hA.2.2.1.resolve_left u3
        have hz : U.2.1 12 = V.1 4 := (pw_tape hT u2.1 u2.2.1).1
        rw [if_neg (by rw [u1]; decide), if_neg u3, s_N_size, hz, u2.2.2.2.1]
        by_cases d : V.1 5 = V.1 4
        · have hn : ¬ s_M_here V = 59 := by rw [s_M_here, if_pos (by rw [d]; exact Int32.le_refl _)]; decide
          rw [if_pos d, if_neg hn, s_M_read_b14, if_pos rfl, if_neg (by rw [sV_ne (by omega)]; exact u3), if_pos (by rw [sV_eq, add_0, sV_ne (by omega)]; exact d)]
          exact Or.inr ⟨sV V 5 (V.1 5 + 0), n + 1, rfl, PW_0 u2, ⟨by omega, by omega⟩, rfl⟩
        · rw [if_neg d]
          by_cases e : s_M_here V = 59
          · have hl := here_lt e (by decide)
            rw [skip_go hT u2 e, if_neg (show ¬ (1 : Int32) = 0 by decide), if_pos e]
            have e2 : (V.1 5 + 1).toInt = (V.1 5).toInt + 1 := i32_suc (by omega)
            exact ih (n + 1) _ _ (by omega) (by omega) (by omega) (PW_1 u2 hl) (by rw [sV_eq]; omega)
          · rw [skip_no hT u2 e, if_pos rfl, if_neg e, s_M_read_b14, if_pos rfl, if_neg (by rw [sV_ne (by omega)]; exact u3), if_neg (by rw [sV_eq, add_0, sV_ne (by omega)]; exact d)]
            refine Or.inl ⟨sV V 5 (V.1 5 + 0), ?_, u2.1, AV_5 hav, ?_⟩
            · show 0 ≤ (U.2.1 23).toInt
              rw [u2.2.2.2.1]; exact v1
            · show _ = ((-100 : Int32) - U.2.1 23, _)
              rw [u2.2.2.2.1, sV_eq, add_0]
theorem par_in (h : Rel S M) : RP S M (s_X_parse S) (s_M_read M) := by
  rw [s_X_parse, s_M_read]
  refine par_pw h.2.2.1 41 0 _ _ (by decide) (by decide) (by decide) ⟨⟨fun j hj => ?_, fun _ _ => rfl, rfl⟩, (MV_5 (S := M) (x := 0)).av.trans MV_6.av, TI_g (TI_z h.F), ?_, ⟨?_, ?_, ?_⟩, fun k hk => ?_⟩ ?_
  · show (sV (sV (sV (sV S 23 0) 13 0) 14 0) 15 0).1 j = S.1 j
    rw [sV_ne (by omega), sV_ne (by omega), sV_ne (by omega), sV_ne (by omega)]
  · show (sV (sV (sV (sV S 23 0) 13 0) 14 0) 15 0).1 23 = _
    rw [sV_ne (by omega), sV_ne (by omega), sV_ne (by omega), sV_eq, sV_ne (show 5 ≠ 6 by omega), sV_eq]
  · show (sV (sV (sV (sV S 23 0) 13 0) 14 0) 15 0).1 13 = 0
    rw [sV_ne (by omega), sV_ne (by omega), sV_eq]
  · show (sV (sV (sV (sV S 23 0) 13 0) 14 0) 15 0).1 14 = 0
    rw [sV_ne (by omega), sV_eq]
  · show (sV (sV (sV (sV S 23 0) 13 0) 14 0) 15 0).1 15 = 0
    rw [sV_eq]
  · rw [z32] at hk; omega
  · rw [sV_ne (show 5 ≠ 6 by omega), sV_eq]; decide
theorem it_1 {c : Prop} {dc : Decidable c} {u : St} : (@ite (Int32 × St) c dc ((0 : Int32), u) ((1 : Int32), u)).2 = u := by
  split <;> rfl
end rd
