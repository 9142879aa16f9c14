/-! searched: the call -/
def AK (a b k u w t : Int32) : Prop := 5 ≤ a.toInt ∧ a.toInt ≤ b.toInt ∧ b.toInt ≤ 60 ∧ k18 k ∧ UW u w ∧ 0 ≤ t.toInt ∧ t.toInt ≤ 200
theorem rem99 (x : Int32) : (x - x / 100 * 100).toInt ≤ 99 := by
  have h : (100 : Int32).toInt = 100 := by decide
  rw [i32_rem (by rw [h]; decide), h]
  have := Int.tmod_lt_of_pos x.toInt (show (0 : Int) < 100 by decide)
  omega
section se3
variable {S M Z Y : St} {x k y t v u w g f : Int32}
theorem ask75 : s_H_isAsked_b75 k t g f = 0 ↔ (g = 0 ∨ f = 0 ∨ ¬ (k18 k ∧ 0 ≤ t.toInt ∧ t.toInt ≤ 200)) := by
  have e1 : (1 : Int32).toInt = 1 := by decide
  have e8 : (8 : Int32).toInt = 8 := by decide
  have e2 : (200 : Int32).toInt = 200 := by decide
  rw [s_H_isAsked_b75]
  unfold k18
  by_cases c1 : g = 0
  · rw [if_pos c1]; exact iff_of_true rfl (Or.inl c1)
  · rw [if_neg c1]
    by_cases c2 : f = 0
    · rw [if_pos c2]; exact iff_of_true rfl (Or.inr (Or.inl c2))
    · rw [if_neg c2]
      have e : (g = 0 ∨ f = 0 ∨ ¬ ((1 ≤ k.toInt ∧ k.toInt ≤ 8) ∧ 0 ≤ t.toInt ∧ t.toInt ≤ 200)) ↔ ¬ ((1 ≤ k.toInt ∧ k.toInt ≤ 8) ∧ 0 ≤ t.toInt ∧ t.toInt ≤ 200) := ⟨fun h => (h.resolve_left c1).resolve_left c2, fun h => Or.inr (Or.inr h)⟩
      rw [e]
      simp only [lt32, e1, e8, e2, z32]
      repeat' split
      all_goals first | exact iff_of_true rfl (by omega) | exact iff_of_false (by decide) (by omega)
theorem ask49 (hw : w.toInt ≤ 99) : s_H_isAsked_b49 k t u w g = 0 ↔ (g = 0 ∨ ¬ (UW u w ∧ k18 k ∧ 0 ≤ t.toInt ∧ t.toInt ≤ 200)) := by
  have e1 : (1 : Int32).toInt = 1 := by decide
  have e9 : (99 : Int32).toInt = 99 := by decide
  have n0 : s_H_isAsked_b75 k t g 0 = 0 := ask75.mpr (Or.inr (Or.inl rfl))
  rw [s_H_isAsked_b49, s_H_isAsked_b74]
  by_cases c : UW u w
  · have c0 := c
    obtain ⟨⟨u1, u2⟩, w1, -⟩ := c0
    rw [if_neg (by rw [lt32, e1]; omega), if_neg (by rw [lt32, e9]; omega), if_neg (by rw [lt32, e1]; omega), ask75]
    constructor
    · intro h
      exact h.imp (fun q => q) (fun q r => (q.resolve_left (by decide)) r.2)
    · intro h
      exact h.imp (fun q => q) (fun q => Or.inr (fun r => q ⟨c, r⟩))
  · refine iff_of_true ?_ (Or.inr (fun q => c q.1))
    unfold UW at c
    simp only [lt32, e1, e9]
    split
    · exact n0
    · split
      · exact n0
      · split
        · exact n0
        · exact absurd ⟨⟨by omega, by omega⟩, by omega, by omega⟩ c
theorem asked_i : s_H_isAsked x k y t = 0 ↔ ¬ AK (x / 100) (x - x / 100 * 100) k (y / 100) (y - y / 100 * 100) t := by
  have e5 : (5 : Int32).toInt = 5 := by decide
  have e6 : (60 : Int32).toInt = 60 := by decide
  have hw := rem99 y
  rw [s_H_isAsked, s_H_isAsked_b48]
  generalize x - x / 100 * 100 = b
  generalize y - y / 100 * 100 = w at hw ⊢
  generalize x / 100 = a
  generalize y / 100 = u
  have n0 : s_H_isAsked_b49 k t u w 0 = 0 := (ask49 hw).mpr (Or.inl rfl)
  unfold AK
  by_cases c : 5 ≤ a.toInt ∧ a.toInt ≤ b.toInt ∧ b.toInt ≤ 60
  · rw [if_neg (by rw [lt32, e5]; omega), if_neg (by rw [lt32, e6]; omega), if_neg (by rw [lt32]; omega), ask49 hw]
    constructor
    · intro h q
      exact (h.resolve_left (by decide)) ⟨q.2.2.2.2.1, q.2.2.2.1, q.2.2.2.2.2⟩
    · intro h
      exact Or.inr (fun q => h ⟨c.1, c.2.1, c.2.2, q.2.1, q.1, q.2.2⟩)
  · refine iff_of_true ?_ (fun q => c ⟨q.1, q.2.1, q.2.2.1⟩)
    simp only [lt32, e5, e6]
    split
    · exact n0
    · split
      · exact n0
      · split
        · exact n0
        · exact absurd ⟨by omega, by omega, by omega⟩ c
/-- what is told of a search, in the reference's words -/
def tld (Y : St) (k v : Int32) : Int32 := if v = 0 then Y.1 1 else if Y.1 1 = 0 then -2 else if v = 1 then Y.1 2 else if v = 2 then Y.1 3 else s_M_teethOf (Y.1 2) (Y.1 3) k
theorem tld_q (h : QS k u w t Z Y) : s_H_told Z v = tld Y k v := by
  obtain ⟨-, ⟨h25, -⟩, h3, h4⟩ := h
  rw [s_H_told, tld]
  by_cases c0 : v = 0
  · rw [if_pos c0, if_pos c0]; exact h3
  · rw [if_neg c0, if_neg c0]
    by_cases c1 : Z.1 29 = 0
    · rw [if_pos c1, if_pos (by rw [← h3]; exact c1)]
    · rw [if_neg c1, if_neg (show ¬ Y.1 1 = 0 by rw [← h3]; exact c1)]
      obtain ⟨d1, d2, -⟩ := h4.resolve_left c1
      rw [d1, d2, h25, tt_eq]
theorem sea_go (hA : AK (x / 100) (x - x / 100 * 100) k (y / 100) (y - y / 100 * 100) t) (hv : 0 ≤ v.toInt ∧ v.toInt ≤ 3) : s_M_searched M x k y t v = (tld (s_M_searches M (x / 100) (x - x / 100 * 100) k (y / 100) (y - y / 100 * 100) t) k v, s_M_searches M (x / 100) (x - x / 100 * 100) k (y / 100) (y - y / 100 * 100) t) := by
  have e0 : (0 : Int64).toInt = 0 := by decide
  have e1 : (1 : Int64).toInt = 1 := by decide
  have e3 : (3 : Int64).toInt = 3 := by decide
  have e5 : (5 : Int64).toInt = 5 := by decide
  have e6 : (60 : Int64).toInt = 60 := by decide
  have e8 : (8 : Int64).toInt = 8 := by decide
  have e9 : (99 : Int64).toInt = 99 := by decide
  have e2 : (200 : Int64).toInt = 200 := by decide
  rw [s_M_searched, tld]
  generalize s_M_searches M (x / 100) (x - x / 100 * 100) k (y / 100) (y - y / 100 * 100) t = Y
  generalize x - x / 100 * 100 = b at hA ⊢
  generalize y - y / 100 * 100 = w at hA ⊢
  generalize x / 100 = a at hA ⊢
  generalize y / 100 = u at hA ⊢
  obtain ⟨a1, a2, a3, ⟨k1, k2⟩, ⟨⟨u1, u2⟩, w1, w2⟩, t1, t2⟩ := hA
  obtain ⟨v1, v2⟩ := hv
  rw [if_neg (fun q => in_0 q (by simp only [i64_of, e5, e6]; omega)), if_neg (fun q => in_0 q (by simp only [i64_of, e6]; omega)), if_neg (fun q => in_0 q (by simp only [i64_of, e1, e8]; omega)), if_neg (fun q => in_0 q (by simp only [i64_of, e1, e9]; omega)), if_neg (fun q => in_0 q (by simp only [i64_of, e1, e9]; omega)), if_neg (fun q => in_0 q (by simp only [i64_of, e0, e2]; omega)), if_neg (fun q => in_0 q (by simp only [i64_of, e0, e3]; omega))]
  by_cases c0 : v = 0
  · rw [if_pos c0, if_pos c0]
  · rw [if_neg c0, if_neg c0]
    by_cases c1 : Y.1 1 = 0
    · rw [if_pos c1, if_pos c1]
    · rw [if_neg c1, if_neg c1]
      by_cases c2 : v = 1
      · rw [if_pos c2, if_pos c2]
      · rw [if_neg c2, if_neg c2]
        by_cases c3 : v = 2
        · rw [if_pos c3, if_pos c3]
        · rw [if_neg c3, if_neg c3]
theorem sea_no (h : ¬ (AK (x / 100) (x - x / 100 * 100) k (y / 100) (y - y / 100 * 100) t ∧ 0 ≤ v.toInt ∧ v.toInt ≤ 3)) : s_M_searched M x k y t v = (-1, M) := by
  have e0 : (0 : Int64).toInt = 0 := by decide
  have e1 : (1 : Int64).toInt = 1 := by decide
  have e3 : (3 : Int64).toInt = 3 := by decide
  have e5 : (5 : Int64).toInt = 5 := by decide
  have e6 : (60 : Int64).toInt = 60 := by decide
  have e8 : (8 : Int64).toInt = 8 := by decide
  have e9 : (99 : Int64).toInt = 99 := by decide
  have e2 : (200 : Int64).toInt = 200 := by decide
  rw [s_M_searched]
  generalize s_M_searches M (x / 100) (x - x / 100 * 100) k (y / 100) (y - y / 100 * 100) t = Y
  generalize x - x / 100 * 100 = b at h ⊢
  generalize y - y / 100 * 100 = w at h ⊢
  generalize x / 100 = a at h ⊢
  generalize y / 100 = u at h ⊢
  by_cases d1 : s_M_in a.toInt64 (5 : Int64) (60 : Int64) = 0
  · rw [if_pos d1]
  rw [if_neg d1]
  by_cases d2 : s_M_in b.toInt64 a.toInt64 (60 : Int64) = 0
  · rw [if_pos d2]
  rw [if_neg d2]
  by_cases d3 : s_M_in k.toInt64 (1 : Int64) (8 : Int64) = 0
  · rw [if_pos d3]
  rw [if_neg d3]
  by_cases d4 : s_M_in u.toInt64 (1 : Int64) (99 : Int64) = 0
  · rw [if_pos d4]
  rw [if_neg d4]
  by_cases d5 : s_M_in w.toInt64 (1 : Int64) (99 : Int64) = 0
  · rw [if_pos d5]
  rw [if_neg d5]
  by_cases d6 : s_M_in t.toInt64 (0 : Int64) (200 : Int64) = 0
  · rw [if_pos d6]
  rw [if_neg d6]
  by_cases d7 : s_M_in v.toInt64 (0 : Int64) (3 : Int64) = 0
  · rw [if_pos d7]
  exfalso
  have q1 := in_1 d1
  have q2 := in_1 d2
  have q3 := in_1 d3
  have q4 := in_1 d4
  have q5 := in_1 d5
  have q6 := in_1 d6
  have q7 := in_1 d7
  simp only [i64_of, e0, e1, e2, e3, e5, e6, e8, e9] at q1 q2 q3 q4 q5 q6 q7
  exact h ⟨⟨q1.1, q2.1, q2.2, q3, ⟨q4, q5⟩, q6⟩, q7⟩
theorem run_q (h : Rel S M) (hA : AK (x / 100) (x - x / 100 * 100) k (y / 100) (y - y / 100 * 100) t) : QS k (y / 100) (y - y / 100 * 100) t (s_H_run S x k y t) (s_M_searches M (x / 100) (x - x / 100 * 100) k (y / 100) (y - y / 100 * 100) t) := by
  obtain ⟨a1, a2, a3, hk, hu, ht⟩ := hA
  rw [s_H_run, s_M_searches]
  generalize y - y / 100 * 100 = w at hu ⊢
  generalize y / 100 = u at hu ⊢
  refine out_b hu hk ht a1 a3 _ _ _ _ ?_ a1
  refine ⟨Rel_k h (fun j hj => ?_) rfl (sV_ne (by omega)) (sV_ne (by omega)) rfl, ⟨?_, ?_, ?_, ?_⟩, ?_, Or.inl sV_eq⟩
  · rw [sV_ne (by omega), sV_ne (by omega), sV_ne (by omega), sV_ne (by omega), sV_ne (by omega)]
  · rw [sV_ne (by omega), sV_ne (by omega), sV_ne (by omega), sV_ne (by omega), sV_eq]
  · rw [sV_ne (by omega), sV_ne (by omega), sV_ne (by omega), sV_eq]
  · rw [sV_ne (by omega), sV_ne (by omega), sV_eq]
  · rw [sV_ne (by omega), sV_eq]
  · rw [sV_eq, sV_eq]
theorem q_searched (h : Rel S M) : (s_P_searched S x k y t v).1 = (s_M_searched M x k y t v).1 ∧ Rel (s_P_searched S x k y t v).2 (s_M_searched M x k y t v).2 := by
  have e3 : (3 : Int32).toInt = 3 := by decide
  by_cases c : AK (x / 100) (x - x / 100 * 100) k (y / 100) (y - y / 100 * 100) t ∧ 0 ≤ v.toInt ∧ v.toInt ≤ 3
  · have q := run_q h c.1
    rw [sea_go c.1 c.2, s_P_searched, if_neg (fun e => asked_i.mp e c.1), if_neg (by rw [lt32, z32]; omega), if_pos (by rw [le32, e3]; omega)]
    exact ⟨tld_q q, q.1⟩
  · rw [sea_no c, s_P_searched]
    by_cases d : s_H_isAsked x k y t = 0
    · rw [if_pos d]; exact ⟨rfl, h⟩
    · rw [if_neg d]
      have d' : AK (x / 100) (x - x / 100 * 100) k (y / 100) (y - y / 100 * 100) t := Classical.not_not.mp (fun e => d (asked_i.mpr e))
      by_cases e : v < 0
      · rw [if_pos e]; exact ⟨rfl, h⟩
      · rw [if_neg e, if_neg (fun f => c ⟨d', by rw [lt32, z32] at e; rw [le32, e3] at f; omega⟩)]
        exact ⟨rfl, h⟩
end se3
