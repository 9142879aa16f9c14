/-! pairs: distance, ratio, contact, shiftFor; the law's isPair -/
section pairs
variable {S : St} {w a b t v x : Int32}
theorem has_n (hB : BN S) (hw : wl S w) : ¬ s_N_has S 0 w = 0 := fun q => (has_i hB).mp q hw
theorem of_0 (hB : BN S) (hw : wl S w) : s_P_of S w 0 = s_N_at S 0 w := by
  rw [s_P_of, s_B_hasWheel, if_neg (has_n hB hw), s_B_told, if_pos rfl]
theorem of_1 (hB : BN S) (hw : wl S w) : s_P_of S w 1 = s_N_at S 1 w := by
  rw [s_P_of, s_B_hasWheel, if_neg (has_n hB hw), s_B_told, if_neg (by decide), if_pos rfl]
/-- teeth, shift of a wheel, as whole numbers -/
theorem tv (hB : BN S) (hw : wl S w) : TV (s_N_at S 0 w) ∧ TS (s_N_at S 1 w) := by
  obtain ⟨t, s, h1, h2, h3, h4, -⟩ := view hB hw
  rw [h1, h2]; exact ⟨h3, h4⟩
theorem PM.sw (h : PM S a b) : PM S b a := ⟨h.2.1, h.1, fun e => h.2.2.1 e.symm, fun q => h.2.2.2 ⟨q.2, q.1⟩⟩
theorem can_sw (hB : BN S) : s_B_canPair S a b = s_B_canPair S b a := eq01 (z_B_canPair S a b) (z_B_canPair S b a) ((can_i hB).trans ((not_congr ⟨PM.sw, PM.sw⟩).trans (can_i hB).symm))
theorem can_n (hB : BN S) (h : PM S a b) : ¬ s_B_canPair S a b = 0 := fun q => (can_i hB).mp q h
theorem hr_i : s_B_hasRing S a b = 0 ↔ (0 ≤ (s_N_at S 0 a).toInt ∧ 0 ≤ (s_N_at S 0 b).toInt) := by
  have ra := ring_i (S := S) (w := a)
  have rb := ring_i (S := S) (w := b)
  rw [s_B_hasRing]
  by_cases h1 : s_B_isRing S a = 0
  · rw [if_pos h1]
    by_cases h2 : s_B_isRing S b = 0
    · rw [if_pos h2]; exact iff_of_true rfl ⟨ra.mp h1, rb.mp h2⟩
    · rw [if_neg h2]; exact iff_of_false (by decide) (fun q => h2 (rb.mpr q.2))
  · rw [if_neg h1]; exact iff_of_false (by decide) (fun q => h1 (ra.mpr q.1))
theorem cla_i (hB : BN S) (h : PM S a b) : s_B_clashes S a b = 0 ↔ ((0 ≤ (s_N_at S 0 a).toInt ∧ 0 ≤ (s_N_at S 0 b).toInt) ∨ (s_N_at S 0 a).toInt + (s_N_at S 0 b).toInt ≤ -8) := by
  have ta := (tv hB h.1).1
  have tb := (tv hB h.2.1).1
  unfold TV at ta tb
  have e8 : (-8 : Int32).toInt = -8 := by decide
  have e2 : (s_N_at S 0 a + s_N_at S 0 b).toInt = (s_N_at S 0 a).toInt + (s_N_at S 0 b).toInt := i32_add (by omega) (by omega)
  have hr := hr_i (S := S) (a := a) (b := b)
  rw [s_B_clashes]
  by_cases c : s_B_hasRing S a b = 0
  · rw [if_pos c]; exact iff_of_true rfl (Or.inl (hr.mp c))
  · rw [if_neg c]
    have c' := fun q => c (hr.mpr q)
    simp only [le32, e8, e2]
    by_cases d : (s_N_at S 0 a).toInt + (s_N_at S 0 b).toInt ≤ -8
    · rw [if_pos d]; exact iff_of_true rfl (Or.inr d)
    · rw [if_neg d]; exact iff_of_false (by decide) (fun q => q.elim c' d)
theorem z_cla : s_B_clashes S a b = 0 ∨ s_B_clashes S a b = 1 := z_B_clashes S a b
theorem cla_sw (hB : BN S) (h : PM S a b) : s_B_clashes S a b = s_B_clashes S b a := eq01 z_cla z_cla ((cla_i hB h).trans (Iff.trans (by constructor <;> intro q <;> omega) (cla_i hB h.sw).symm))
theorem arm_i (hB : BN S) (hw : wl S w) : (s_B_arm S w).toInt = 50 * (if 0 ≤ (s_N_at S 0 w).toInt then (s_N_at S 0 w).toInt else -(s_N_at S 0 w).toInt) + (s_N_at S 1 w).toInt := by
  obtain ⟨h5, h6⟩ := tv hB hw
  unfold TV at h5
  unfold TS at h6
  rw [s_B_arm]
  simp only [le32, z32]
  by_cases c : 0 ≤ (s_N_at S 0 w).toInt
  · rw [if_pos c, if_pos c]
    have e := mul50 (t := s_N_at S 0 w) (by omega) (by omega)
    rw [i32_add (by omega) (by omega), e]
  · rw [if_neg c, if_neg c]
    have e0 := sub0 (t := s_N_at S 0 w) (by omega) (by omega)
    have e := mul50 (t := 0 - s_N_at S 0 w) (by omega) (by omega)
    rw [i32_add (by omega) (by omega), e, e0]
theorem hund_c (hB : BN S) (h : PM S a b) : (s_B_hundredths S a b).toInt = hI (s_N_at S 0 a).toInt (s_N_at S 0 b).toInt (s_N_at S 1 a).toInt (s_N_at S 1 b).toInt := by
  have ea := arm_i hB h.1
  have eb := arm_i hB h.2.1
  obtain ⟨a5, a6⟩ := tv hB h.1
  obtain ⟨b5, b6⟩ := tv hB h.2.1
  have hra := ring_i (S := S) (w := a)
  have hrb := ring_i (S := S) (w := b)
  unfold TV at a5 b5
  unfold TS at a6 b6
  rw [s_B_hundredths, hI]
  simp only [hra, hrb]
  by_cases ca : 0 ≤ (s_N_at S 0 a).toInt
  · rw [if_pos ca] at ea
    by_cases cb : 0 ≤ (s_N_at S 0 b).toInt
    · rw [if_pos cb] at eb
      rw [if_pos ca, if_pos cb, if_pos ca, if_pos cb, i32_add (by omega) (by omega), ea, eb]
    · rw [if_neg cb] at eb
      rw [if_pos ca, if_neg cb, if_pos ca, if_neg cb, i32_sub (by omega) (by omega), ea, eb]
  · rw [if_neg ca] at ea
    have cb : 0 ≤ (s_N_at S 0 b).toInt := by have := h.2.2.2; omega
    rw [if_pos cb] at eb
    rw [if_neg ca, if_neg ca, i32_sub (by omega) (by omega), ea, eb]
theorem hund_sw (hB : BN S) (h : PM S a b) : s_B_hundredths S a b = s_B_hundredths S b a := by
  rw [eq32, hund_c hB h, hund_c hB h.sw, hI, hI]
  have hn := h.2.2.2
  by_cases ca : 0 ≤ (s_N_at S 0 a).toInt
  · by_cases cb : 0 ≤ (s_N_at S 0 b).toInt
    · simp only [if_pos ca, if_pos cb]; omega
    · simp only [if_pos ca, if_neg cb]
  · have cb : 0 ≤ (s_N_at S 0 b).toInt := by omega
    simp only [if_neg ca, if_pos cb]
theorem hund_b (hB : BN S) (h : PM S a b) (c : s_B_clashes S a b = 0) : 250 ≤ (s_B_hundredths S a b).toInt ∧ (s_B_hundredths S a b).toInt ≤ 25000 := by
  have cc := (cla_i hB h).mp c
  obtain ⟨a5, a6⟩ := tv hB h.1
  obtain ⟨b5, b6⟩ := tv hB h.2.1
  have hn := h.2.2.2
  unfold TV at a5 b5
  unfold TS at a6 b6
  rw [hund_c hB h, hI]
  by_cases ca : 0 ≤ (s_N_at S 0 a).toInt
  · by_cases cb : 0 ≤ (s_N_at S 0 b).toInt
    · simp only [if_pos ca, if_pos cb]; omega
    · simp only [if_pos ca, if_neg cb]; omega
  · simp only [if_neg ca]; omega
theorem isPt0 : ¬ s_P_isPart (0 : Int32) = 0 := by decide
theorem isPt1 : ¬ s_P_isPart (1 : Int32) = 0 := by decide
theorem dist_sw (hB : BN S) : s_P_distance S a b x = s_P_distance S b a x := by
  rw [s_P_distance, s_P_distance, can_sw (a := b) (b := a) hB]
  by_cases h : s_B_canPair S a b = 0
  · rw [if_pos h, if_pos h]
  · have hp : PM S a b := Classical.not_not.mp (fun q => h ((can_i hB).mpr q))
    rw [cla_sw hB hp, hund_sw hB hp]
/-- the distance of a pair that does not clash -/
theorem dist_g (hB : BN S) (h : PM S a b) (c : s_B_clashes S a b = 0) : ∃ g : Nat, 0 < g ∧ (s_P_distance S a b 0).toInt * g = (s_B_hundredths S a b).toInt ∧ (s_P_distance S a b 1).toInt * g = 100 := by
  have hb := hund_b hB h c
  have e100 : (100 : Int64).toInt = 100 := by decide
  have eh := i64_of (s_B_hundredths S a b)
  rw [s_P_distance, if_neg isPt0, if_neg (can_n hB h), if_pos c, s_P_distance, if_neg isPt1, if_neg (can_n hB h), if_pos c]
  have q0 := part_t (a := (s_B_hundredths S a b).toInt64) (b := (100 : Int64)) (c := 0) (by rw [e100]; omega) (by rw [eh]; omega)
  have q1 := part_t (a := (s_B_hundredths S a b).toInt64) (b := (100 : Int64)) (c := 1) (by rw [e100]; omega) (by rw [eh]; omega)
  rw [if_pos rfl] at q0
  rw [if_neg (by decide)] at q1
  refine ⟨Nat.gcd (s_B_hundredths S a b).toInt64.toInt.natAbs (100 : Int64).toInt.toNat, Nat.gcd_pos_of_pos_right _ (by rw [e100]; decide), ?_, ?_⟩
  · rw [q0, Int.tdiv_mul_cancel GD_dvd_a, eh]
  · rw [q1, Int.tdiv_mul_cancel (GD_dvd_b (by rw [e100]; omega)), e100]
/-- the size of a wheel -/
theorem siz (hB : BN S) (hw : wl S w) : ∃ n : Nat, 5 ≤ n ∧ n ≤ 99 ∧ ((if 0 ≤ s_N_at S 0 w then s_N_at S 0 w else 0 - s_N_at S 0 w)).toInt = (n : Int) := by
  have h5 := (tv hB hw).1
  unfold TV at h5
  by_cases c : 0 ≤ (s_N_at S 0 w).toInt
  · refine ⟨(s_N_at S 0 w).toInt.toNat, by omega, by omega, ?_⟩
    rw [if_pos (by rw [le32, z32]; exact c)]; omega
  · refine ⟨(-(s_N_at S 0 w).toInt).toNat, by omega, by omega, ?_⟩
    rw [if_neg (by rw [le32, z32]; exact c), sub0 (by omega) (by omega)]; omega
theorem above_i (hB : BN S) (hb : wl S b) {n : Nat} (h0 : 5 ≤ n) (h1 : n ≤ 99) (h : ((if 0 ≤ s_N_at S 0 b then s_N_at S 0 b else 0 - s_N_at S 0 b)).toInt = (n : Int)) : (s_B_hasRing S a b = 0 → (s_B_above S a b).toInt = -(n : Int)) ∧ (¬ s_B_hasRing S a b = 0 → (s_B_above S a b).toInt = (n : Int)) := by
  rw [s_B_above]
  refine ⟨fun c => ?_, fun c => ?_⟩
  · rw [if_pos c, i64_of, i32_neg (by omega), h]
  · rw [if_neg c, i64_of, h]
theorem below_i {n : Nat} (h : ((if 0 ≤ s_N_at S 0 a then s_N_at S 0 a else 0 - s_N_at S 0 a)).toInt = (n : Int)) : (s_B_below S a b).toInt = (n : Int) := by
  rw [s_B_below, i64_of, h]
theorem hr_sw : s_B_hasRing S a b = 0 ↔ s_B_hasRing S b a = 0 := hr_i.trans (Iff.trans (by constructor <;> intro q <;> exact ⟨q.2, q.1⟩) hr_i.symm)
/-- both ratios of a pair that does not clash -/
theorem rat_g (hB : BN S) (h : PM S a b) (c : s_B_clashes S a b = 0) : ∃ p q : Nat, 0 < p ∧ 0 < q ∧ p < 100 ∧ q < 100 ∧ (s_P_ratio S a b 1).toInt = (q : Int) ∧ (s_P_ratio S b a 1).toInt = (p : Int) ∧ (s_B_hasRing S a b = 0 → (s_P_ratio S a b 0).toInt = -(p : Int) ∧ (s_P_ratio S b a 0).toInt = -(q : Int)) ∧ (¬ s_B_hasRing S a b = 0 → (s_P_ratio S a b 0).toInt = (p : Int) ∧ (s_P_ratio S b a 0).toInt = (q : Int)) := by
  have c' : s_B_clashes S b a = 0 := by rw [← cla_sw hB h]; exact c
  obtain ⟨na, a0, a1, ea⟩ := siz hB h.1
  obtain ⟨nb, b0, b1, eb⟩ := siz hB h.2.1
  obtain ⟨u1, u2⟩ := above_i (a := a) hB h.2.1 b0 b1 eb
  obtain ⟨v1, v2⟩ := above_i (a := b) hB h.1 a0 a1 ea
  have l1 := below_i (b := b) ea
  have l2 := below_i (b := a) eb
  have s1 : (s_B_above S a b).toInt = (nb : Int) ∨ (s_B_above S a b).toInt = -(nb : Int) := (Classical.em (s_B_hasRing S a b = 0)).elim (fun q => Or.inr (u1 q)) (fun q => Or.inl (u2 q))
  have s2 : (s_B_above S b a).toInt = (na : Int) ∨ (s_B_above S b a).toInt = -(na : Int) := (Classical.em (s_B_hasRing S b a = 0)).elim (fun q => Or.inr (v1 q)) (fun q => Or.inl (v2 q))
  obtain ⟨p1, p2, p3, p4, p5⟩ := part_pq (Z := nb) (D := na) (by omega) (by omega) l1 s1 (by omega)
  obtain ⟨r1, r2, r3, r4, r5⟩ := part_pq (Z := na) (D := nb) (by omega) (by omega) l2 s2 (by omega)
  rw [Nat.gcd_comm na nb] at r1 r2 r3 r4 r5
  have k1 := Nat.div_le_self nb (Nat.gcd nb na)
  have k2 := Nat.div_le_self na (Nat.gcd nb na)
  have er : ∀ x : Int32, ¬ s_P_isPart x = 0 → s_P_ratio S a b x = s_P_partOf (s_B_above S a b) (s_B_below S a b) x := fun x hx => by rw [s_P_ratio, if_neg hx, if_neg (can_n hB h), if_pos c]
  have es : ∀ x : Int32, ¬ s_P_isPart x = 0 → s_P_ratio S b a x = s_P_partOf (s_B_above S b a) (s_B_below S b a) x := fun x hx => by rw [s_P_ratio, if_neg hx, if_neg (can_n hB h.sw), if_pos c']
  refine ⟨nb / Nat.gcd nb na, na / Nat.gcd nb na, p4, p5, by omega, by omega, ?_, ?_, fun q => ⟨?_, ?_⟩, fun q => ⟨?_, ?_⟩⟩
  · rw [er 1 isPt1]; exact p1
  · rw [es 1 isPt1]; exact r1
  · rw [er 0 isPt0]; exact p3 (u1 q)
  · rw [es 0 isPt0]; exact r3 (v1 (hr_sw.mp q))
  · rw [er 0 isPt0]; exact p2 (u2 q)
  · rw [es 0 isPt0]; exact r2 (v2 (fun z => q (hr_sw.mpr z)))
theorem shl_31 : ∀ b : Nat, b < 31 → ((1 : Int64) <<< ((Int32.ofNat b).toInt64 &&& 63)).toInt = 2 ^ b := by decide +kernel
theorem rt_b (v : Int64) : ∀ (b n : Nat) (x : Int64) (k : Int32), b < n → b ≤ 31 → k.toInt = (b : Int) - 1 → 0 ≤ x.toInt → x.toInt + 2 ^ b ≤ 2147483648 → 0 ≤ (s_P_root_b6 n v x k).toInt ∧ (s_P_root_b6 n v x k).toInt ≤ 2147483648 := by
  intro b
  induction b with
  | zero =>
    intro n x k hn hb hk h0 h1
    obtain ⟨n, rfl⟩ : ∃ n', n = n' + 1 := ⟨n - 1, by omega⟩
    rw [s_P_root_b6, if_pos (by rw [lt32, z32]; omega)]
    exact ⟨h0, by omega⟩
  | succ b ih =>
    intro n x k hn hb hk h0 h1
    obtain ⟨n, rfl⟩ : ∃ n', n = n' + 1 := ⟨n - 1, by omega⟩
    have ek : k = Int32.ofNat b := eq32.mpr (by rw [hk, Int32.toInt_ofNat_of_lt (by omega)]; omega)
    have em : (-1 : Int32).toInt = -1 := by decide
    have es : (k + (-1)).toInt = (b : Int) - 1 := by rw [i32_add (by rw [em]; omega) (by rw [em]; omega), em, hk]; omega
    have hs := shl_31 b (by omega)
    rw [← ek] at hs
    rw [s_P_root_b6, if_neg (by rw [lt32, z32]; omega)]
    generalize (1 : Int64) <<< (k.toInt64 &&& 63) = u at hs ⊢
    have hp : (2 : Int) ^ (b + 1) = 2 ^ b + 2 ^ b := by rw [Int.pow_succ]; omega
    rw [hp] at h1
    have hpos : (0 : Int) < 2 ^ b := Int.pow_pos (by omega)
    generalize (2 : Int) ^ b = P at *
    have et : (x + u).toInt = x.toInt + P := by rw [i64_add (by omega) (by omega), hs]
    by_cases d : 0 < lg_cmp ((x + u) * (x + u)) v
    · rw [if_pos d]
      exact ih n x _ (by omega) (by omega) es h0 (by omega)
    · rw [if_neg d]
      exact ih n (x + u) _ (by omega) (by omega) es (by omega) (by omega)
theorem root_b (v : Int64) : 0 ≤ (s_P_root v).toInt ∧ (s_P_root v).toInt ≤ 2147483648 := by
  rw [s_P_root]
  exact rt_b v 31 32 0 30 (by omega) (by omega) (by decide) (by decide) (by decide)
theorem reach_b (S : St) (w : Int32) : 0 ≤ (s_B_reach S w).toInt ∧ (s_B_reach S w).toInt ≤ 2147483648 := by
  rw [s_B_reach]
  split
  · exact root_b _
  · rw [z64]; omega
theorem path_b : -2147483648 ≤ (s_B_path S a b).toInt ∧ (s_B_path S a b).toInt ≤ 4294967296 := by
  have h1 := reach_b S a
  have h2 := reach_b S b
  rw [s_B_path]
  have h3 := root_b ((((s_B_arm S a + s_B_arm S b).toInt64) * ((s_B_arm S a + s_B_arm S b).toInt64)) * (s_B_square S).toInt64)
  generalize s_P_root _ = r at h3 ⊢
  generalize s_B_reach S a = p at h1 ⊢
  generalize s_B_reach S b = q at h2 ⊢
  have e : (p + q).toInt = p.toInt + q.toInt := i64_add (by omega) (by omega)
  rw [i64_sub (by rw [e]; omega) (by rw [e]; omega), e]
  omega
theorem path_sw : s_B_path S a b = s_B_path S b a := by
  rw [s_B_path, s_B_path, Int64.add_comm (s_B_reach S a), Int32.add_comm (s_B_arm S a)]
theorem cos_b (S : St) : 1 ≤ (s_B_cosine S).toInt ∧ (s_B_cosine S).toInt ≤ 2147483648 := by
  refine ⟨?_, ?_⟩
  · rw [s_B_cosine, s_B_square]
    split
    · decide +kernel
    · split <;> decide +kernel
  · rw [s_B_cosine]; exact (root_b _).2
/-- LOW and HIGH of a path, as whole numbers -/
theorem con_le (c0 : s_B_hasRing S a b = 0) : 0 ≤ (s_B_lowContact S a b).toInt ∧ (s_B_lowContact S a b).toInt ≤ (s_B_highContact S a b).toInt := by
  obtain ⟨k1, k2⟩ := cos_b S
  obtain ⟨p1, p2⟩ := path_b (S := S) (a := a) (b := b)
  have e1 : (31416 : Int64).toInt = 31416 := by decide
  have e2 : (31415 : Int64).toInt = 31415 := by decide
  have e3 : (10000000 : Int64).toInt = 10000000 := by decide
  have e4 : (1 : Int64).toInt = 1 := by decide
  have e5 : (2 : Int64).toInt = 2 := by decide
  rw [s_B_lowContact, s_B_highContact]
  generalize s_B_cosine S = C at k1 k2 ⊢
  generalize s_B_path S a b = p at p1 p2 ⊢
  have d1 : (C + 1).toInt = C.toInt + 1 := by rw [i64_add (by rw [e4]; omega) (by rw [e4]; omega), e4]
  have d2 : ((31416 : Int64) * (C + 1)).toInt = 31416 * (C.toInt + 1) := by rw [i64_mul (by rw [e1, d1]; omega) (by rw [e1, d1]; omega), e1, d1]
  have d3 : ((31415 : Int64) * C).toInt = 31415 * C.toInt := by rw [i64_mul (by rw [e2]; omega) (by rw [e2]; omega), e2]
  have f1 : (p - 1).toInt = p.toInt - 1 := by rw [i64_sub (by rw [e4]; omega) (by rw [e4]; omega), e4]
  have f2 : ((p - 1) * (10000000 : Int64)).toInt = (p.toInt - 1) * 10000000 := by rw [i64_mul (by rw [e3, f1]; omega) (by rw [e3, f1]; omega), e3, f1]
  have g1 : (p + 2).toInt = p.toInt + 2 := by rw [i64_add (by rw [e5]; omega) (by rw [e5]; omega), e5]
  have g2 : ((p + 2) * (10000000 : Int64)).toInt = (p.toInt + 2) * 10000000 := by rw [i64_mul (by rw [e3, g1]; omega) (by rw [e3, g1]; omega), e3, g1]
  rw [if_neg (fun q => by rw [lcmp_eq, eq64, d2, z64] at q; omega), if_neg (fun q => by rw [lcmp_eq, eq64, d3, z64] at q; omega)]
  have lo : (((p - 1) * (10000000 : Int64)) / ((31416 : Int64) * (C + 1))).toInt = ((p.toInt - 1) * 10000000).tdiv (31416 * (C.toInt + 1)) := by rw [i64_div (by omega), f2, d2]
  have hi : (((p + 2) * (10000000 : Int64)) / ((31415 : Int64) * C)).toInt = ((p.toInt + 2) * 10000000).tdiv (31415 * C.toInt) := by rw [i64_div (by omega), g2, d3]
  generalize ((p - 1) * (10000000 : Int64)) / ((31416 : Int64) * (C + 1)) = L at lo ⊢
  generalize ((p + 2) * (10000000 : Int64)) / ((31415 : Int64) * C) = G at hi ⊢
  have hL0 : 0 ≤ (s_B_lowContact_b35 S L).toInt := by
    rw [s_B_lowContact_b35]
    split
    · rw [z64]; omega
    · rename_i q; rw [lt64, z64] at q; omega
  have hG0 : 0 ≤ (s_B_highContact_b35 S G).toInt := by
    rw [s_B_highContact_b35]
    split
    · rw [z64]; omega
    · rename_i q; rw [lt64, z64] at q; omega
  refine ⟨hL0, ?_⟩
  by_cases hp : 1 ≤ p.toInt
  · have a1 : ((p.toInt - 1) * 10000000).tdiv (31416 * (C.toInt + 1)) ≤ ((p.toInt + 2) * 10000000).tdiv (31415 * C.toInt) := by
      rw [Int.tdiv_eq_ediv_of_nonneg (by omega), Int.tdiv_eq_ediv_of_nonneg (by omega)]
      have b1 : (p.toInt - 1) * 10000000 / (31416 * (C.toInt + 1)) ≤ (p.toInt + 2) * 10000000 / (31416 * (C.toInt + 1)) := Int.ediv_le_ediv (by omega) (by omega)
      have b2 : (p.toInt + 2) * 10000000 / (31416 * (C.toInt + 1)) ≤ (p.toInt + 2) * 10000000 / (31415 * C.toInt) := by
        have hY : 0 ≤ (p.toInt + 2) * 10000000 / (31416 * (C.toInt + 1)) := Int.ediv_nonneg (by omega) (by omega)
        rw [Int.le_ediv_iff_mul_le (by omega)]
        have m1 := Int.ediv_mul_le ((p.toInt + 2) * 10000000) (b := 31416 * (C.toInt + 1)) (by omega)
        have m2 : (p.toInt + 2) * 10000000 / (31416 * (C.toInt + 1)) * (31415 * C.toInt) ≤ (p.toInt + 2) * 10000000 / (31416 * (C.toInt + 1)) * (31416 * (C.toInt + 1)) := Int.mul_le_mul_of_nonneg_left (by omega) hY
        exact Int.le_trans m2 m1
      exact Int.le_trans b1 b2
    have a2 : 0 ≤ ((p.toInt - 1) * 10000000).tdiv (31416 * (C.toInt + 1)) := Int.tdiv_nonneg (by omega) (by omega)
    have a3 : ((p.toInt + 2) * 10000000).tdiv (31415 * C.toInt) ≤ (p.toInt + 2) * 10000000 := by
      rw [Int.tdiv_eq_ediv_of_nonneg (by omega)]
      exact Int.ediv_le_self _ (by omega)
    have g3 : (G + 1).toInt = G.toInt + 1 := by rw [i64_add (by rw [e4]; omega) (by rw [e4]; omega), e4]
    rw [s_B_lowContact_b35, if_neg (by rw [lt64, z64]; omega), s_B_highContact_b35, if_neg (by rw [lt64, z64, g3]; omega), g3]
    omega
  · have a1 : ((p.toInt - 1) * 10000000).tdiv (31416 * (C.toInt + 1)) ≤ 0 := by
      have e : (p.toInt - 1) * 10000000 = -((1 - p.toInt) * 10000000) := by omega
      rw [e, Int.neg_tdiv]
      have := Int.tdiv_nonneg (a := (1 - p.toInt) * 10000000) (b := 31416 * (C.toInt + 1)) (by omega) (by omega)
      omega
    have a2 : (s_B_lowContact_b35 S L).toInt = 0 := by
      rw [s_B_lowContact_b35]
      split
      · rw [z64]
      · rename_i q; rw [lt64, z64] at q; omega
    rw [a2]; exact hG0
theorem con_0 (hB : BN S) (h : PM S a b) (c : s_B_hasRing S a b = 0) : s_P_contact S a b 0 = s_B_lowContact S a b := by
  rw [s_P_contact, if_neg (by decide), if_neg (by decide), if_neg (can_n hB h), if_pos c, if_pos rfl]
theorem con_1 (hB : BN S) (h : PM S a b) (c : s_B_hasRing S a b = 0) : s_P_contact S a b 1 = s_B_highContact S a b := by
  rw [s_P_contact, if_neg (by decide), if_neg (by decide), if_neg (can_n hB h), if_pos c, if_neg (by decide)]
theorem con_sw (hB : BN S) (h : PM S a b) (c : s_B_hasRing S a b = 0) : s_P_contact S a b 1 = s_P_contact S b a 1 := by
  rw [con_1 hB h c, con_1 hB h.sw (hr_sw.mp c), s_B_highContact, s_B_highContact, path_sw]
theorem con_v (h : s_B_canPair S a b = 0 ∨ ¬ s_B_hasRing S a b = 0) : s_P_contact S a b 0 = -9223372036854775808 := by
  rw [s_P_contact, if_neg (by decide), if_neg (by decide)]
  by_cases c : s_B_canPair S a b = 0
  · rw [if_pos c]
  · rw [if_neg c, if_neg (h.resolve_left c)]
/-- the size of a long that is p or -p -/
theorem absL {r : Int64} {p : Nat} (h : r.toInt = (p : Int) ∨ r.toInt = -(p : Int)) (hp : p < 1000000) : (if 0 < r then r else -r).toInt = (p : Int) := by
  by_cases c : 0 < r
  · rw [if_pos c]; rw [lt64, z64] at c; omega
  · rw [if_neg c]; rw [lt64, z64] at c; rw [i64_neg (by omega)]; omega
theorem shf (hB : BN S) (h : PM S a b) (c : s_B_clashes S a b = 0) {d0 d1 : Int64} {g : Nat} (hg : 0 < g) (h0 : d0.toInt * g = (s_B_hundredths S a b).toInt) (h1 : d1.toInt * g = 100) (hd : d0.toInt ≤ 9999) : s_P_shiftFor S a b d0.toInt32 d1.toInt32 = s_N_at S 1 a := by
  have hb := hund_b hB h c
  have ea := arm_i hB h.1
  have eb := arm_i hB h.2.1
  obtain ⟨a5, a6⟩ := tv hB h.1
  obtain ⟨b5, b6⟩ := tv hB h.2.1
  have hra := ring_i (S := S) (w := a)
  have hrb := ring_i (S := S) (w := b)
  have hc := hund_c hB h
  have hn := h.2.2.2
  have hg1 : (1 : Int) ≤ g := by omega
  have q0 : 1 ≤ d0.toInt := by
    rcases Int.lt_or_le 0 d0.toInt with q | q
    · omega
    · have := Int.mul_le_mul_of_nonneg_right q (show (0 : Int) ≤ g by omega); omega
  have q1 : 1 ≤ d1.toInt := by
    rcases Int.lt_or_le 0 d1.toInt with q | q
    · omega
    · have := Int.mul_le_mul_of_nonneg_right q (show (0 : Int) ≤ g by omega); omega
  have q2 : d1.toInt ≤ 100 := by
    have := Int.mul_le_mul_of_nonneg_left hg1 (show 0 ≤ d1.toInt by omega); omega
  have t0 : d0.toInt32.toInt = d0.toInt := by rw [Int64.toInt_toInt32]; exact Int.bmod_eq_of_le (by omega) (by omega)
  have t1 : d1.toInt32.toInt = d1.toInt := by rw [Int64.toInt_toInt32]; exact Int.bmod_eq_of_le (by omega) (by omega)
  generalize d0.toInt32 = p at t0 ⊢
  generalize d1.toInt32 = q at t1 ⊢
  have c100 : (100 : Int32).toInt = 100 := by decide
  have c1 : (1 : Int32).toInt = 1 := by decide
  have c9 : (9999 : Int32).toInt = 9999 := by decide
  have m1 : ((100 : Int32) * p).toInt = 100 * p.toInt := by rw [i32_mul (by rw [c100]; omega) (by rw [c100]; omega), c100]
  have key : 100 * p.toInt = (s_B_hundredths S a b).toInt * q.toInt := by
    rw [t0, t1, ← h0, ← h1, Int.mul_comm (d1.toInt * g) d0.toInt, ← Int.mul_assoc, Int.mul_right_comm]
  have e1 : ((100 : Int32) * p / q).toInt = (s_B_hundredths S a b).toInt := by
    rw [i32_div (by omega), m1, key]
    exact Int.mul_tdiv_cancel _ (by omega)
  have e2 : (100 : Int32) * p - (100 : Int32) * p / q * q = 0 := by
    rw [eq32, i32_rem (by omega), m1, key, z32]
    exact Int.mul_tmod_left _ _
  rw [s_P_shiftFor, if_neg (can_n hB h), if_neg (by rw [lt32, c1]; omega), if_neg (by rw [lt32, c9]; omega), if_neg (by rw [lt32, c1]; omega), if_pos (by rw [le32, c9]; omega), if_pos c, s_B_shiftAt, if_neg (by rw [eq32, z32]; omega), if_pos e2]
  generalize (100 : Int32) * p / q = W at e1 ⊢
  unfold TV at a5 b5
  unfold TS at a6 b6
  have fin : ∀ X : Int32, X.toInt = (s_B_arm S a).toInt → s_B_shiftAt_b77 S a X = s_N_at S 1 a := by
    intro X hX
    have em : ((50 : Int32) * (if 0 ≤ s_N_at S 0 a then s_N_at S 0 a else 0 - s_N_at S 0 a)).toInt = 50 * (if 0 ≤ (s_N_at S 0 a).toInt then (s_N_at S 0 a).toInt else -(s_N_at S 0 a).toInt) := by
      by_cases cc : 0 ≤ (s_N_at S 0 a).toInt
      · rw [if_pos (by rw [le32, z32]; exact cc), if_pos cc, mul50 (by omega) (by omega)]
      · rw [if_neg (by rw [le32, z32]; exact cc), if_neg cc, mul50 (by rw [sub0 (by omega) (by omega)]; omega) (by rw [sub0 (by omega) (by omega)]; omega), sub0 (by omega) (by omega)]
    have hz : -5000 ≤ 50 * (if 0 ≤ (s_N_at S 0 a).toInt then (s_N_at S 0 a).toInt else -(s_N_at S 0 a).toInt) ∧ 50 * (if 0 ≤ (s_N_at S 0 a).toInt then (s_N_at S 0 a).toInt else -(s_N_at S 0 a).toInt) ≤ 5000 := by split <;> omega
    have ex : X - (50 : Int32) * (if 0 ≤ s_N_at S 0 a then s_N_at S 0 a else 0 - s_N_at S 0 a) = s_N_at S 1 a := by
      rw [eq32, i32_sub (by rw [em, hX]; omega) (by rw [em, hX]; omega), em, hX, ea]
      omega
    rw [s_B_shiftAt_b77, ex, if_neg (fun q => sh_i.mp q ⟨a6.1, a6.2⟩)]
  rw [hI] at hc
  by_cases ca : 0 ≤ (s_N_at S 0 a).toInt
  · rw [if_pos (hra.mpr ca)]
    rw [if_pos ca] at ea
    by_cases cb : 0 ≤ (s_N_at S 0 b).toInt
    · rw [if_pos (hrb.mpr cb)]
      rw [if_pos cb] at eb
      rw [if_pos ca, if_pos cb] at hc
      refine fin _ ?_
      rw [i32_sub (by omega) (by omega), ea, eb, e1, hc]; omega
    · rw [if_neg (fun q => cb (hrb.mp q))]
      rw [if_neg cb] at eb
      rw [if_pos ca, if_neg cb] at hc
      refine fin _ ?_
      rw [i32_sub (by omega) (by omega), ea, eb, e1, hc]; omega
  · rw [if_neg (fun q => ca (hra.mp q))]
    have cb : 0 ≤ (s_N_at S 0 b).toInt := by omega
    rw [if_neg ca] at ea hc
    rw [if_pos cb] at eb
    refine fin _ ?_
    rw [i32_add (by omega) (by omega), ea, eb, e1, hc]; omega
theorem rem100 {d1 : Int64} {g : Nat} (hg : 0 < g) (h1 : d1.toInt * g = 100) : 0 < d1.toInt ∧ (100 : Int64) - (100 : Int64) / d1 * d1 = 0 := by
  have q1 : 1 ≤ d1.toInt := by
    rcases Int.lt_or_le 0 d1.toInt with q | q
    · omega
    · have := Int.mul_le_mul_of_nonneg_right q (show (0 : Int) ≤ g by omega); omega
  refine ⟨by omega, ?_⟩
  have e100 : (100 : Int64).toInt = 100 := by decide
  rw [eq64, i64_rem (by omega), e100, z64, ← h1]
  exact Int.mul_tmod_right _ _
theorem isPair_b (hB : BN S) (h : PM S a b) (c : s_B_clashes S a b = 0) (t0 : Int32) (ht : (t0 = 0 ∧ s_B_hasRing S a b = 0) ∨ (t0 = 1 ∧ ¬ s_B_hasRing S a b = 0)) : s_L_isPair_b163 S a b (s_P_distance S a b 0) (s_P_distance S a b 1) (s_P_ratio S a b 0) (s_P_ratio S a b 1) t0 = 1 := by
  obtain ⟨g, g0, g1, g2⟩ := dist_g hB h c
  obtain ⟨p, q, p0, q0, p1, q1, r1, r2, r3, r4⟩ := rat_g hB h c
  obtain ⟨hpos, hrem⟩ := rem100 g0 g2
  have hb := hund_b hB h c
  have e1 : (1 : Int64).toInt = 1 := by decide
  have e9 : (9999 : Int64).toInt = 9999 := by decide
  have hp0 : 1 ≤ (s_P_distance S a b 0).toInt := by
    rcases Int.lt_or_le 0 (s_P_distance S a b 0).toInt with q | q
    · omega
    · have := Int.mul_le_mul_of_nonneg_right q (show (0 : Int) ≤ g by omega); omega
  have hsf : (s_P_distance S a b 0).toInt ≤ 9999 → s_P_shiftFor S a b (s_P_distance S a b 0).toInt32 (s_P_distance S a b 1).toInt32 = s_P_of S a 1 := fun hd => by rw [shf hB h c g0 g1 g2 hd, of_1 hB h.1]
  generalize s_P_distance S a b 0 = d0 at *
  generalize s_P_distance S a b 1 = d1 at *
  rw [s_L_isPair_b163, if_neg (by rw [lcmp_le, le64, z64]; omega), if_neg (by rw [lcmp_lt, lt64, e1]; omega), if_pos (by rw [hrem]; decide), if_neg (by rw [lcmp_lt, lt64, e1]; omega)]
  rcases ht with ⟨rfl, hr⟩ | ⟨rfl, hr⟩
  · obtain ⟨a1, a2⟩ := r3 hr
    obtain ⟨l1, l2⟩ := con_le hr
    rw [if_neg (by rw [lcmp_ge, le64, z64]; omega), s_L_isPair_b208, if_neg (by decide), if_pos (by rw [lcmp_eq, eq64, absL (p := q) (Or.inr a2) (by omega), r1]), if_pos (by rw [lcmp_eq, eq64, absL (p := p) (Or.inr a1) (by omega), r2]), if_pos rfl, con_0 hB h hr, con_1 hB h hr, if_neg (by rw [lcmp_lt, lt64, z64]; omega), if_neg (by rw [lcmp_gt, lt64]; omega), if_pos (by rw [lcmp_eq, ← con_sw hB h hr, con_1 hB h hr])]
    by_cases hd : d0.toInt ≤ 9999
    · rw [if_neg (by rw [lcmp_gt, lt64, e9]; omega), if_pos (hsf hd)]
    · rw [if_pos (by rw [lcmp_gt, lt64, e9]; omega)]
  · obtain ⟨a1, a2⟩ := r4 hr
    rw [if_pos (by rw [lcmp_ge, le64, z64]; omega), s_L_isPair_b208, if_neg (by decide), if_pos (by rw [lcmp_eq, eq64, absL (p := q) (Or.inl a2) (by omega), r1]), if_pos (by rw [lcmp_eq, eq64, absL (p := p) (Or.inl a1) (by omega), r2]), if_neg (by decide), con_v (Or.inr hr), if_pos (by decide)]
theorem lv_VC : ¬ (-9223372036854775807 : Int64) = -9223372036854775808 := by decide
theorem isPair_1 (hB : BN S) (ha : wl S a) (hb : wl S b) : s_L_isPair S a b = 1 := by
  rw [s_L_isPair, if_pos (lcmp_eq.mpr (dist_sw hB)), if_pos (lcmp_eq.mpr (dist_sw hB)), of_0 hB ha, of_0 hB hb]
  have tail : ∀ D : Int64, s_P_distance S a b 0 = D → s_P_distance S a b 1 = D → s_P_ratio S a b 0 = D → (s_B_canPair S a b = 0 ∨ ¬ s_B_hasRing S a b = 0) → ((s_N_at S 0 a).toInt < 0 ∨ (s_N_at S 0 b).toInt < 0 ∨ a = b) → s_L_isPair_b60 S a b (s_P_distance S a b 0) (s_P_distance S a b 1) = 1 := by
    intro D h0 h1 h2 h3 h4
    have h5 : s_L_isPair_b102 S a b = 1 := by rw [s_L_isPair_b102, con_v h3, if_pos (by decide)]
    rw [s_L_isPair_b60, h0, h1, h2, if_pos (lcmp_eq.mpr rfl), if_pos (lcmp_eq.mpr rfl), of_0 hB ha, of_0 hB hb, h5]
    by_cases c1 : s_N_at S 0 a < 0
    · rw [if_pos c1]
    · rw [if_neg c1]
      by_cases c2 : s_N_at S 0 b < 0
      · rw [if_pos c2]
      · rw [if_neg c2]
        rw [lt32, z32] at c1 c2
        rw [if_pos ((h4.resolve_left c1).resolve_left c2)]
  by_cases hp : PM S a b
  · by_cases c : s_B_clashes S a b = 0
    · obtain ⟨g, g0, g1, g2⟩ := dist_g hB hp c
      have hb2 := hund_b hB hp c
      have hp0 : 1 ≤ (s_P_distance S a b 0).toInt := by
        rcases Int.lt_or_le 0 (s_P_distance S a b 0).toInt with q | q
        · omega
        · have := Int.mul_le_mul_of_nonneg_right q (show (0 : Int) ≤ g by omega); omega
      have m1 : (-9223372036854775808 : Int64).toInt = -9223372036854775808 := by decide
      have m2 : (-9223372036854775807 : Int64).toInt = -9223372036854775807 := by decide
      rw [if_neg (by rw [lcmp_eq, eq64, m1]; omega), if_neg (by rw [lcmp_eq, eq64, m2]; omega)]
      have hr := hr_i (S := S) (a := a) (b := b)
      by_cases c1 : s_N_at S 0 a < 0
      · rw [if_pos c1, s_L_isPair_b158]
        rw [lt32, z32] at c1
        exact isPair_b hB hp c 1 (Or.inr ⟨rfl, fun q => by have := (hr.mp q).1; omega⟩)
      · rw [if_neg c1]
        rw [lt32, z32] at c1
        by_cases c2 : 0 ≤ s_N_at S 0 b
        · rw [if_pos c2]
          rw [le32, z32] at c2
          exact isPair_b hB hp c 0 (Or.inl ⟨rfl, hr.mpr ⟨by omega, c2⟩⟩)
        · rw [if_neg c2, s_L_isPair_b158]
          rw [le32, z32] at c2
          exact isPair_b hB hp c 1 (Or.inr ⟨rfl, fun q => by have := (hr.mp q).2; omega⟩)
    · have e0 : ∀ x : Int32, ¬ s_P_isPart x = 0 → s_P_distance S a b x = -9223372036854775807 := fun x hx => by rw [s_P_distance, if_neg hx, if_neg (can_n hB hp), if_neg c]
      have e1 : s_P_ratio S a b 0 = -9223372036854775807 := by rw [s_P_ratio, if_neg isPt0, if_neg (can_n hB hp), if_neg c]
      have hcl := fun q => c ((cla_i hB hp).mpr q)
      have hr := hr_i (S := S) (a := a) (b := b)
      have t := tail _ (e0 0 isPt0) (e0 1 isPt1) e1 (Or.inr (fun q => hcl (Or.inl (hr.mp q)))) (by
        by_cases q1 : (s_N_at S 0 a).toInt < 0
        · exact Or.inl q1
        · by_cases q2 : (s_N_at S 0 b).toInt < 0
          · exact Or.inr (Or.inl q2)
          · exact absurd (Or.inl ⟨by omega, by omega⟩) hcl)
      rw [e0 0 isPt0, e0 1 isPt1] at t
      rw [e0 0 isPt0, e0 1 isPt1, if_neg (by rw [lcmp_eq]; exact lv_VC), if_pos (lcmp_eq.mpr rfl)]
      exact t
  · have hc0 := (can_i hB).mpr hp
    have e0 : ∀ x : Int32, ¬ s_P_isPart x = 0 → s_P_distance S a b x = -9223372036854775808 := fun x hx => by rw [s_P_distance, if_neg hx, if_pos hc0]
    have e1 : s_P_ratio S a b 0 = -9223372036854775808 := by rw [s_P_ratio, if_neg isPt0, if_pos hc0]
    have h4 : (s_N_at S 0 a).toInt < 0 ∨ (s_N_at S 0 b).toInt < 0 ∨ a = b := by
      by_cases q : a = b
      · exact Or.inr (Or.inr q)
      · by_cases q1 : (s_N_at S 0 a).toInt < 0
        · exact Or.inl q1
        · by_cases q2 : (s_N_at S 0 b).toInt < 0
          · exact Or.inr (Or.inl q2)
          · exact absurd ⟨ha, hb, q, fun z => q1 z.1⟩ hp
    have t := tail _ (e0 0 isPt0) (e0 1 isPt1) e1 (Or.inl hc0) h4
    rw [e0 0 isPt0, e0 1 isPt1] at t
    rw [e0 0 isPt0, e0 1 isPt1, if_pos (lcmp_eq.mpr rfl)]
    exact t
end pairs
