/-! the law from its entry -/
def cP (E : Cx) (h : Nat) (u : Nat → Nat) : va_W := [(h, .inr (5, [.ref (u 0), .ref (u 9), .ref (u 18), .int (0 : Int32), .ref (u 27), .ref (u 36), .ref (u 43)])), ((u 0), .inr (0, [.ref (u 1), .ref (u 3), .ref (u 5), .ref (u 7), .int (1 : Int32)])), ((u 1), .inr (1, [.ref (u 2), .int (0 : Int32)])), ((u 2), .inl (E.2.1, 16, .inl (fun _ => 0))), ((u 3), .inr (1, [.ref (u 4), .int (0 : Int32)])), ((u 4), .inl (E.2.1, 16, .inl (fun _ => 0))), ((u 5), .inr (1, [.ref (u 6), .int (0 : Int32)])), ((u 6), .inl (E.2.1, 9, .inl (fun _ => 0))), ((u 7), .inr (1, [.ref (u 8), .int (0 : Int32)])), ((u 8), .inl (E.2.1, 9, .inl (fun _ => 0))), ((u 9), .inr (0, [.ref (u 10), .ref (u 12), .ref (u 14), .ref (u 16), .int (1 : Int32)])), ((u 10), .inr (1, [.ref (u 11), .int (0 : Int32)])), ((u 11), .inl (E.2.1, 16, .inl (fun _ => 0))), ((u 12), .inr (1, [.ref (u 13), .int (0 : Int32)])), ((u 13), .inl (E.2.1, 16, .inl (fun _ => 0))), ((u 14), .inr (1, [.ref (u 15), .int (0 : Int32)])), ((u 15), .inl (E.2.1, 9, .inl (fun _ => 0))), ((u 16), .inr (1, [.ref (u 17), .int (0 : Int32)])), ((u 17), .inl (E.2.1, 9, .inl (fun _ => 0))), ((u 18), .inr (0, [.ref (u 19), .ref (u 21), .ref (u 23), .ref (u 25), .int (1 : Int32)])), ((u 19), .inr (1, [.ref (u 20), .int (0 : Int32)])), ((u 20), .inl (E.2.1, 16, .inl (fun _ => 0))), ((u 21), .inr (1, [.ref (u 22), .int (0 : Int32)])), ((u 22), .inl (E.2.1, 16, .inl (fun _ => 0))), ((u 23), .inr (1, [.ref (u 24), .int (0 : Int32)])), ((u 24), .inl (E.2.1, 9, .inl (fun _ => 0))), ((u 25), .inr (1, [.ref (u 26), .int (0 : Int32)])), ((u 26), .inl (E.2.1, 9, .inl (fun _ => 0))), ((u 27), .inr (4, [.ref (u 28), .ref (u 30), .ref (u 32), .ref (u 34), .int (0 : Int32), .int (0 : Int32)])), ((u 28), .inr (1, [.ref (u 29), .int (0 : Int32)])), ((u 29), .inl (E.2.1, 80, .inl (fun _ => 0))), ((u 30), .inr (1, [.ref (u 31), .int (0 : Int32)])), ((u 31), .inl (E.2.1, 40, .inl (fun _ => 0))), ((u 32), .inr (1, [.ref (u 33), .int (0 : Int32)])), ((u 33), .inl (E.2.1, 40, .inl (fun _ => 0))), ((u 34), .inr (1, [.ref (u 35), .int (0 : Int32)])), ((u 35), .inl (E.2.1, 40, .inl (fun _ => 0))), ((u 36), .inl (E.2.2.2, 3, .inr (.inr (.inr (.inr (va_up (va_up (va_up (fun _ => none) 0 (some (u 37))) 1 (some (u 39))) 2 (some (u 41)))))))), ((u 37), .inr (2, [.ref (u 38), .int (-1 : Int32)])), ((u 38), .inl (E.2.2.1, 20, .inr (.inl (fun _ => 0)))), ((u 39), .inr (2, [.ref (u 40), .int (-1 : Int32)])), ((u 40), .inl (E.2.2.1, 20, .inr (.inl (fun _ => 0)))), ((u 41), .inr (2, [.ref (u 42), .int (-1 : Int32)])), ((u 42), .inl (E.2.2.1, 20, .inr (.inl (fun _ => 0)))), ((u 43), .inr (3, [.int (1 : Int32), .int (1 : Int32), .int (1 : Int32), .int (0 : Int32), .int (0 : Int32), .int (0 : Int32), .int (0 : Int32)]))]
def cM (E : Cx) (h : Nat) (u : Nat → Nat) : va_W := [(h, .inr (6, [.ref (u 0), .ref (u 1), .ref (u 2), .ref (u 3), .ref (u 4), .int 0, .long 0, .long 0, .int 0, .int 0, .int 0, .ref (u 5), .ref (u 6), .ref (u 7), .ref (u 8), .int 0, .int 0, .int 0, .ref (u 9), .ref (u 10)])), ((u 0), .inl (E.2.1, 53, .inl (upd (fun _ => (0 : Int32)) 33 1))), ((u 1), .inl (E.2.1, 53, .inl (fun _ => 0))), ((u 2), .inl (E.2.1, 53, .inl (fun _ => 0))), ((u 3), .inl (E.2.1, 3, .inl sqF)), ((u 4), .inl (E.2.1, 9, .inl snF)), ((u 5), .inl (E.2.1, 80, .inl (fun _ => 0))), ((u 6), .inl (E.2.1, 41, .inl (fun _ => 0))), ((u 7), .inl (E.2.1, 41, .inl (fun _ => 0))), ((u 8), .inl (E.2.1, 41, .inl (fun _ => 0))), ((u 9), .inl (E.2.1, 3, .inl (upd (upd (upd (fun _ => (0 : Int32)) 0 (-1)) 1 (-1)) 2 (-1)))), ((u 10), .inl (E.2.2.1, 60, .inr (.inl (fun _ => 0))))]
def adP (h : Nat) (u : Nat → Nat) : Nat → Nat := fun k => ([u 1, u 2, u 3, u 4, u 5, u 6, u 7, u 8, u 10, u 11, u 12, u 13, u 14, u 15, u 16, u 17, u 19, u 20, u 21, u 22, u 23, u 24, u 25, u 26, u 28, u 29, u 30, u 31, u 32, u 33, u 34, u 35, u 37, u 38, u 39, u 40, u 41, u 42, u 36, h, u 0, u 9, u 18, u 27, u 43] : List Nat).getD k 0
def adM (h : Nat) (u : Nat → Nat) : Nat → Nat := fun k => ([h, u 0, u 1, u 2, u 3, u 4, u 5, u 6, u 7, u 8, u 9, u 10] : List Nat).getD k 0
def iS : St := (fun j => ([0, 0, 0, 0, 0, 0, 0, 0, 0, 0, 0, 0, 0, 0, 0, 0, -1, -1, -1, 1, 1, 1, 0, 0, 0, 1, 1, 1, 0, 0, 0, 0] : List Int32).getD j 0, fun _ _ => 0, fun _ _ => 0)
def iM : St := (fun _ => 0, fun r => ([upd (fun _ => (0 : Int32)) 33 1, fun _ => (0 : Int32), fun _ => (0 : Int32), fun _ => (0 : Int32), fun _ => (0 : Int32), fun _ => (0 : Int32), fun _ => (0 : Int32), upd (upd (upd (fun _ => (0 : Int32)) 0 (-1)) 1 (-1)) 2 (-1)] : List (Nat → Int32)).getD r (fun _ => 0), fun _ _ => 0)
theorem iRel : Rel iS iM := by
  have g0 : iM.2.1 0 0 = 0 := rfl
  have g3 : iM.2.1 0 33 = 1 := rfl
  have g4 : iM.2.1 0 34 = 0 := rfl
  have e1 : (1 : Int32).toInt = 1 := by decide
  refine ⟨⟨⟨?_, ?_, ?_, ?_, ?_⟩, ⟨rfl, rfl, rfl, rfl, rfl⟩, ?_, ?_⟩, ⟨rfl, Or.inl rfl⟩, ⟨rfl, ?_, ?_⟩, ?_⟩
  · rw [g0, z32]; omega
  · rw [g3, e1]; omega
  · rw [g4, z32]; omega
  · intro k hk; rw [g0, z32] at hk; omega
  · intro k hk; rw [g4, z32] at hk; omega
  · intro k hk; rw [g0, z32] at hk; omega
  · intro k hk; rw [g4, z32] at hk; omega
  · show 0 ≤ (0 : Int32).toInt ∧ (0 : Int32).toInt ≤ 80
    decide
  · intro k hk
    have hk : (k : Int) < (0 : Int32).toInt := hk
    rw [z32] at hk; omega
  · intro r hr
    match r, hr with
    | 0, _ => exact ⟨rfl, by decide, fun k hk => rfl⟩
    | 1, _ => exact ⟨rfl, by decide, fun k hk => rfl⟩
    | 2, _ => exact ⟨rfl, by decide, fun k hk => rfl⟩
    | r + 3, h => exact absurd h (by omega)
theorem arr_ext {cA : ClassId} {N : Nat} {f g : Nat → Value} (h : ∀ j : Nat, j < N → f j = g j) : arrV cA N f = arrV cA N g := by
  have e : (fun j : Fin N => f j.val) = fun j : Fin N => g j.val := funext (fun j => h j.val j.isLt)
  simp only [arrV, e]
/-- the three rows' row, as the picture has it -/
theorem row_cell {cA : ClassId} {h : Nat} {u : Nat → Nat} : vp_cell cA (3, .inr (.inr (.inr (.inr (va_up (va_up (va_up (fun _ => none) 0 (some (u 37))) 1 (some (u 39))) 2 (some (u 41))))))) = vp_cell cA (3, .inr (.inr (.inr (.inr (fun j => some (adP h u (32 + 2 * j))))))) := by
  rw [vp_cell_q, vp_cell_q]
  refine arr_ext (fun j hj => ?_)
  match j, hj with
  | 0, _ => rfl
  | 1, _ => rfl
  | 2, _ => rfl
  | j + 3, h => exact absurd h (by omega)
def wX (E : Cx) (h h2 : Nat) (u v : Nat → Nat) : va_W := (wb E (adP h u) iS).set 38 (u 36, .inl (E.2.2.2, 3, .inr (.inr (.inr (.inr (va_up (va_up (va_up (fun _ => none) 0 (some (u 37))) 1 (some (u 39))) 2 (some (u 41)))))))) ++ wm E (adM h2 v) iM
set_option maxRecDepth 20000 in
theorem pic_P {E : Cx} {h h2 : Nat} {u v : Nat → Nat} {H : Heap} (hP : va_P E.1 vwCl (cP E h u ++ cM E h2 v) H) : va_P E.1 vwCl (wX E h h2 u v) H := hP.sub [2, 3, 4, 5, 6, 7, 8, 9, 11, 12, 13, 14, 15, 16, 17, 18, 20, 21, 22, 23, 24, 25, 26, 27, 29, 30, 31, 32, 33, 34, 35, 36, 38, 39, 40, 41, 42, 43, 37, 0, 1, 10, 19, 28, 44, 45, 46, 47, 48, 49, 50, 51, 52, 53, 54, 55, 56] rfl
set_option maxRecDepth 20000 in
theorem pic_D {E : Cx} {h h2 : Nat} {u v : Nat → Nat} {A : Nat → Prop} (hD : va_D A (cP E h u ++ cM E h2 v)) : va_D A (wX E h h2 u v) := hD.sub [2, 3, 4, 5, 6, 7, 8, 9, 11, 12, 13, 14, 15, 16, 17, 18, 20, 21, 22, 23, 24, 25, 26, 27, 29, 30, 31, 32, 33, 34, 35, 36, 38, 39, 40, 41, 42, 43, 37, 0, 1, 10, 19, 28, 44, 45, 46, 47, 48, 49, 50, 51, 52, 53, 54, 55, 56] (by decide) rfl
theorem pic_DD {E : Cx} {h h2 : Nat} {u v : Nat → Nat} {A : Nat → Prop} (hD : va_D A (wX E h h2 u v)) (S M : St) : va_D A (wb E (adP h u) S ++ wm E (adM h2 v) M) := D_mp hD rfl
theorem pic_PP {E : Cx} {h h2 : Nat} {u v : Nat → Nat} {A : Nat → Prop} {H : Heap} (hP : va_P E.1 vwCl (wX E h h2 u v) H) (hD : va_D A (wX E h h2 u v)) : va_P E.1 vwCl (wb E (adP h u) iS ++ wm E (adM h2 v) iM) H := by
  have h38 : H[u 36]? = some (vp_cell E.2.2.2 (3, .inr (.inr (.inr (.inr (va_up (va_up (va_up (fun _ => none) 0 (some (u 37))) 1 (some (u 39))) 2 (some (u 41)))))))) := hP 38 _ rfl
  rw [row_cell (h := h)] at h38
  have hQ := va_P.set (p := 38) (a := u 36) (e := .inl (E.2.2.2, 3, .inr (.inr (.inr (.inr (fun j => some (adP h u (32 + 2 * j)))))))) (H1 := H) hP hD rfl h38 (fun _ _ => rfl)
  exact hQ
set_option maxHeartbeats 4000000 in
set_option maxRecDepth 20000 in
theorem whole_start {p : Program} {e : Env} {s : State} {m : MethodId} {below : List Frame} {meth : Method} {c : Code} (l : Launch) (hflags : l.flags = flags0) {b L : Nat} {xs : Nat → Int32} (hL : L ≤ 3072) (C0 : lw_At p s m meth c b L xs) : W p l e room_1 s m #[Value.ref b] below meth c s.heap [] 0 0 (lw_Z below #[Value.ref b] s) (entryFrame m ([Value.ref b] : List Value).toArray 4) := by
  obtain ⟨hx, hb, hr, hml, hown, hts0, hX, hbl, hlocks, hgv⟩ := C0
  have hown : s.vm.findClass R_L = some m.cls := hown
  have hts := law_tb hts0
  obtain ⟨E, hK, hO⟩ := law_E hts0
  have hA : ∀ q : Nat, s.heap.size ≤ q → LA s q := fun _ h => h
  have hS : va_S (LA s) s.heap s.heap [] := va_S.rf
  have hP : va_P E.1 vwCl ([] ++ []) s.heap := fun k q h => by simp at h
  have hD : va_D (LA s) ([] ++ []) := ⟨fun i j p q h => by simp at h, fun k q h => by simp at h⟩
  have hl := lv_entry ([.ref b]) (n := 4) (Nat.le_of_ble_eq_true rfl)
  rw [lg_entry_eq]
  generalize (lg_sl ([.ref b]) ++ List.replicate (4 - (lg_sl ([.ref b])).length) Slot.unset).toArray = ls at hl ⊢
  have hl : lv_has ls 4 [(0, .ref b)] := hl
  refine kc_new_L_P (W0 := []) (L := []) hx hb hts hown hK hP hD hS hA (Nat.le_of_ble_eq_true rfl) (Nat.le_of_ble_eq_true rfl) d_L_law_0 (fun x1 H hP hD hS => ?_)
  have hP : va_P E.1 vwCl ([] ++ [(x1, .inr (5, [.null, .null, .null, .int 0, .null, .null, .null]))]) H := hP
  have hD : va_D (LA s) ([] ++ [(x1, .inr (5, [.null, .null, .null, .int 0, .null, .null, .null]))]) := hD
  refine lv_dup hx hb d_L_law_3 rfl ?_
  refine k_ct (rest := [.ref x1]) (c_P_init l E (LA s) [] x1) mi_P_init ml_L_9 rfl hx hb hml hts hown hK hP hD hA hO hS hl ⟨rfl, rfl⟩ ⟨(Nat.le_of_ble_eq_true rfl), (Nat.le_of_ble_eq_true rfl)⟩ ⟨(Nat.le_of_ble_eq_true rfl), (Nat.le_of_ble_eq_true rfl)⟩ rfl (Nat.le_of_ble_eq_true rfl) rfl d_L_law_4 (fun u H locs hP hD hS => ?_)
  have hP : va_P E.1 vwCl (cP E x1 u ++ []) H := by rw [List.append_nil]; exact hP
  have hD : va_D (LA s) (cP E x1 u ++ []) := by rw [List.append_nil]; exact hD
  refine lv_astore_n (lv' := [(1, .ref x1), (0, .ref b)]) hx hb d_L_law_7 rfl hl (by decide) rfl (fun ls hl => ?_)
  refine kc_new_L_M (W0 := cP E x1 u) (L := []) hx hb hts hown hK hP hD hS hA (Nat.le_of_ble_eq_true rfl) (Nat.le_of_ble_eq_true rfl) d_L_law_8 (fun x2 H hP hD hS => ?_)
  have hP : va_P E.1 vwCl (cP E x1 u ++ [(x2, .inr (6, [.null, .null, .null, .null, .null, .int 0, .long 0, .long 0, .int 0, .int 0, .int 0, .null, .null, .null, .null, .int 0, .int 0, .int 0, .null, .null]))]) H := hP
  have hD : va_D (LA s) (cP E x1 u ++ [(x2, .inr (6, [.null, .null, .null, .null, .null, .int 0, .long 0, .long 0, .int 0, .int 0, .int 0, .null, .null, .null, .null, .int 0, .int 0, .int 0, .null, .null]))]) := hD
  refine lv_dup hx hb d_L_law_11 rfl ?_
  refine k_ct (rest := [.ref x2]) (c_M_init l E (LA s) (cP E x1 u) x2) mi_M_init ml_L_12 rfl hx hb hml hts hown hK hP hD hA hO hS hl ⟨rfl, rfl⟩ ⟨(Nat.le_of_ble_eq_true rfl), (Nat.le_of_ble_eq_true rfl)⟩ ⟨(Nat.le_of_ble_eq_true rfl), (Nat.le_of_ble_eq_true rfl)⟩ rfl (Nat.le_of_ble_eq_true rfl) rfl d_L_law_12 (fun v H locs hP hD hS => ?_)
  have hP1 : va_P E.1 vwCl (cP E x1 u ++ cM E x2 v) H := hP
  have hD1 : va_D (LA s) (cP E x1 u ++ cM E x2 v) := hD
  have hD2 := pic_D hD1
  have hP2 := pic_PP (pic_P hP1) hD2
  refine lv_astore_n (lv' := [(2, .ref x2), (1, .ref x1), (0, .ref b)]) hx hb d_L_law_15 rfl hl (by decide) rfl (fun ls hl => ?_)
  refine lv_iconst (v := (0 : Int32)) hx hb d_L_law_16 rfl ?_
  refine lv_istore_n (lv' := [(3, .int (0 : Int32)), (2, .ref x2), (1, .ref x1), (0, .ref b)]) hx hb d_L_law_17 rfl hl (by decide) rfl (fun ls hl => ?_)
  refine W.widen (k := 600000) (n := 7302249) (Nat.le_of_ble_eq_true rfl) (Nat.le_of_ble_eq_true rfl) ?_
  have C : LC p s m c b L xs E (adP x1 u) (adM x2 v) := ⟨hx, hb, hml, hown, hts, hX, hbl, hK, pic_DD hD2⟩
  exact law_loop C hr hlocks hL (L + 7) 0 iS iM H locs ls (by decide) (by rw [z32]; omega) (by rw [z32]; omega) iRel hP2 hS (lv_sub hl [3, 2, 1, 0] rfl)
