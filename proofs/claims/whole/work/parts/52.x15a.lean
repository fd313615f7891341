/-! the world that the constructors leave, as the relation has it -/
def st_g : List Nat := [0, 1, 2, 3, 4, 5, 6, 7, 8, 9, 10, 11, 12, 13, 14, 15, 16, 17, 18, 19, 20, 21, 22, 23, 24, 25, 26, 27, 28, 29, 30, 31, 32, 33, 34, 35, 36, 37, 38, 39, 40, 41, 42, 43, 45, 47, 49, 51, 46, 48, 50, 52, 44, 53, 54, 55, 56, 57, 58, 59, 60, 61, 62, 63, 64]
def st_L (q : Nat) (c a1 a2 a3 S T : Nat → Nat) (m : Nat) (d : Nat → Nat) : List Nat := [q, c 0, a1 1, a1 2, a1 3, a1 4, a1 5, a1 6, a1 7, a1 8, a1 9, a1 10, a1 11, a1 12, c 1, a2 1, a2 2, a2 3, a2 4, a2 5, a2 6, a2 7, a2 8, a2 9, a2 10, a2 11, a2 12, c 2, a3 1, a3 2, a3 3, a3 4, a3 5, a3 6, a3 7, a3 8, a3 9, a3 10, a3 11, a3 12, c 3, c 4, c 5, c 6, S 0, S 1, S 2, S 3, T 0, T 1, T 2, T 3, c 7, m, d 0, d 1, d 2, d 3, d 4, d 5, d 6, d 7, d 8, d 9, d 10]
def st_G (G : qx_G) (L : List Nat) : qx_G := (G.1, G.2.1, fun k => if k < 65 then L.getD k 0 else G.2.2 k)
def st_0 : qx_Sg := fun k =>
  if k = 1 ∨ k = 14 ∨ k = 27 then (fun j => if j = 2 then nI 1 else nI 0) else if k = 2 ∨ k = 15 ∨ k = 28 then z1 12 6 else if k = 4 ∨ k = 17 ∨ k = 30 then z1 (-1) 10
  else if (6 ≤ k ∧ k < 14) ∨ (19 ≤ k ∧ k < 27) ∨ (32 ≤ k ∧ k < 40) then (fun _ => nI 0) else if k = 54 then z0 6 10 else fun _ => 0
theorem st_Kn {G : qx_G} {L : List Nat} {U : State} (h : qx_Kn G U) : qx_Kn (st_G G L) U := by
  refine ⟨h.1, h.2.1, fun q hq => ?_⟩
  have e : qx_ad (st_G G L) (100 + q.2.2.2) = qx_ad G (100 + q.2.2.2) := if_neg (by omega)
  rw [e]
  exact h.2.2 q hq
theorem st_Cn {G : qx_G} {L : List Nat} {X : Nat → Prop} {U : State} {H : Heap} (h : qx_Cn G X U H) : qx_Cn (st_G G L) X U H := by
  have e : ∀ k, 65 ≤ k → qx_ad (st_G G L) k = qx_ad G k := fun k h => if_neg (by omega)
  have e1 : (fun i => qx_ad (st_G G L) (100 + i)) = fun i => qx_ad G (100 + i) := funext fun i => e _ (by omega)
  have e2 : (fun i => qx_ad (st_G G L) (120 + i)) = fun i => qx_ad G (120 + i) := funext fun i => e _ (by omega)
  unfold qx_Cn at h ⊢
  rw [e 90 (by omega), e 91 (by omega), e1, e2]
  exact h
theorem st_cell {cA : ClassId} {n : Nat} {f g : Nat → Value} (h : ∀ j, j < n → f j = g j) : arrV cA n f = arrV cA n g :=
  congrArg (fun F : Fin n → Value => ({ cls := cA, slots := Array.ofFn F, vm := .none } : Cell)) (funext fun j => h j.1 j.2)
theorem st_ai {D : va_G} {cl : List vw_C} {q : Nat} {cA : ClassId} {n : Nat} {f r : Nat → Int32} {H : Heap} (h : va_at D cl (q, .inl (cA, n, .inl f)) H) (e : ∀ j, j < n → f j = r j) : va_at D cl (q, .inl (cA, n, .inl (qx_cut n r))) H := by
  have h' : H[q]? = some (arrV cA n (fun j => .int (f j))) := h
  show H[q]? = some (arrV cA n (fun j => .int (qx_cut n r j)))
  rw [h', st_cell (g := fun j => .int (qx_cut n r j)) (fun j hj => congrArg Value.int ((e j hj).trans (if_pos hj).symm))]
theorem st_aq {D : va_G} {cl : List vw_C} {q : Nat} {cA : ClassId} {n : Nat} {f g : Nat → Option Nat} {H : Heap} (h : va_at D cl (q, .inl (cA, n, .inr (.inr (.inr (.inr f))))) H) (e : ∀ j, j < n → f j = g j) : va_at D cl (q, .inl (cA, n, .inr (.inr (.inr (.inr g))))) H := by
  have h' : H[q]? = some (arrV cA n (fun j => va_rf (f j))) := h
  show H[q]? = some (arrV cA n (fun j => va_rf (g j)))
  rw [h', st_cell (g := fun j => va_rf (g j)) (fun j hj => congrArg va_rf (e j hj))]
theorem st_cons {D : va_G} {cl : List vw_C} {x : Nat × va_E} {ws : va_W} {H : Heap} (h : va_at D cl x H) (t : va_P D cl ws H) : va_P D cl (x :: ws) H := fun k q hk =>
  match k, hk with
  | 0, hk => by cases hk; exact h
  | k + 1, hk => t k q hk
theorem st_fst {ws : va_W} {i n : Nat} (hl : ws.length = n) (hi : i < n) : ∃ e, ws[i]? = some ((ws.map Prod.fst).getD i 0, e) := by
  have h : i < ws.length := by omega
  refine ⟨ws[i].2, ?_⟩
  rw [List.getElem?_eq_getElem h]
  simp [List.getD, h]
theorem st_ij {ws : va_W} {X : Nat → Prop} (hD : va_D X ws) (hl : ws.length = 65) {i j : Nat} (hi : i < 65) (hj : j < 65) (e : (ws.map Prod.fst).getD i 0 = (ws.map Prod.fst).getD j 0) : i = j := by
  obtain ⟨x, hx⟩ := st_fst hl hi
  obtain ⟨y, hy⟩ := st_fst hl hj
  exact hD.1 i j _ _ hx hy e
theorem st_ad3 {G : qx_G} {ws : va_W} {L : List Nat} (e : L = st_g.map (fun i => (ws.map Prod.fst).getD i 0)) {k : Nat} (hk : k < 65) : qx_ad (st_G G L) k = (ws.map Prod.fst).getD (st_g.getD k 0) 0 := by
  have h1 : qx_ad (st_G G L) k = L.getD k 0 := if_pos hk
  have h2 : k < st_g.length := hk
  rw [h1, e]
  simp [List.getD, h2]
theorem st_g1 : ∀ k, k < 65 → st_g.getD k 0 < 65 := by decide +kernel
theorem st_g2 : ∀ i, i < 65 → ∀ j, j < 65 → st_g.getD i 0 = st_g.getD j 0 → i = j := by decide +kernel
theorem st_inj {G : qx_G} {ws : va_W} {L : List Nat} {X : Nat → Prop} (e : L = st_g.map (fun i => (ws.map Prod.fst).getD i 0)) (hl : ws.length = 65) (hD : va_D X ws) : qx_inj (st_G G L) ∧ ∀ k, k < 65 → X (qx_ad (st_G G L) k) := by
  refine ⟨fun i j hi hj h => ?_, fun k hk => ?_⟩
  · rw [st_ad3 e hi, st_ad3 e hj] at h
    exact st_g2 i hi j hj (st_ij hD hl (st_g1 i hi) (st_g1 j hj) h)
  · rw [st_ad3 e hk]
    obtain ⟨x, hx⟩ := st_fst hl (st_g1 k hk)
    exact hD.2 _ _ hx
theorem st_rel : rel st_0 := by
  refine ⟨⟨0, ⟨by decide, rfl, ⟨0, by decide, rfl⟩, ?_, fun b hb => absurd hb (Nat.not_lt_zero b), ?_⟩, ?_, ?_, ?_, ?_, fun b hb => absurd hb (Nat.not_lt_zero b)⟩, ⟨rfl, fun h => absurd rfl h⟩, ⟨⟨0, by decide, rfl, rfl⟩, rfl, fun i => (by decide : ¬ (0 : Int32) < 0)⟩, ?_, ⟨fun i hi => rfl, ?_⟩, ?_⟩
  · exact fun i hi => ⟨12, by decide, (by decide +kernel : ∀ i, i < 6 → st_0 54 (4 + i) = nI 12) i hi⟩
  · exact fun i hi => Or.inl ((by decide +kernel : ∀ i, i < 10 → st_0 54 (22 + i) = -1) i hi)
  · exact fun j hj => (by decide +kernel : ∀ j, j < 4 → st_0 1 j = st_0 54 (qx_pm j)) j hj
  · exact fun j hj => (by decide +kernel : ∀ j, j < 6 → st_0 (1 + 1) j = st_0 54 (4 + j)) j hj
  · exact fun j hj => (by decide +kernel : ∀ j, j < 12 → st_0 (1 + 2) j = st_0 54 (10 + j)) j hj
  · exact fun j hj => (by decide +kernel : ∀ j, j < 10 → st_0 (1 + 3) j = st_0 54 (22 + j)) j hj
  · intro s hs
    rcases (show s = 0 ∨ s = 1 ∨ s = 2 ∨ s = 3 by omega) with rfl | rfl | rfl | rfl <;> exact ⟨rfl, rfl, fun i hi => rfl⟩
  · decide +kernel
  · intro s hs
    rcases (show s = 0 ∨ s = 1 ∨ s = 2 ∨ s = 3 by omega) with rfl | rfl | rfl | rfl <;> exact ⟨Or.inl rfl, 0, by decide, rfl⟩
set_option maxHeartbeats 8000000 in
set_option maxRecDepth 100000 in
theorem st_W {G : qx_G} {H : Heap} {q m : Nat} {c a1 a2 a3 S T d : Nat → Nat} {f1 f2 f3 g h : Nat → Option Nat} (w1 : ∀ i, i < 8 → f1 i = some (a1 (5 + i))) (w2 : ∀ i, i < 8 → f2 i = some (a2 (5 + i))) (w3 : ∀ i, i < 8 → f3 i = some (a3 (5 + i))) (w4 : ∀ i, i < 4 → g i = some (S i)) (w5 : ∀ i, i < 7 → h i = some (qx_ad G (100 + i))) (hP : va_P G.1 vwCl (nB G q c a1 a2 a3 S T f1 f2 f3 g ++ nM G m d h) H) : va_P G.1 vwCl (qx_W (st_G G (st_L q c a1 a2 a3 S T m d)) st_0) H := by
  show va_P G.1 vwCl ((List.range 65).map (fun k => (qx_ad (st_G G (st_L q c a1 a2 a3 S T m d)) k, qx_F (st_G G (st_L q c a1 a2 a3 S T m d)) k (st_0 k)))) H
  rw [show List.range 65 = [0, 1, 2, 3, 4, 5, 6, 7, 8, 9, 10, 11, 12, 13, 14, 15, 16, 17, 18, 19, 20, 21, 22, 23, 24, 25, 26, 27, 28, 29, 30, 31, 32, 33, 34, 35, 36, 37, 38, 39, 40, 41, 42, 43, 44, 45, 46, 47, 48, 49, 50, 51, 52, 53, 54, 55, 56, 57, 58, 59, 60, 61, 62, 63, 64] from rfl]
  refine st_cons (hP 0 _ rfl) ?_
  refine st_cons (hP 1 _ rfl) ?_
  refine st_cons (st_ai (hP 2 _ rfl) (fun j _ => rfl)) ?_
  refine st_cons (st_ai (hP 3 _ rfl) (fun j _ => rfl)) ?_
  refine st_cons (st_ai (hP 4 _ rfl) (fun j _ => rfl)) ?_
  refine st_cons (st_aq (hP 5 _ rfl) (n_8 (w1 0 (by decide)) (w1 1 (by decide)) (w1 2 (by decide)) (w1 3 (by decide)) (w1 4 (by decide)) (w1 5 (by decide)) (w1 6 (by decide)) (w1 7 (by decide)))) ?_
  refine st_cons (hP 6 _ rfl) ?_
  refine st_cons (hP 7 _ rfl) ?_
  refine st_cons (hP 8 _ rfl) ?_
  refine st_cons (hP 9 _ rfl) ?_
  refine st_cons (hP 10 _ rfl) ?_
  refine st_cons (hP 11 _ rfl) ?_
  refine st_cons (hP 12 _ rfl) ?_
  refine st_cons (hP 13 _ rfl) ?_
  refine st_cons (hP 14 _ rfl) ?_
  refine st_cons (st_ai (hP 15 _ rfl) (fun j _ => rfl)) ?_
  refine st_cons (st_ai (hP 16 _ rfl) (fun j _ => rfl)) ?_
  refine st_cons (st_ai (hP 17 _ rfl) (fun j _ => rfl)) ?_
  refine st_cons (st_aq (hP 18 _ rfl) (n_8 (w2 0 (by decide)) (w2 1 (by decide)) (w2 2 (by decide)) (w2 3 (by decide)) (w2 4 (by decide)) (w2 5 (by decide)) (w2 6 (by decide)) (w2 7 (by decide)))) ?_
  refine st_cons (hP 19 _ rfl) ?_
  refine st_cons (hP 20 _ rfl) ?_
  refine st_cons (hP 21 _ rfl) ?_
  refine st_cons (hP 22 _ rfl) ?_
  refine st_cons (hP 23 _ rfl) ?_
  refine st_cons (hP 24 _ rfl) ?_
  refine st_cons (hP 25 _ rfl) ?_
  refine st_cons (hP 26 _ rfl) ?_
  refine st_cons (hP 27 _ rfl) ?_
  refine st_cons (st_ai (hP 28 _ rfl) (fun j _ => rfl)) ?_
  refine st_cons (st_ai (hP 29 _ rfl) (fun j _ => rfl)) ?_
  refine st_cons (st_ai (hP 30 _ rfl) (fun j _ => rfl)) ?_
  refine st_cons (st_aq (hP 31 _ rfl) (n_8 (w3 0 (by decide)) (w3 1 (by decide)) (w3 2 (by decide)) (w3 3 (by decide)) (w3 4 (by decide)) (w3 5 (by decide)) (w3 6 (by decide)) (w3 7 (by decide)))) ?_
  refine st_cons (hP 32 _ rfl) ?_
  refine st_cons (hP 33 _ rfl) ?_
  refine st_cons (hP 34 _ rfl) ?_
  refine st_cons (hP 35 _ rfl) ?_
  refine st_cons (hP 36 _ rfl) ?_
  refine st_cons (hP 37 _ rfl) ?_
  refine st_cons (hP 38 _ rfl) ?_
  refine st_cons (hP 39 _ rfl) ?_
  refine st_cons (hP 40 _ rfl) ?_
  refine st_cons (st_ai (hP 41 _ rfl) (fun j _ => rfl)) ?_
  refine st_cons (hP 42 _ rfl) ?_
  refine st_cons (st_aq (hP 43 _ rfl) (n_4 (w4 0 (by decide)) (w4 1 (by decide)) (w4 2 (by decide)) (w4 3 (by decide)))) ?_
  refine st_cons (hP 45 _ rfl) ?_
  refine st_cons (hP 47 _ rfl) ?_
  refine st_cons (hP 49 _ rfl) ?_
  refine st_cons (hP 51 _ rfl) ?_
  refine st_cons (st_ai (hP 46 _ rfl) (fun j _ => rfl)) ?_
  refine st_cons (st_ai (hP 48 _ rfl) (fun j _ => rfl)) ?_
  refine st_cons (st_ai (hP 50 _ rfl) (fun j _ => rfl)) ?_
  refine st_cons (st_ai (hP 52 _ rfl) (fun j _ => rfl)) ?_
  refine st_cons (st_ai (hP 44 _ rfl) (fun j _ => rfl)) ?_
  refine st_cons (hP 53 _ rfl) ?_
  refine st_cons (st_ai (hP 54 _ rfl) (fun j _ => rfl)) ?_
  refine st_cons (st_ai (hP 55 _ rfl) (fun j _ => rfl)) ?_
  refine st_cons (st_ai (hP 56 _ rfl) (fun j _ => rfl)) ?_
  refine st_cons (st_ai (hP 57 _ rfl) (fun j _ => rfl)) ?_
  refine st_cons (st_ai (hP 58 _ rfl) (fun j _ => rfl)) ?_
  refine st_cons (st_aq (hP 59 _ rfl) (n_7 (w5 0 (by decide)) (w5 1 (by decide)) (w5 2 (by decide)) (w5 3 (by decide)) (w5 4 (by decide)) (w5 5 (by decide)) (w5 6 (by decide)))) ?_
  refine st_cons (st_ai (hP 60 _ rfl) (fun j _ => rfl)) ?_
  refine st_cons (st_ai (hP 61 _ rfl) (fun j _ => rfl)) ?_
  refine st_cons (st_ai (hP 62 _ rfl) (fun j _ => rfl)) ?_
  refine st_cons (st_ai (hP 63 _ rfl) (fun j _ => rfl)) ?_
  refine st_cons (st_ai (hP 64 _ rfl) (fun j _ => rfl)) ?_
  exact fun k q hk => by cases hk
def st_WL (q : Nat) (c a1 a2 a3 S T : Nat → Nat) (m : Nat) (d : Nat → Nat) : List Nat := [q, c 0, a1 1, a1 2, a1 3, a1 4, a1 5, a1 6, a1 7, a1 8, a1 9, a1 10, a1 11, a1 12, c 1, a2 1, a2 2, a2 3, a2 4, a2 5, a2 6, a2 7, a2 8, a2 9, a2 10, a2 11, a2 12, c 2, a3 1, a3 2, a3 3, a3 4, a3 5, a3 6, a3 7, a3 8, a3 9, a3 10, a3 11, a3 12, c 3, c 4, c 5, c 6, c 7, S 0, T 0, S 1, T 1, S 2, T 2, S 3, T 3, m, d 0, d 1, d 2, d 3, d 4, d 5, d 6, d 7, d 8, d 9, d 10]
theorem st_WLe {G : qx_G} {q m : Nat} {c a1 a2 a3 S T d : Nat → Nat} {f1 f2 f3 g h : Nat → Option Nat} : (nB G q c a1 a2 a3 S T f1 f2 f3 g ++ nM G m d h).map Prod.fst = st_WL q c a1 a2 a3 S T m d := by
  simp only [nB, nL, nM, st_WL, List.cons_append, List.nil_append, List.map_cons, List.map_nil]
theorem st_L_eq0 {q m : Nat} {c a1 a2 a3 S T d : Nat → Nat} : st_L q c a1 a2 a3 S T m d = st_g.map (fun i => (st_WL q c a1 a2 a3 S T m d).getD i 0) := by
  simp only [st_g, st_L, st_WL, List.map_cons, List.map_nil, List.getD_cons_succ, List.getD_cons_zero]
theorem st_L_eq {G : qx_G} {q m : Nat} {c a1 a2 a3 S T d : Nat → Nat} {f1 f2 f3 g h : Nat → Option Nat} : st_L q c a1 a2 a3 S T m d = st_g.map (fun i => ((nB G q c a1 a2 a3 S T f1 f2 f3 g ++ nM G m d h).map Prod.fst).getD i 0) := by
  rw [st_WLe]
  exact st_L_eq0
theorem st_len {G : qx_G} {q m : Nat} {c a1 a2 a3 S T d : Nat → Nat} {f1 f2 f3 g h : Nat → Option Nat} : (nB G q c a1 a2 a3 S T f1 f2 f3 g ++ nM G m d h).length = 65 := by
  rw [← List.length_map (f := Prod.fst), st_WLe]
  rfl
