/-! a library's row of 88 numbers v, in the cells from L on; N busts of it live -/
def qx_pm (j : Nat) : Nat := if j = 0 then 0 else if j = 1 then 3 else if j = 2 then 2 else 1
def qL (σ : qx_Sg) (L N : Nat) (v : Nat → Int32) : qx_Sg := fun k =>
  if k = L then (fun j => v (qx_pm j)) else if k = L + 1 then (fun i => v (4 + i)) else if k = L + 2 then (fun i => v (10 + i)) else if k = L + 3 then (fun i => v (22 + i))
  else if L + 5 ≤ k ∧ k < L + 5 + N then (fun f => v (32 + 7 * (k - (L + 5)) + f)) else σ k
def z_row (v : Nat → Int32) (b : Nat) : Nat → Int32 := fun f => v (32 + 7 * b + f)
section qL_rows
variable {σ : qx_Sg} {L N : Nat} {v : Nat → Int32}
theorem qL_0 : qL σ L N v L = fun j => v (qx_pm j) := if_pos rfl
theorem qL_1 : qL σ L N v (L + 1) = fun i => v (4 + i) := by simp [qL]
theorem qL_2 : qL σ L N v (L + 2) = fun i => v (10 + i) := by simp [qL]
theorem qL_3 : qL σ L N v (L + 3) = fun i => v (22 + i) := by simp [qL]
theorem qL_b {b : Nat} (hb : b < N) : qL σ L N v (L + 5 + b) = z_row v b := by
  unfold qL z_row
  rw [if_neg (by omega), if_neg (by omega), if_neg (by omega), if_neg (by omega), if_pos ⟨by omega, by omega⟩]
  funext f
  rw [show L + 5 + b - (L + 5) = b by omega]
theorem qL_s {b : Nat} (hb : N ≤ b) : qL σ L N v (L + 5 + b) = σ (L + 5 + b) := by
  unfold qL
  rw [if_neg (by omega), if_neg (by omega), if_neg (by omega), if_neg (by omega), if_neg (by omega)]
theorem qL_o {k : Nat} (hk : k < L ∨ L + 5 + N ≤ k ∨ k = L + 4) (h4 : ¬ (L ≤ k ∧ k < L + 4)) : qL σ L N v k = σ k := by
  unfold qL
  rw [if_neg (by omega), if_neg (by omega), if_neg (by omega), if_neg (by omega), if_neg (by omega)]
theorem qL_j0 : qL σ L N v L 0 = v 0 := congrFun qL_0 0
theorem qL_j1 : qL σ L N v L 1 = v 3 := congrFun qL_0 1
theorem qL_j2 : qL σ L N v L 2 = v 2 := congrFun qL_0 2
theorem qL_j3 : qL σ L N v L 3 = v 1 := congrFun qL_0 3
theorem qL_a1 (i : Nat) : qL σ L N v (L + 1) i = v (4 + i) := congrFun qL_1 i
theorem qL_a2 (i : Nat) : qL σ L N v (L + 2) i = v (10 + i) := congrFun qL_2 i
theorem qL_a3 (i : Nat) : qL σ L N v (L + 3) i = v (22 + i) := congrFun qL_3 i
theorem qL_bf {b : Nat} (hb : b < N) (f : Nat) : qL σ L N v (L + 5 + b) f = v (32 + 7 * b + f) := congrFun (qL_b hb) f
end qL_rows
theorem qx_cut_ext {n : Nat} {r r' : Nat → Int32} (h : ∀ i, i < n → r i = r' i) : qx_cut n r = qx_cut n r' := by
  funext i
  unfold qx_cut
  by_cases hi : i < n
  · rw [if_pos hi, if_pos hi, h i hi]
  · rw [if_neg hi, if_neg hi]
theorem qx_ia_ext {G : qx_G} {n : Nat} {r r' : Nat → Int32} (h : ∀ i, i < n → r i = r' i) : qx_ia G n r = qx_ia G n r' := by
  unfold qx_ia
  rw [qx_cut_ext h]
theorem qx_li_ext {G : qx_G} {k : Nat} {r r' : Nat → Int32} (h : ∀ i, i < 4 → r i = r' i) : qx_li G k r = qx_li G k r' := by
  unfold qx_li
  rw [h 0 (by omega), h 1 (by omega), h 2 (by omega), h 3 (by omega)]
/-- worlds that agree on a library's cells, and are the same elsewhere -/
theorem qL_world {G : qx_G} {L : Nat} (hL : qx_isL L) {τ τ' : qx_Sg} (h0 : ∀ j, j < 4 → τ L j = τ' L j) (h1 : ∀ i, i < 6 → τ (L + 1) i = τ' (L + 1) i) (h2 : ∀ i, i < 12 → τ (L + 2) i = τ' (L + 2) i) (h3 : ∀ i, i < 10 → τ (L + 3) i = τ' (L + 3) i)
    (h5 : ∀ b, b < 8 → ∀ f, f < 7 → τ (L + 5 + b) f = τ' (L + 5 + b) f) (ho : ∀ k, k < L ∨ L + 13 ≤ k → τ k = τ' k) : ∀ k, k < 65 → qx_F G k (τ k) = qx_F G k (τ' k) := by
  intro k hk
  by_cases hin : L ≤ k ∧ k < L + 13
  · obtain ⟨e, he, rfl⟩ : ∃ e, e < 13 ∧ k = L + e := ⟨k - L, by omega, by omega⟩
    by_cases h : e = 0
    · subst h; rw [Nat.add_zero, qx_Fl hL, qx_Fl hL]; exact qx_li_ext h0
    by_cases h : e = 1
    · subst h; rw [qx_Fl1 hL, qx_Fl1 hL]; exact qx_ia_ext h1
    by_cases h : e = 2
    · subst h; rw [qx_Fl2 hL, qx_Fl2 hL]; exact qx_ia_ext h2
    by_cases h : e = 3
    · subst h; rw [qx_Fl3 hL, qx_Fl3 hL]; exact qx_ia_ext h3
    by_cases h : e = 4
    · subst h; rw [qx_Fl4 hL, qx_Fl4 hL]
    obtain ⟨b, hb, rfl⟩ : ∃ b, b < 8 ∧ e = 5 + b := ⟨e - 5, by omega, by omega⟩
    rw [← Nat.add_assoc, qx_Fl5 hL hb, qx_Fl5 hL hb]
    exact qx_bu_ext (h5 b hb)
  · rw [ho k (by omega)]
section qL_writes
variable {G : qx_G} {σ : qx_Sg} {L N : Nat} {v : Nat → Int32}
theorem upd_ne {f : Nat → Int32} {k j : Nat} {x : Int32} (h : ¬ j = k) : upd f k x j = f j := if_neg h
theorem upd_eq {f : Nat → Int32} {k : Nat} {x : Int32} : upd f k x k = x := if_pos rfl
theorem qL_same (hL : qx_isL L) (hN8 : N ≤ 8) {τ : qx_Sg} {v' : Nat → Int32} (h0 : ∀ j, j < 4 → τ L j = v' (qx_pm j)) (h1 : ∀ i, i < 6 → τ (L + 1) i = v' (4 + i)) (h2 : ∀ i, i < 12 → τ (L + 2) i = v' (10 + i)) (h3 : ∀ i, i < 10 → τ (L + 3) i = v' (22 + i))
    (h5 : ∀ b, b < N → ∀ f, f < 7 → τ (L + 5 + b) f = v' (32 + 7 * b + f)) (h6 : ∀ b, N ≤ b → b < 8 → τ (L + 5 + b) = σ (L + 5 + b)) (ho : ∀ k, k < L ∨ L + 13 ≤ k → τ k = σ k) : ∀ k, k < 65 → qx_F G k (τ k) = qx_F G k (qL σ L N v' k) := by
  refine qL_world hL (fun j hj => by rw [qL_0]; exact h0 j hj) (fun i hi => by rw [qL_1]; exact h1 i hi) (fun i hi => by rw [qL_2]; exact h2 i hi) (fun i hi => by rw [qL_3]; exact h3 i hi) (fun b hb f hf => ?_) (fun k hk => by rw [qL_o (by omega) (by omega)]; exact ho k hk)
  rcases Nat.lt_or_ge b N with h | h
  · rw [qL_b h]; exact h5 b h f hf
  · rw [qL_s h, h6 b h hb]
/-- day, left, z are written -/
theorem qL_w0 (hL : qx_isL L) (hN8 : N ≤ 8) (j : Nat) (hj : j < 3) (x : Int32) : ∀ k, k < 65 → qx_F G k (va_up (qL σ L N v) L (upd (qL σ L N v L) j x) k) = qx_F G k (qL σ L N (upd v (qx_pm j) x) k) := by
  have hp : qx_pm j < 4 := by unfold qx_pm; split; omega; split; omega; split <;> omega
  refine qL_same hL hN8 (fun i hi => ?_) (fun i hi => ?_) (fun i hi => ?_) (fun i hi => ?_) (fun b hb f hf => ?_) (fun b hb hb8 => ?_) (fun k hk => ?_)
  · rw [qx_up_eq]
    by_cases e : i = j
    · subst e; rw [upd_eq, upd_eq]
    · rw [upd_ne e, upd_ne, qL_0]
      unfold qx_pm
      have : i = 0 ∨ i = 1 ∨ i = 2 ∨ i = 3 := by omega
      have : j = 0 ∨ j = 1 ∨ j = 2 := by omega
      rcases ‹i = 0 ∨ i = 1 ∨ i = 2 ∨ i = 3› with rfl | rfl | rfl | rfl <;> rcases ‹j = 0 ∨ j = 1 ∨ j = 2› with rfl | rfl | rfl <;> simp_all
  · rw [qx_up_ne (by omega), qL_1, upd_ne (by omega)]
  · rw [qx_up_ne (by omega), qL_2, upd_ne (by omega)]
  · rw [qx_up_ne (by omega), qL_3, upd_ne (by omega)]
  · rw [qx_up_ne (by omega), qL_b hb, upd_ne (by omega)]; rfl
  · rw [qx_up_ne (by omega), qL_s hb]
  · rw [qx_up_ne (by omega), qL_o (by omega) (by omega)]
theorem qL_w1 (hL : qx_isL L) (hN8 : N ≤ 8) (i : Nat) (hi : i < 6) (x : Int32) : ∀ k, k < 65 → qx_F G k (va_up (qL σ L N v) (L + 1) (upd (qL σ L N v (L + 1)) i x) k) = qx_F G k (qL σ L N (upd v (4 + i) x) k) := by
  refine qL_same hL hN8 (fun j hj => ?_) (fun j hj => ?_) (fun j hj => ?_) (fun j hj => ?_) (fun b hb f hf => ?_) (fun b hb hb8 => ?_) (fun k hk => ?_)
  · rw [qx_up_ne (by omega), qL_0, upd_ne (by unfold qx_pm; split; omega; split; omega; split <;> omega)]
  · rw [qx_up_eq, qL_1]
    by_cases e : j = i
    · subst e; rw [upd_eq, upd_eq]
    · rw [upd_ne e, upd_ne (by omega)]
  · rw [qx_up_ne (by omega), qL_2, upd_ne (by omega)]
  · rw [qx_up_ne (by omega), qL_3, upd_ne (by omega)]
  · rw [qx_up_ne (by omega), qL_b hb, upd_ne (by omega)]; rfl
  · rw [qx_up_ne (by omega), qL_s hb]
  · rw [qx_up_ne (by omega), qL_o (by omega) (by omega)]
theorem qL_w2 (hL : qx_isL L) (hN8 : N ≤ 8) (i : Nat) (hi : i < 12) (x : Int32) : ∀ k, k < 65 → qx_F G k (va_up (qL σ L N v) (L + 2) (upd (qL σ L N v (L + 2)) i x) k) = qx_F G k (qL σ L N (upd v (10 + i) x) k) := by
  refine qL_same hL hN8 (fun j hj => ?_) (fun j hj => ?_) (fun j hj => ?_) (fun j hj => ?_) (fun b hb f hf => ?_) (fun b hb hb8 => ?_) (fun k hk => ?_)
  · rw [qx_up_ne (by omega), qL_0, upd_ne (by unfold qx_pm; split; omega; split; omega; split <;> omega)]
  · rw [qx_up_ne (by omega), qL_1, upd_ne (by omega)]
  · rw [qx_up_eq, qL_2]
    by_cases e : j = i
    · subst e; rw [upd_eq, upd_eq]
    · rw [upd_ne e, upd_ne (by omega)]
  · rw [qx_up_ne (by omega), qL_3, upd_ne (by omega)]
  · rw [qx_up_ne (by omega), qL_b hb, upd_ne (by omega)]; rfl
  · rw [qx_up_ne (by omega), qL_s hb]
  · rw [qx_up_ne (by omega), qL_o (by omega) (by omega)]
theorem qL_w3 (hL : qx_isL L) (hN8 : N ≤ 8) (i : Nat) (hi : i < 10) (x : Int32) : ∀ k, k < 65 → qx_F G k (va_up (qL σ L N v) (L + 3) (upd (qL σ L N v (L + 3)) i x) k) = qx_F G k (qL σ L N (upd v (22 + i) x) k) := by
  refine qL_same hL hN8 (fun j hj => ?_) (fun j hj => ?_) (fun j hj => ?_) (fun j hj => ?_) (fun b hb f hf => ?_) (fun b hb hb8 => ?_) (fun k hk => ?_)
  · rw [qx_up_ne (by omega), qL_0, upd_ne (by unfold qx_pm; split; omega; split; omega; split <;> omega)]
  · rw [qx_up_ne (by omega), qL_1, upd_ne (by omega)]
  · rw [qx_up_ne (by omega), qL_2, upd_ne (by omega)]
  · rw [qx_up_eq, qL_3]
    by_cases e : j = i
    · subst e; rw [upd_eq, upd_eq]
    · rw [upd_ne e, upd_ne (by omega)]
  · rw [qx_up_ne (by omega), qL_b hb, upd_ne (by omega)]; rfl
  · rw [qx_up_ne (by omega), qL_s hb]
  · rw [qx_up_ne (by omega), qL_o (by omega) (by omega)]
theorem qL_wb (hL : qx_isL L) (hN8 : N ≤ 8) {b : Nat} (hb : b < N) (j : Nat) (hj : j < 7) (x : Int32) : ∀ k, k < 65 → qx_F G k (va_up (qL σ L N v) (L + 5 + b) (upd (qL σ L N v (L + 5 + b)) j x) k) = qx_F G k (qL σ L N (upd v (32 + 7 * b + j) x) k) := by
  refine qL_same hL hN8 (fun i hi => ?_) (fun i hi => ?_) (fun i hi => ?_) (fun i hi => ?_) (fun c hc f hf => ?_) (fun c hc hc8 => ?_) (fun k hk => ?_)
  · rw [qx_up_ne (by omega), qL_0, upd_ne (by unfold qx_pm; split; omega; split; omega; split <;> omega)]
  · rw [qx_up_ne (by omega), qL_1, upd_ne (by omega)]
  · rw [qx_up_ne (by omega), qL_2, upd_ne (by omega)]
  · rw [qx_up_ne (by omega), qL_3, upd_ne (by omega)]
  · by_cases e : c = b
    · subst e
      rw [qx_up_eq, qL_b hb]
      by_cases e2 : f = j
      · subst e2; rw [upd_eq, upd_eq]
      · rw [upd_ne e2, upd_ne (by omega)]; rfl
    · rw [qx_up_ne (by omega), qL_b hc, upd_ne (by omega)]; rfl
  · rw [qx_up_ne (by omega), qL_s hc]
  · rw [qx_up_ne (by omega), qL_o (by omega) (by omega)]
end qL_writes
theorem qx_isB.of {L b : Nat} (hL : qx_isL L) (hb : b < 8) : qx_isB (L + 5 + b) := ⟨L, b, hL, hb, rfl⟩
theorem qx_isL.l1 {k : Nat} (h : qx_isL k) : k + 1 < 65 := by have := h.lt; omega
theorem qx_isL.l2 {k : Nat} (h : qx_isL k) : k + 2 < 65 := by have := h.lt; omega
theorem qx_isL.l3 {k : Nat} (h : qx_isL k) : k + 3 < 65 := by have := h.lt; omega
theorem qx_isL.l4 {k : Nat} (h : qx_isL k) : k + 4 < 65 := by have := h.lt; omega
/-- what every library's row keeps -/
def qv_ok (v : Nat → Int32) (N : Nat) : Prop := N ≤ 8 ∧ v 1 = nI N ∧ (∃ d, d ≤ 99999 ∧ v 0 = nI d) ∧ (∀ i, i < 6 → ∃ q, q ≤ 12 ∧ v (4 + i) = nI q) ∧
  (∀ b, b < N → (∃ q, q ≤ 6 ∧ v (32 + 7 * b + 0) = nI q) ∧ (∃ h, h < 4096 ∧ v (32 + 7 * b + 2) = nI h) ∧ (v (32 + 7 * b + 6) = 0 ∨ v (32 + 7 * b + 6) = 1)) ∧ ∀ i, i < 10 → v (22 + i) = -1 ∨ ∃ b, b < N ∧ v (22 + i) = nI b
