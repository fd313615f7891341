/-! both sides together -/
def rF (σ : qx_Sg) : Prop := (∀ i, i < 7 → σ 57 (i + 1) = σ 52 i) ∧ σ 57 0 = z_fo (z_Fsu (σ 52)) 7
def rS (σ : qx_Sg) : Prop := ∀ s, s < 4 → σ (44 + s) 0 = σ 61 s ∧ σ (44 + s) 1 = σ 62 s ∧ ∀ i, i < 40 → σ (44 + s + 4) i = σ 63 (40 * s + i)
def rT (σ : qx_Sg) : Prop := (∃ t, t ≤ 120 ∧ σ 40 1 = nI t ∧ σ 53 6 = nI t) ∧ σ 41 = σ 58 ∧ ∀ i, ¬ σ 58 i < 0
def rI (σ : qx_Sg) : Prop := σ 0 3 = σ 53 3 ∧ (¬ σ 53 3 = 0 → ∃ N, qv_ok (σ 55) N ∧ qH σ 27 N (σ 55))
def rL (σ : qx_Sg) : Prop := ∃ N, qv_ok (σ 54) N ∧ qH σ 1 N (σ 54)
def rel (σ : qx_Sg) : Prop := rL σ ∧ rI σ ∧ rT σ ∧ rS σ ∧ rF σ ∧ qS_ok σ
theorem rI_c {σ τ : qx_Sg} (h : rI σ) (e0 : τ 0 3 = σ 0 3) (e1 : τ 53 3 = σ 53 3) (e2 : τ 55 = σ 55) (e3 : ∀ k, 27 ≤ k → k < 40 → τ k = σ k) : rI τ := by
  refine ⟨by rw [e0, e1]; exact h.1, fun q => ?_⟩
  rw [e1] at q
  obtain ⟨N, h1, h2⟩ := h.2 q
  rw [e2]
  exact ⟨N, h1, qH_o (Or.inr (Or.inr rfl)) h1.1 h2 (fun k a b => e3 k a (by omega))⟩
theorem rL_c {σ τ : qx_Sg} (h : rL σ) (e0 : τ 54 = σ 54) (e3 : ∀ k, 1 ≤ k → k < 14 → τ k = σ k) : rL τ := by
  obtain ⟨N, h1, h2⟩ := h
  rw [← e0] at h1 h2
  exact ⟨N, h1, qH_o (Or.inl rfl) h1.1 h2 (fun k a b => e3 k a (by omega))⟩
theorem rT_c {σ τ : qx_Sg} (h : rT σ) (e0 : τ 40 1 = σ 40 1) (e1 : τ 53 6 = σ 53 6) (e2 : τ 41 = σ 41) (e3 : τ 58 = σ 58) : rT τ := by
  obtain ⟨⟨t, a1, a2, a3⟩, a4, a5⟩ := h
  exact ⟨⟨t, a1, e0.trans a2, e1.trans a3⟩, by rw [e2, e3]; exact a4, by rw [e3]; exact a5⟩
theorem rS_c {σ τ : qx_Sg} (h : rS σ) (e : ∀ k, 44 ≤ k → k < 52 → τ k = σ k) (e1 : τ 61 = σ 61) (e2 : τ 62 = σ 62) (e3 : τ 63 = σ 63) : rS τ := by
  intro s hs
  rw [e (44 + s) (by omega) (by omega), e (44 + s + 4) (by omega) (by omega), e1, e2, e3]
  exact h s hs
theorem qS_c {σ τ : qx_Sg} (h : qS_ok σ) (e : ∀ k, 44 ≤ k → k < 52 → τ k = σ k) : qS_ok τ := by
  intro s hs
  rw [e (44 + s) (by omega) (by omega)]
  exact h s hs
theorem rF_c {σ τ : qx_Sg} (h : rF σ) (e : τ 52 = σ 52) (e1 : τ 57 = σ 57) : rF τ := by
  unfold rF
  rw [e, e1]
  exact h
theorem r_sum {r : Nat → Int32} {k : Nat} : ∀ n, (n ≤ k → z_fo (z_Fsu (upd r k (r k + 1))) n = z_fo (z_Fsu r) n) ∧ (k < n → z_fo (z_Fsu (upd r k (r k + 1))) n = z_fo (z_Fsu r) n + 1) := by
  intro n
  induction n with
  | zero => exact ⟨fun _ => rfl, fun h => by omega⟩
  | succ n ih =>
    have e1 : z_fo (z_Fsu (upd r k (r k + 1))) (n + 1) = z_fo (z_Fsu (upd r k (r k + 1))) n + upd r k (r k + 1) n := rfl
    have e2 : z_fo (z_Fsu r) (n + 1) = z_fo (z_Fsu r) n + r n := rfl
    rw [e1, e2]
    refine ⟨fun h => ?_, fun h => ?_⟩
    · rw [ih.1 (by omega), upd_ne (by omega)]
    · rcases Nat.lt_or_ge k n with q | q
      · rw [ih.2 q, upd_ne (by omega), Int32.add_assoc, Int32.add_comm 1 (r n), ← Int32.add_assoc]
      · have e : n = k := by omega
        subst e
        rw [ih.1 (Nat.le_refl _), upd_eq, Int32.add_assoc]
theorem rF_x {σ τ : qx_Sg} {o : Option Nat} (ho : ∀ k, o = some k → k < 7) (h : rF σ) (e : τ 52 = z_fx o (σ 52)) (e1 : τ 57 = m_fx o (σ 57)) : rF τ := by
  cases o with
  | none => exact rF_c h e e1
  | some k =>
    have hk := ho k rfl
    unfold rF
    rw [e, e1]
    refine ⟨fun i hi => ?_, ?_⟩
    · show upd (upd (σ 57) (k + 1) (σ 57 (k + 1) + 1)) 0 (σ 57 0 + 1) (i + 1) = upd (σ 52) k (σ 52 k + 1) i
      rw [upd_ne (by omega)]
      by_cases c : i = k
      · subst c
        rw [upd_eq, upd_eq, h.1 i hi]
      · rw [upd_ne (by omega), upd_ne c, h.1 i hi]
    · show upd (upd (σ 57) (k + 1) (σ 57 (k + 1) + 1)) 0 (σ 57 0 + 1) 0 = z_fo (z_Fsu (upd (σ 52) k (σ 52 k + 1))) 7
      rw [upd_eq, (r_sum 7).2 hk, h.2]
/-- what a call makes is good -/
def sG (S : qR) : Prop := (∀ k, S.2.1 = some k → k < 7) ∧ qv_ok S.2.2.2 S.2.2.1
theorem sG_zif {P : Prop} {a b : qR} (ha : P → sG a) (hb : ¬ P → sG b) : sG (zif P a b) := by
  by_cases h : P
  · rw [zif_t h]; exact ha h
  · rw [zif_f h]; exact hb h
theorem sG_ok {r : Int32} {N : Nat} {w : Nat → Int32} (h : qv_ok w N) : sG (zok r N w) := ⟨fun k e => (by cases e), h⟩
theorem sG_bad {k N : Nat} {w : Nat → Int32} (hk : k < 7) (h : qv_ok w N) : sG (zbad k N w) := ⟨fun j e => by cases e; exact hk, h⟩
theorem sG_on {o : Option Nat} {N : Nat} {w : Nat → Int32} (h : qv_ok w N) : sG (z_on o N w) := by
  cases o with
  | none => exact sG_bad (by omega) h
  | some k => exact sG_ok h
theorem rel_S {σ σ1 σ2 : qx_Sg} {S : qR} (h : rel σ) (hg : sG S) (h1 : qEx σ S σ1) (h2 : qEm σ1 S σ2) : rel σ2 := by
  obtain ⟨-, hI, hT, hS, hF, hQ⟩ := h
  obtain ⟨a1, a2, a3⟩ := h1
  obtain ⟨b1, b2, b3⟩ := h2
  have o : ∀ k, k < 65 → ¬ (1 ≤ k ∧ k < 27) → ¬ k = 52 → ¬ k = 54 → ¬ k = 56 → ¬ k = 57 → σ2 k = σ k := fun k hk c1 c2 c3 c4 c5 => (b3 k hk c3 c4 c5).trans (a3 k hk c1 c2)
  refine ⟨⟨S.2.2.1, by rw [b1]; exact hg.2, ?_⟩, rI_c hI (by rw [o 0 (by omega) (by omega) (by omega) (by omega) (by omega) (by omega)]) (by rw [o 53 (by omega) (by omega) (by omega) (by omega) (by omega) (by omega)]) (o 55 (by omega) (by omega) (by omega) (by omega) (by omega) (by omega)) (fun k c1 c2 => o k (by omega) (by omega) (by omega) (by omega) (by omega) (by omega)),
    rT_c hT (by rw [o 40 (by omega) (by omega) (by omega) (by omega) (by omega) (by omega)]) (by rw [o 53 (by omega) (by omega) (by omega) (by omega) (by omega) (by omega)]) (o 41 (by omega) (by omega) (by omega) (by omega) (by omega) (by omega)) (o 58 (by omega) (by omega) (by omega) (by omega) (by omega) (by omega)),
    rS_c hS (fun k c1 c2 => o k (by omega) (by omega) (by omega) (by omega) (by omega) (by omega)) (o 61 (by omega) (by omega) (by omega) (by omega) (by omega) (by omega)) (o 62 (by omega) (by omega) (by omega) (by omega) (by omega) (by omega)) (o 63 (by omega) (by omega) (by omega) (by omega) (by omega) (by omega)),
    rF_x hg.1 hF ((b3 52 (by omega) (by omega) (by omega) (by omega)).trans a2) (by rw [b2, a3 57 (by omega) (by omega) (by omega)]), qS_c hQ (fun k c1 c2 => o k (by omega) (by omega) (by omega) (by omega) (by omega) (by omega))⟩
  rw [b1]
  exact qH_o (Or.inl rfl) hg.2.1 a1 (fun k c1 c2 => b3 k (by omega) (by omega) (by omega) (by omega))
theorem qEm_seed {σ : qx_Sg} {N : Nat} {v : Nat → Int32} {x : Int32} : qEm σ (S_seed N v x) (va_up σ 54 (upd v 2 x)) := ⟨qx_up_eq, qx_up_ne (by omega), fun k _ h1 _ _ => qx_up_ne h1⟩
theorem rel_bad {σ : qx_Sg} {k : Nat} (hk : k < 7) (h : rel σ) : rel (m_fnd (z_fnd σ k) k) := by
  obtain ⟨hL, hI, hT, hS, hF, hQ⟩ := h
  have o : ∀ j, ¬ j = 52 → ¬ j = 57 → m_fnd (z_fnd σ k) k j = σ j := fun j c1 c2 => (qx_up_ne c2).trans (qx_up_ne c1)
  exact ⟨rL_c hL (o 54 (by omega) (by omega)) (fun j c1 c2 => o j (by omega) (by omega)), rI_c hI (by rw [o 0 (by omega) (by omega)]) (by rw [o 53 (by omega) (by omega)]) (o 55 (by omega) (by omega)) (fun j c1 c2 => o j (by omega) (by omega)),
    rT_c hT (by rw [o 40 (by omega) (by omega)]) (by rw [o 53 (by omega) (by omega)]) (o 41 (by omega) (by omega)) (o 58 (by omega) (by omega)), rS_c hS (fun j c1 c2 => o j (by omega) (by omega)) (o 61 (by omega) (by omega)) (o 62 (by omega) (by omega)) (o 63 (by omega) (by omega)),
    rF_x (o := some k) (fun j e => by cases e; exact hk) hF ((qx_up_ne (by omega)).trans qx_up_eq) (by unfold m_fnd; rw [qx_up_eq]; rfl), qS_c hQ (fun j c1 c2 => o j (by omega) (by omega))⟩
/-! what the calls make of the library's row is good -/
section sGs
variable {N : Nat} {w : Nat → Int32}
theorem sG_bequest {i p : Int32} (h : qv_ok w N) : sG (S_bequest N w i p) := sG_zif (fun c => by
  obtain ⟨a, ha, rfl⟩ := z_in_ex 5 rfl (by omega) c.1
  obtain ⟨b, hb, rfl⟩ := z_in_ex 12 rfl (by omega) c.2
  rw [zn_nI (by omega)]
  exact sG_ok (qv_li h (by omega) hb)) (fun _ => sG_bad (by omega) h)
theorem sG_listed {i : Int32} (h : qv_ok w N) : sG (S_listed N w i) := sG_zif (fun _ => sG_ok h) (fun _ => sG_bad (by omega) h)
theorem sG_stored {i : Int32} (h : qv_ok w N) : sG (S_stored N w i) := sG_zif (fun _ => sG_ok h) (fun _ => sG_bad (by omega) h)
theorem sG_bust {k d : Int32} (h : qv_ok w N) : sG (S_bust N w k d) := sG_zif (fun c => sG_zif (fun _ => sG_bad (by omega) h) (fun c2 => sG_ok (qv_cm h (by omega) (z_in_ex 6 rfl (by omega) c.1)))) (fun _ => sG_bad (by omega) h)
theorem sG_of {b x : Int32} (h : qv_ok w N) : sG (S_of N w b x) := sG_zif (fun _ => sG_ok h) (fun _ => sG_bad (by omega) h)
theorem qv_gn {v : Nat → Int32} {b q : Nat} (h : qv_ok v N) (hb : b < N) (hq : q ≤ 1) : qv_ok (upd v (32 + 7 * b + 6) (nI q)) N :=
  qv_upd h _ _ (fun e => by omega) (by omega) (fun j hj e => by omega) (fun c hc e => by omega) (fun c hc e => by omega) (fun c hc e => by rcases (show q = 0 ∨ q = 1 by omega) with rfl | rfl; exact Or.inl rfl; exact Or.inr rfl) (fun j hj e => by omega)
theorem sG_change {b x v : Int32} (h : qv_ok w N) : sG (S_change N w b x v) := sG_zif (fun c => by
  have h8 := h.1
  obtain ⟨j, hj, rfl⟩ := z_ib_ex c.1 h.1
  obtain ⟨i, hi, rfl⟩ := z_in_ex 6 rfl (by omega) c.2.1
  have c3 := c.2.2
  rw [zn_nI (by omega)] at c3
  rw [zn_nI (by omega), zn_nI (by omega)]
  rcases (show i = 0 ∨ i = 1 ∨ i = 2 ∨ i = 3 ∨ i = 4 ∨ i = 5 ∨ i = 6 by omega) with rfl | rfl | rfl | rfl | rfl | rfl | rfl
  · obtain ⟨q, hq, rfl⟩ := z_in_ex 6 rfl (by omega) c3
    exact sG_ok (qv_kd h hj hq)
  · exact sG_ok (qv_fr h _ hj (Or.inl rfl))
  · obtain ⟨q, hq, rfl⟩ := z_in_ex 4095 rfl (by omega) c3
    exact sG_ok (qv_fr2 h hj (by omega))
  · exact sG_ok (qv_fr h _ hj (Or.inr (Or.inl rfl)))
  · exact sG_ok (qv_fr h _ hj (Or.inr (Or.inr (Or.inl rfl))))
  · exact sG_ok (qv_fr h _ hj (Or.inr (Or.inr (Or.inr rfl))))
  · obtain ⟨q, hq, rfl⟩ := z_in_ex 1 rfl (by omega) c3
    exact sG_ok (qv_gn h hj hq)) (fun _ => sG_bad (by omega) h)
theorem sG_accepts {b p : Int32} (h : qv_ok w N) : sG (S_accepts N w b p) := sG_zif (fun _ => sG_ok h) (fun _ => sG_bad (by omega) h)
theorem sG_heir {p : Int32} (h : qv_ok w N) : sG (S_heir N w p) := sG_zif (fun _ => sG_on h) (fun _ => sG_bad (by omega) h)
theorem sG_give {b p : Int32} (h : qv_ok w N) : sG (S_give N w b p) := sG_zif (fun c => sG_zif (fun _ => sG_bad (by omega) h) (fun _ => by
  have h8 := h.1
  obtain ⟨j, hj, rfl⟩ := z_ib_ex c.1 h.1
  obtain ⟨r, hr, rfl⟩ := z_in_ex 11 rfl (by omega) c.2
  obtain ⟨x, hx, ex⟩ := (h.2.2.2.2.1 j hj).2.1
  rw [zn_nI (show j < 2 ^ 31 by omega), zn_nI (show r < 2 ^ 31 by omega), ex, (z_rc_nI hx (by omega)).1]
  exact sG_ok (qv_fr2 (qv_free h _ _ (Or.inr (Or.inr (Or.inl ⟨by omega, by omega⟩)))) hj (z_rc_nI hx (by omega)).2))) (fun _ => sG_bad (by omega) h)
theorem sG_go {n : Int32} (h : qv_ok w N) : sG (S_go N w n) := sG_zif (fun _ => sG_zif (fun _ => sG_ok (qv_dn h _)) (fun _ => sG_bad (by omega) h)) (fun _ => sG_bad (by omega) h)
theorem sG_now {x : Int32} (h : qv_ok w N) : sG (S_now N w x) := by
  unfold S_now
  repeat' split
  all_goals first | exact sG_ok h | exact sG_bad (by omega) h
theorem sG_ahead {b x n : Int32} (h : qv_ok w N) : sG (S_ahead N w b x n) := sG_zif (fun _ => sG_ok h) (fun _ => sG_bad (by omega) h)
theorem sG_left {n : Int32} (h : qv_ok w N) : sG (S_left N w n) := sG_zif (fun _ => sG_ok h) (fun _ => sG_bad (by omega) h)
theorem sG_when {b p : Int32} (h : qv_ok w N) : sG (S_when N w b p) := sG_zif (fun _ => sG_on h) (fun _ => sG_bad (by omega) h)
theorem sG_leaves {b : Int32} (h : qv_ok w N) : sG (S_leaves N w b) := sG_zif (fun _ => sG_on h) (fun _ => sG_bad (by omega) h)
theorem sG_voice {b v : Int32} (h : qv_ok w N) : sG (S_voice N w b v) := sG_zif (fun _ => sG_on h) (fun _ => sG_bad (by omega) h)
theorem sG_orderFor {i b n : Int32} (h : qv_ok w N) : sG (S_orderFor N w i b n) := sG_zif (fun _ => sG_ok h) (fun _ => sG_bad (by omega) h)
theorem sG_dateFor {b p n : Int32} (h : qv_ok w N) : sG (S_dateFor N w b p n) := sG_zif (fun _ => sG_on h) (fun _ => sG_bad (by omega) h)
theorem sG_kindFor {b n : Int32} (h : qv_ok w N) : sG (S_kindFor N w b n) := sG_zif (fun _ => sG_ok h) (fun _ => sG_bad (by omega) h)
theorem sG_pathTo {b p : Int32} (h : qv_ok w N) : sG (S_pathToM N w b p) := sG_zif (fun _ => sG_on h) (fun _ => sG_bad (by omega) h)
theorem sG_seal {n : Int32} (h : qv_ok w N) : sG (S_sealM N w n) := sG_zif (fun _ => sG_on h) (fun _ => sG_bad (by omega) h)
theorem sG_sh {σ : qx_Sg} {s : Int32} {S : qR} (h : qv_ok w N) (hS : sG S) : sG (S_sh N w σ s S) := sG_zif (fun _ => sG_zif (fun _ => sG_bad (by omega) h) (fun _ => hS)) (fun _ => sG_bad (by omega) h)
theorem sG_fits {σ : qx_Sg} {s b : Int32} (h : qv_ok w N) : sG (S_fits N w σ s b) := sG_sh h (sG_zif (fun _ => sG_ok h) (fun _ => sG_bad (by omega) h))
theorem sG_kinds {σ : qx_Sg} {s b : Int32} (h : qv_ok w N) : sG (S_kinds N w σ s b) := sG_sh h (sG_zif (fun _ => sG_ok h) (fun _ => sG_bad (by omega) h))
theorem sG_chance {n : Int32} (h : qv_ok w N) : sG (S_chance N w n) := sG_zif (fun _ => sG_zif (fun _ => sG_ok (qv_cn h _)) (fun _ => sG_bad (by omega) h)) (fun _ => sG_bad (by omega) h)
theorem sG_odds {b n x : Int32} (h : qv_ok w N) : sG (S_odds N w b n x) := sG_zif (fun _ => sG_ok h) (fun _ => sG_bad (by omega) h)
theorem sG_seed {v : Int32} (h : qv_ok w N) : sG (S_seed N w v) := sG_ok (qv_free h _ _ (Or.inl rfl))
theorem sG_hold {i b : Int32} (h : qv_ok w N) : sG (S_hold N w i b) := sG_zif (fun c => by
  have h8 := h.1
  obtain ⟨a, ha, rfl⟩ := z_in_ex 9 rfl (by omega) c.1
  rw [zn_nI (by omega)]
  refine sG_ok (qv_upd h _ _ (fun e => by omega) (by omega) (fun j hj e => by omega) (fun q hq e => by omega) (fun q hq e => by omega) (fun q hq e => by omega) (fun j hj e => ?_))
  rcases c.2 with q | q
  · exact Or.inl q
  · obtain ⟨j, hj, e⟩ := z_ib_ex q h.1
    exact Or.inr ⟨j, hj, e⟩) (fun _ => sG_bad (by omega) h)
theorem sG_as {i k : Int32} (h : qv_ok w N) : sG (S_as N w i k) := sG_zif (fun _ => sG_zif (fun _ => sG_zif (fun _ => sG_ok h) (fun _ => sG_bad (by omega) h)) (fun _ => sG_bad (by omega) h)) (fun _ => sG_bad (by omega) h)
theorem qv_ld {nums : Nat → Int32} : ∀ f i (u : Nat → Int32), i + f ≤ 6 → qv_ok u N → qv_ok (z_ld nums f i u).2 N := by
  intro f
  induction f with
  | zero => intro i u _ h; exact h
  | succ f ih =>
    intro i u hi h
    by_cases c : z_in (nums i) 12
    · rw [z_ld_t c]
      obtain ⟨q, hq, e⟩ := z_in_ex 12 rfl (by omega) c
      rw [e]
      exact ih (i + 1) _ (by omega) (qv_li h (by omega) hq)
    · rw [z_ld_f c]; exact h
theorem sG_load {σ : qx_Sg} {s : Int32} (h : qv_ok w N) : sG (S_load N w σ s) := sG_sh h (sG_ok (qv_ld _ 0 w (by unfold z_m6; split <;> omega) h))
theorem sG_judge {σ : qx_Sg} {s : Int32} (h : qv_ok w N) : sG (S_judge N w σ s) := sG_sh h (sG_ok h)
theorem sG_count {t x : Int32} (h : qv_ok w N) : sG (S_count N w t x) := by
  unfold S_count
  repeat' split
  all_goals first | exact sG_ok h | exact sG_bad (by omega) h
end sGs
/-! the sheets of both sides -/
theorem z_ld_c {nums nums' : Nat → Int32} : ∀ f i (u : Nat → Int32), (∀ k, i ≤ k → k < i + f → nums k = nums' k) → z_ld nums f i u = z_ld nums' f i u := by
  intro f
  induction f with
  | zero => intro i u _; rfl
  | succ f ih =>
    intro i u h
    have e := h i (Nat.le_refl _) (by omega)
    by_cases c : z_in (nums i) 12
    · rw [z_ld_t c, z_ld_t (by rw [← e]; exact c), e]
      exact ih (i + 1) _ (fun k h1 h2 => h k (by omega) (by omega))
    · rw [z_ld_f c, z_ld_f (by rw [← e]; exact c)]
theorem z_jd_c {N : Nat} {w nums nums' : Nat → Int32} : ∀ f i, (∀ k, i ≤ k → k < i + f → nums k = nums' k) → z_jd N w nums f i = z_jd N w nums' f i := by
  intro f
  induction f with
  | zero => intro i _; rfl
  | succ f ih =>
    intro i h
    show z_sel (z_ib N (nI i) ∧ z_say (z_row w i) = nums i) (z_jd N w nums f (i + 1)) (1 + nI i) = z_sel (z_ib N (nI i) ∧ z_say (z_row w i) = nums' i) (z_jd N w nums' f (i + 1)) (1 + nI i)
    rw [h i (Nat.le_refl _) (by omega), ih (i + 1) (fun k h1 h2 => h k (by omega) (by omega))]
theorem z_vs_c {N n j : Nat} {nums nums' : Nat → Int32} (h : ∀ k, k < n → nums k = nums' k) (w : Nat → Int32) : z_vs N w nums n j = z_vs N w nums' n j := propext ⟨fun q i hi => by rw [← h i hi]; exact q i hi, fun q i hi => by rw [h i hi]; exact q i hi⟩
theorem r_sh {σ τ : qx_Sg} {N : Nat} {w : Nat → Int32} {s : Int32} {S S' : qR} (hS : rS σ) (e1 : τ 61 = σ 61) (h : ∀ j, j < 4 → s = nI j → S' = S) : S_sh N w (m_vw τ) s S' = S_sh N w σ s S := by
  unfold S_sh
  by_cases c : z_in s 3
  · rw [zif_t c, zif_t c]
    obtain ⟨j, hj, rfl⟩ := z_in_ex 3 rfl (by omega) c
    rw [h j (by omega) rfl, zn_nI (show j < 2 ^ 31 by omega), m_vw0 (by omega), e1, (hS j (by omega)).1]
  · rw [zif_f c, zif_f c]
theorem r_nums {σ τ : qx_Sg} {j : Nat} (hj : j < 4) (hS : rS σ) (e3 : τ 63 = σ 63) : ∀ k, k < 40 → m_vw τ (44 + j + 4) k = σ (44 + j + 4) k := by
  intro k hk
  rw [m_vwn, e3]
  exact ((hS j hj).2.2 k hk).symm
theorem r_load {σ τ : qx_Sg} {N : Nat} {w : Nat → Int32} {s : Int32} (hS : rS σ) (hQ : qS_ok σ) (e1 : τ 61 = σ 61) (e2 : τ 62 = σ 62) (e3 : τ 63 = σ 63) : S_load N w (m_vw τ) s = S_load N w σ s := by
  refine r_sh hS e1 (fun j hj e => ?_)
  subst e
  rw [zn_nI (show j < 2 ^ 31 by omega), m_vw1 hj, e2, ← (hS j hj).2.1]
  unfold z_ldS
  have h6 : z_m6 (zn (σ (44 + j) 1)) ≤ 6 := by unfold z_m6; split <;> omega
  rw [z_ld_c _ 0 w (fun k _ hk => r_nums hj hS e3 k (by omega))]
theorem r_judge {σ τ : qx_Sg} {N : Nat} {w : Nat → Int32} {s : Int32} (hS : rS σ) (hQ : qS_ok σ) (e1 : τ 61 = σ 61) (e2 : τ 62 = σ 62) (e3 : τ 63 = σ 63) : S_judge N w (m_vw τ) s = S_judge N w σ s := by
  refine r_sh hS e1 (fun j hj e => ?_)
  subst e
  obtain ⟨n, hn, en⟩ := (hQ j hj).2
  rw [zn_nI (show j < 2 ^ 31 by omega), m_vw1 hj, e2, ← (hS j hj).2.1, en, zn_nI (show n < 2 ^ 31 by omega)]
  rw [z_jd_c _ 0 (fun k _ hk => r_nums hj hS e3 k (by omega))]
theorem r_fits {σ τ : qx_Sg} {N : Nat} {w : Nat → Int32} {s b : Int32} (hS : rS σ) (hQ : qS_ok σ) (e1 : τ 61 = σ 61) (e2 : τ 62 = σ 62) (e3 : τ 63 = σ 63) : S_fits N w (m_vw τ) s b = S_fits N w σ s b := by
  refine r_sh hS e1 (fun j hj e => ?_)
  subst e
  obtain ⟨n, hn, en⟩ := (hQ j hj).2
  rw [zn_nI (show j < 2 ^ 31 by omega), m_vw1 hj, e2, ← (hS j hj).2.1, en, zn_nI (show n < 2 ^ 31 by omega)]
  have e : z_fF N w (m_vw τ (44 + j + 4)) n (zn b) = z_fF N w (σ (44 + j + 4)) n (zn b) := by
    funext t a
    unfold z_fF
    rw [z_vs_c (fun k hk => r_nums hj hS e3 k (by omega))]
  rw [e]
theorem r_kinds {σ τ : qx_Sg} {N : Nat} {w : Nat → Int32} {s b : Int32} (hS : rS σ) (hQ : qS_ok σ) (e1 : τ 61 = σ 61) (e2 : τ 62 = σ 62) (e3 : τ 63 = σ 63) : S_kinds N w (m_vw τ) s b = S_kinds N w σ s b := by
  refine r_sh hS e1 (fun j hj e => ?_)
  subst e
  obtain ⟨n, hn, en⟩ := (hQ j hj).2
  rw [zn_nI (show j < 2 ^ 31 by omega), m_vw1 hj, e2, ← (hS j hj).2.1, en, zn_nI (show n < 2 ^ 31 by omega)]
  have e : z_kF N w (m_vw τ (44 + j + 4)) n (zn b) = z_kF N w (σ (44 + j + 4)) n (zn b) := by
    funext t a
    unfold z_kF
    rw [z_vs_c (fun k hk => r_nums hj hS e3 k (by omega))]
  rw [e]
theorem r_qS {σ τ : qx_Sg} (hS : rS σ) (hQ : qS_ok σ) (e1 : τ 61 = σ 61) (e2 : τ 62 = σ 62) : qS_ok (m_vw τ) := by
  intro s hs
  rw [m_vw0 hs, m_vw1 hs, e1, e2, ← (hS s hs).1, ← (hS s hs).2.1]
  exact hQ s hs
