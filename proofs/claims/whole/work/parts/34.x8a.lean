/-! equalities between the two sides' words -/
theorem p_cpy {r r2 : Nat → Int32} {p q n : Nat} : va_cpy r r2 p q n = fun i => if q ≤ i ∧ i < q + n then r (p + (i - q)) else r2 i := rfl
theorem p_gd {P Q : Nat → Prop} {n : Nat} (h : ∀ k, k < n → (P k ↔ Q k)) : z_gd P n = z_gd Q n := by
  induction n with
  | zero => rfl
  | succ n ih =>
    by_cases c : P n
    · rw [z_gd_t c, z_gd_t ((h n (by omega)).mp c)]
    · rw [z_gd_f c, z_gd_f (fun q => c ((h n (by omega)).mpr q)), ih (fun k hk => h k (by omega))]
theorem p_gd_some {P : Nat → Prop} {n k : Nat} (h : z_gd P n = some k) : k < n ∧ P k ∧ ∀ j, k < j → j < n → ¬ P j := by
  induction n with
  | zero => cases h
  | succ n ih =>
    by_cases c : P n
    · rw [z_gd_t c] at h
      cases h
      exact ⟨by omega, c, fun j h1 h2 => by omega⟩
    · rw [z_gd_f c] at h
      obtain ⟨h1, h2, h3⟩ := ih h
      refine ⟨by omega, h2, fun j h4 h5 => ?_⟩
      rcases Nat.lt_or_ge j n with h6 | h6
      · exact h3 j h4 h6
      · rw [show j = n by omega]; exact c
theorem p_gd_none {P : Nat → Prop} {n : Nat} (h : z_gd P n = none) : ∀ j, j < n → ¬ P j := by
  induction n with
  | zero => intro j hj; omega
  | succ n ih =>
    by_cases c : P n
    · rw [z_gd_t c] at h; cases h
    · rw [z_gd_f c] at h
      intro j hj
      rcases Nat.lt_or_ge j n with h6 | h6
      · exact ih h j h6
      · rw [show j = n by omega]; exact c
/-- the greatest of those with P is one with M: then looking at those with M alone gives it -/
theorem p_gd_and {P M : Nat → Prop} {n : Nat} (h : ∀ k, k < n → P k → (∀ j, k < j → j < n → ¬ P j) → M k) : z_gd (fun k => M k ∧ P k) n = z_gd P n := by
  cases e : z_gd P n with
  | none =>
    cases e2 : z_gd (fun k => M k ∧ P k) n with
    | none => rfl
    | some k =>
      obtain ⟨h1, h2, -⟩ := p_gd_some e2
      exact absurd h2.2 (p_gd_none e k h1)
  | some k =>
    obtain ⟨h1, h2, h3⟩ := p_gd_some e
    cases e2 : z_gd (fun k => M k ∧ P k) n with
    | none => exact absurd ⟨h k h1 h2 h3, h2⟩ (p_gd_none e2 k h1)
    | some k2 =>
      obtain ⟨g1, g2, g3⟩ := p_gd_some e2
      have a1 : ¬ k < k2 := fun q => h3 k2 q g1 g2.2
      have a2 : ¬ k2 < k := fun q => g3 k q h1 ⟨h k h1 h2 h3, h2⟩
      rw [show k2 = k by omega]
/-- the least by ones, then by number -/
def p_min (P : Nat → Prop) (M s : Nat) : Prop := s < M ∧ P s ∧ ∀ b, b < M → P b → z_bc (nI s) < z_bc (nI b) ∨ (z_bc (nI s) = z_bc (nI b) ∧ s ≤ b)
theorem p_min_u {P : Nat → Prop} {M s b : Nat} (h : p_min P M s) (g : p_min P M b) : s = b := by
  have h1 := h.2.2 b g.1 g.2.1
  have h2 := g.2.2 s h.1 h.2.1
  rw [Int32.lt_iff_toInt_lt] at h1 h2
  rcases h1 with h1 | ⟨h1, h3⟩
  · rcases h2 with h2 | ⟨h2, h4⟩
    · omega
    · rw [h2] at h1; omega
  · rcases h2 with h2 | ⟨h2, h4⟩
    · rw [h1] at h2; omega
    · omega
theorem m_sb_spec {P : Nat → Prop} {M t : Nat} (ht : t ≤ M) : (m_sb P M t = none ∧ ∀ b, M - t ≤ b → b < M → ¬ P b) ∨ ∃ s, m_sb P M t = some s ∧ M - t ≤ s ∧ s < M ∧ P s ∧ ∀ b, M - t ≤ b → b < M → P b → z_bc (nI s) < z_bc (nI b) ∨ (z_bc (nI s) = z_bc (nI b) ∧ s ≤ b) := by
  induction t with
  | zero => exact Or.inl ⟨rfl, fun b h1 h2 => by omega⟩
  | succ t ih =>
    have hst : m_sb P M (t + 1) = m_s1 P (M - (t + 1)) (m_sb P M t) := rfl
    rcases ih (by omega) with ⟨e, hn⟩ | ⟨s, e, h1, h2, h3, h4⟩
    · by_cases c : P (M - (t + 1))
      · refine Or.inr ⟨M - (t + 1), by rw [hst, e]; exact m_s1_t ⟨fun b q => (by cases q), c⟩, Nat.le_refl _, by omega, c, fun b g1 g2 g3 => ?_⟩
        rcases Nat.lt_or_ge b (M - t) with q | q
        · exact Or.inr ⟨by rw [show b = M - (t + 1) by omega], g1⟩
        · exact absurd g3 (hn b q g2)
      · refine Or.inl ⟨by rw [hst, e]; exact m_s1_f (fun q => c q.2), fun b g1 g2 => ?_⟩
        rcases Nat.lt_or_ge b (M - t) with q | q
        · rw [show b = M - (t + 1) by omega]; exact c
        · exact hn b q g2
    · by_cases c : (∀ b, some s = some b → ¬ z_bc (nI b) < z_bc (nI (M - (t + 1)))) ∧ P (M - (t + 1))
      · refine Or.inr ⟨M - (t + 1), by rw [hst, e]; exact m_s1_t c, Nat.le_refl _, by omega, c.2, fun b g1 g2 g3 => ?_⟩
        have c1 := c.1 s rfl
        rw [Int32.lt_iff_toInt_lt] at c1
        rcases Nat.lt_or_ge b (M - t) with q | q
        · exact Or.inr ⟨by rw [show b = M - (t + 1) by omega], g1⟩
        · have h5 := h4 b q g2 g3
          rw [Int32.lt_iff_toInt_lt] at h5 ⊢
          rcases h5 with h5 | ⟨h5, h6⟩
          · exact Or.inl (by omega)
          · rw [h5] at c1
            by_cases e9 : (z_bc (nI (M - (t + 1)))).toInt < (z_bc (nI b)).toInt
            · exact Or.inl e9
            · exact Or.inr ⟨Int32.toInt_inj.mp (by omega), by omega⟩
      · refine Or.inr ⟨s, by rw [hst, e]; exact m_s1_f c, by omega, h2, h3, fun b g1 g2 g3 => ?_⟩
        rcases Nat.lt_or_ge b (M - t) with q | q
        · have hb : b = M - (t + 1) := by omega
          subst hb
          refine Or.inl (Classical.byContradiction (fun z => c ⟨fun b9 e9 => by cases e9; exact z, g3⟩))
        · exact h4 b q g2 g3
theorem p_ls_some {P : Nat → Prop} {f d k : Nat} (h : z_ls P f d = some k) : d ≤ k ∧ k < d + f ∧ P k ∧ ∀ j, d ≤ j → j < k → ¬ P j := by
  induction f generalizing d with
  | zero => cases h
  | succ f ih =>
    by_cases c : P d
    · rw [z_ls_t c] at h
      cases h
      exact ⟨by omega, by omega, c, fun j h1 h2 => by omega⟩
    · rw [z_ls_f c] at h
      obtain ⟨h1, h2, h3, h4⟩ := ih h
      refine ⟨by omega, by omega, h3, fun j h5 h6 => ?_⟩
      rcases Nat.lt_or_ge d j with q | q
      · exact h4 j q h6
      · rw [show j = d by omega]; exact c
theorem p_ls_none {P : Nat → Prop} {f d : Nat} (h : z_ls P f d = none) : ∀ j, d ≤ j → j < d + f → ¬ P j := by
  induction f generalizing d with
  | zero => intro j h1 h2; omega
  | succ f ih =>
    by_cases c : P d
    · rw [z_ls_t c] at h; cases h
    · rw [z_ls_f c] at h
      intro j h1 h2
      rcases Nat.lt_or_ge d j with q | q
      · exact ih h j q (by omega)
      · rw [show j = d by omega]; exact c
theorem p_sx_spec {P : Int32 → Prop} {N f size : Nat} : (z_sx P N f size = none ∧ ∀ b z, b < 2 ^ N → P (nI b) → size ≤ z → z < size + f → ¬ z_bc (nI b) = nI z) ∨ ∃ s z, z_sx P N f size = some s ∧ s < 2 ^ N ∧ P (nI s) ∧ size ≤ z ∧ z < size + f ∧ z_bc (nI s) = nI z ∧ (∀ b, b < 2 ^ N → P (nI b) → z_bc (nI b) = nI z → s ≤ b) ∧ ∀ b y, b < 2 ^ N → P (nI b) → size ≤ y → y < z → ¬ z_bc (nI b) = nI y := by
  induction f generalizing size with
  | zero => exact Or.inl ⟨rfl, fun b z h1 h2 h3 h4 => by omega⟩
  | succ f ih =>
    have hst : z_sx P N (f + 1) size = match z_ls (fun k => z_bc (nI k) = nI size ∧ P (nI k)) (2 ^ N) 0 with
      | some k => some k
      | none => z_sx P N f (size + 1) := rfl
    cases e : z_ls (fun k => z_bc (nI k) = nI size ∧ P (nI k)) (2 ^ N) 0 with
    | some k =>
      obtain ⟨h1, h2, h3, h4⟩ := p_ls_some e
      refine Or.inr ⟨k, size, by rw [hst, e], by omega, h3.2, Nat.le_refl _, by omega, h3.1, fun b g1 g2 g3 => ?_, fun b y g1 g2 g3 g4 => by omega⟩
      exact Nat.not_lt.mp (fun q => h4 b (Nat.zero_le _) q ⟨g3, g2⟩)
    | none =>
      have hn := p_ls_none e
      rcases ih (size := size + 1) with ⟨e2, g⟩ | ⟨s, z, e2, g1, g2, g3, g4, g5, g6, g7⟩
      · refine Or.inl ⟨by rw [hst, e]; exact e2, fun b z h1 h2 h3 h4 h5 => ?_⟩
        rcases Nat.lt_or_ge size z with q | q
        · exact g b z h1 h2 q (by omega) h5
        · exact hn b (Nat.zero_le _) (by omega) ⟨by rw [h5, show z = size by omega], h2⟩
      · refine Or.inr ⟨s, z, by rw [hst, e]; exact e2, g1, g2, by omega, by omega, g5, g6, fun b y h1 h2 h3 h4 h5 => ?_⟩
        rcases Nat.lt_or_ge size y with q | q
        · exact g7 b y h1 h2 q h4 h5
        · exact hn b (Nat.zero_le _) (by omega) ⟨by rw [h5, show y = size by omega], h2⟩
theorem p_bcN_all : ((List.range 9).all fun N => (List.range (2 ^ N)).all fun b => (List.range (N + 1)).any fun z => z_bc (nI b) == nI z) = true := by decide +kernel
theorem p_bcN {N b : Nat} (hN : N ≤ 8) (hb : b < 2 ^ N) : ∃ z, z ≤ N ∧ z_bc (nI b) = nI z := by
  have h := List.all_eq_true.mp (List.all_eq_true.mp p_bcN_all N (List.mem_range.mpr (by omega))) b (List.mem_range.mpr hb)
  obtain ⟨z, h1, h2⟩ := List.any_eq_true.mp h
  exact ⟨z, by have := List.mem_range.mp h1; omega, beq_iff_eq.mp h2⟩
theorem p_seal {N : Nat} (hN : N ≤ 8) {P : Int32 → Prop} : z_sx P N (N + 1) 0 = m_sb (fun s => P (nI s)) (2 ^ N) (2 ^ N) := by
  rcases p_sx_spec (P := P) (N := N) (f := N + 1) (size := 0) with ⟨e, g⟩ | ⟨s, z, e, g1, g2, g3, g4, g5, g6, g7⟩
  · rcases m_sb_spec (P := fun s => P (nI s)) (M := 2 ^ N) (t := 2 ^ N) (Nat.le_refl _) with ⟨e2, h⟩ | ⟨s2, e2, h1, h2, h3, h4⟩
    · rw [e, e2]
    · obtain ⟨z, hz, ez⟩ := p_bcN hN h2
      exact absurd ez (g s2 z h2 h3 (Nat.zero_le _) (by omega))
  · rcases m_sb_spec (P := fun s => P (nI s)) (M := 2 ^ N) (t := 2 ^ N) (Nat.le_refl _) with ⟨e2, h⟩ | ⟨s2, e2, h1, h2, h3, h4⟩
    · exact absurd g2 (h s (by omega) g1)
    · have m2 : p_min (fun s => P (nI s)) (2 ^ N) s2 := ⟨h2, h3, fun b q1 q2 => h4 b (by omega) q1 q2⟩
      have m1 : p_min (fun s => P (nI s)) (2 ^ N) s := ⟨g1, g2, fun b q1 q2 => by
        obtain ⟨y, hy, ey⟩ := p_bcN hN q1
        rcases Nat.lt_or_ge y z with q | q
        · exact absurd ey (g7 b y q1 q2 (Nat.zero_le _) q)
        · rcases Nat.lt_or_ge z y with q3 | q3
          · exact Or.inl (by rw [g5, ey]; exact nI_lt q3 (by omega))
          · have e5 : y = z := by omega
            exact Or.inr ⟨by rw [g5, ey, e5], g6 b q1 q2 (by rw [ey, e5])⟩⟩
      rw [e, e2, p_min_u m1 m2]
theorem p_sealS {N : Nat} {w : Nat → Int32} {n : Int32} (hN : N ≤ 8) : S_sealX N w n = S_sealM N w n := by
  unfold S_sealX S_sealM
  rw [p_seal hN]
