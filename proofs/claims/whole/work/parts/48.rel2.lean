/-! steps that are about more than the library's row -/
theorem r_wipe {σ : qx_Sg} (h : rel σ) : σ 53 6 = σ 40 1 ∧ rel (va_up (va_up σ 40 (upd (σ 40) 1 0)) 53 (upd (va_up σ 40 (upd (σ 40) 1 0) 53) 6 0)) := by
  obtain ⟨hL, hI, hT, hS, hF, hQ⟩ := h
  obtain ⟨⟨t, a1, a2, a3⟩, a4, a5⟩ := hT
  have o : ∀ j, ¬ j = 40 → ¬ j = 53 → va_up (va_up σ 40 (upd (σ 40) 1 0)) 53 (upd (va_up σ 40 (upd (σ 40) 1 0) 53) 6 0) j = σ j := fun j c1 c2 => (qx_up_ne c2).trans (qx_up_ne c1)
  refine ⟨a3.trans a2.symm, rL_c hL (o 54 (by omega) (by omega)) (fun j c1 c2 => o j (by omega) (by omega)), rI_c hI (by rw [o 0 (by omega) (by omega)]) rfl (o 55 (by omega) (by omega)) (fun j c1 c2 => o j (by omega) (by omega)), ⟨⟨0, by omega, rfl, rfl⟩, by rw [o 41 (by omega) (by omega), o 58 (by omega) (by omega)]; exact a4, by rw [o 58 (by omega) (by omega)]; exact a5⟩,
    rS_c hS (fun j c1 c2 => o j (by omega) (by omega)) (o 61 (by omega) (by omega)) (o 62 (by omega) (by omega)) (o 63 (by omega) (by omega)), rF_c hF (o 52 (by omega) (by omega)) (o 57 (by omega) (by omega)), qS_c hQ (fun j c1 c2 => o j (by omega) (by omega))⟩
theorem r_tear {σ : qx_Sg} (h : rel σ) : qb (¬ σ 0 3 = 0) = qb (¬ σ 53 3 = 0) ∧ rel (va_up (va_up σ 0 (upd (σ 0) 3 0)) 53 (upd (va_up σ 0 (upd (σ 0) 3 0) 53) 3 0)) := by
  obtain ⟨hL, hI, hT, hS, hF, hQ⟩ := h
  have o : ∀ j, ¬ j = 0 → ¬ j = 53 → va_up (va_up σ 0 (upd (σ 0) 3 0)) 53 (upd (va_up σ 0 (upd (σ 0) 3 0) 53) 3 0) j = σ j := fun j c1 c2 => (qx_up_ne c2).trans (qx_up_ne c1)
  refine ⟨by rw [hI.1], rL_c hL (o 54 (by omega) (by omega)) (fun j c1 c2 => o j (by omega) (by omega)), ⟨rfl, fun q => absurd rfl q⟩, rT_c hT (by rw [o 40 (by omega) (by omega)]) rfl (o 41 (by omega) (by omega)) (o 58 (by omega) (by omega)),
    rS_c hS (fun j c1 c2 => o j (by omega) (by omega)) (o 61 (by omega) (by omega)) (o 62 (by omega) (by omega)) (o 63 (by omega) (by omega)), rF_c hF (o 52 (by omega) (by omega)) (o 57 (by omega) (by omega)), qS_c hQ (fun j c1 c2 => o j (by omega) (by omega))⟩
theorem r_image {σ : qx_Sg} {N : Nat} (h : rel σ) (hI0 : qv_ok (σ 54) N) (hH0 : qH σ 1 N (σ 54)) : rel (va_up (va_up (va_up (va_up (qL σ 27 N (σ 54)) 0 (upd (σ 0) 3 1)) 54 (σ 54)) 55 (σ 54)) 53 (upd (va_up (qL σ 27 N (σ 54)) 0 (upd (σ 0) 3 1) 53) 3 1)) := by
  obtain ⟨hL, hI, hT, hS, hF, hQ⟩ := h
  have hN := hI0.1
  generalize hτ : va_up (va_up (va_up (va_up (qL σ 27 N (σ 54)) 0 (upd (σ 0) 3 1)) 54 (σ 54)) 55 (σ 54)) 53 (upd (va_up (qL σ 27 N (σ 54)) 0 (upd (σ 0) 3 1) 53) 3 1) = τ
  have o : ∀ j, ¬ j = 0 → ¬ j = 53 → ¬ j = 55 → (j < 27 ∨ 40 ≤ j) → τ j = σ j := by
    intro j c1 c2 c3 c4
    rw [← hτ, qx_up_ne c2, qx_up_ne c3]
    by_cases e : j = 54
    · rw [e, qx_up_eq]
    · rw [qx_up_ne e, qx_up_ne c1, qL_o (by omega) (by omega)]
  have e53 : ∀ i, ¬ i = 3 → τ 53 i = σ 53 i := by
    intro i hi
    rw [← hτ, qx_up_eq, upd_ne hi, qx_up_ne (by omega), qL_o (by omega) (by omega)]
  have e27 : ∀ j, 27 ≤ j → j < 40 → τ j = qL σ 27 N (σ 54) j := by
    intro j c1 c2
    rw [← hτ, qx_up_ne (by omega), qx_up_ne (by omega), qx_up_ne (by omega), qx_up_ne (by omega)]
  have e55 : τ 55 = σ 54 := by rw [← hτ, qx_up_ne (by omega), qx_up_eq]
  refine ⟨rL_c hL (o 54 (by omega) (by omega) (by omega) (by omega)) (fun j c1 c2 => o j (by omega) (by omega) (by omega) (by omega)), ⟨by rw [← hτ]; rfl, fun _ => ⟨N, by rw [e55]; exact hI0, by rw [e55]; exact qH_o (Or.inr (Or.inr rfl)) hN qH_qL (fun k a b => e27 k a (by omega))⟩⟩,
    rT_c hT (by rw [o 40 (by omega) (by omega) (by omega) (by omega)]) (e53 6 (by omega)) (o 41 (by omega) (by omega) (by omega) (by omega)) (o 58 (by omega) (by omega) (by omega) (by omega)),
    rS_c hS (fun j c1 c2 => o j (by omega) (by omega) (by omega) (by omega)) (o 61 (by omega) (by omega) (by omega) (by omega)) (o 62 (by omega) (by omega) (by omega) (by omega)) (o 63 (by omega) (by omega) (by omega) (by omega)), rF_c hF (o 52 (by omega) (by omega) (by omega) (by omega)) (o 57 (by omega) (by omega) (by omega) (by omega)), qS_c hQ (fun j c1 c2 => o j (by omega) (by omega) (by omega) (by omega))⟩
theorem r_undo1 {σ : qx_Sg} {N : Nat} (h : rel σ) (hI0 : qv_ok (σ 55) N) : rel (va_up (qL σ 1 N (σ 55)) 54 (qL σ 1 N (σ 55) 55)) := by
  obtain ⟨hL, hI, hT, hS, hF, hQ⟩ := h
  have hN := hI0.1
  have e55 : qL σ 1 N (σ 55) 55 = σ 55 := qL_o (by omega) (by omega)
  rw [e55]
  have o : ∀ j, ¬ j = 54 → (j < 1 ∨ 14 ≤ j) → va_up (qL σ 1 N (σ 55)) 54 (σ 55) j = σ j := fun j c1 c2 => by rw [qx_up_ne c1, qL_o (by omega) (by omega)]
  refine ⟨⟨N, by rw [qx_up_eq]; exact hI0, by rw [qx_up_eq]; exact qH_o (Or.inl rfl) hN qH_qL (fun k a b => qx_up_ne (by omega))⟩, rI_c hI (by rw [o 0 (by omega) (by omega)]) (by rw [o 53 (by omega) (by omega)]) (o 55 (by omega) (by omega)) (fun j c1 c2 => o j (by omega) (by omega)),
    rT_c hT (by rw [o 40 (by omega) (by omega)]) (by rw [o 53 (by omega) (by omega)]) (o 41 (by omega) (by omega)) (o 58 (by omega) (by omega)),
    rS_c hS (fun j c1 c2 => o j (by omega) (by omega)) (o 61 (by omega) (by omega)) (o 62 (by omega) (by omega)) (o 63 (by omega) (by omega)), rF_c hF (o 52 (by omega) (by omega)) (o 57 (by omega) (by omega)), qS_c hQ (fun j c1 c2 => o j (by omega) (by omega))⟩
theorem r_status {σ : qx_Sg} {x : Int32} (h : rel σ) : (M_status (T_status σ x).2 x).1 = (T_status σ x).1 ∧ rel (M_status (T_status σ x).2 x).2 := by
  have hF := h.2.2.2.2.1
  have hc : (¬ x < -1 ∧ x < 7) ↔ (¬ x < -1 ∧ ¬ 6 < x) := by
    refine and_congr Iff.rfl ?_
    rw [Int32.lt_iff_toInt_lt, Int32.lt_iff_toInt_lt, show (7 : Int32).toInt = 7 from rfl, show (6 : Int32).toInt = 6 from rfl]
    omega
  by_cases c : ¬ x < -1 ∧ x < 7
  · by_cases c1 : x < 0
    · have eT : T_status σ x = (z_fo (z_Fsu (σ 52)) 7, σ) := (zw_t c).trans (zw_t c1)
      rw [eT]
      have eM : M_status σ x = (σ 57 (zn (x + 1)), σ) := zw_t (hc.mp c)
      rw [show M_status (z_fo (z_Fsu (σ 52)) 7, σ).2 x = _ from eM]
      refine ⟨?_, h⟩
      have e : x = -1 := by
        have h1 : ¬ x.toInt < (-1 : Int32).toInt := fun q => c.1 (Int32.lt_iff_toInt_lt.mpr q)
        have h2 := Int32.lt_iff_toInt_lt.mp c1
        rw [show (-1 : Int32).toInt = -1 from rfl] at h1
        rw [show (0 : Int32).toInt = 0 from rfl] at h2
        exact Int32.toInt_inj.mp (by rw [show (-1 : Int32).toInt = -1 from rfl]; omega)
      subst e
      exact hF.2
    · have eT : T_status σ x = (σ 52 (zn x), σ) := (zw_t c).trans (zw_f c1)
      rw [eT]
      have eM : M_status σ x = (σ 57 (zn (x + 1)), σ) := zw_t (hc.mp c)
      rw [show M_status (σ 52 (zn x), σ).2 x = _ from eM]
      refine ⟨?_, h⟩
      obtain ⟨i, hi, rfl⟩ := z_in_ex 6 rfl (by omega) (show z_in x 6 from ⟨c1, (hc.mp c).2⟩)
      show σ 57 (zn (nI i + 1)) = σ 52 (zn (nI i))
      rw [nI_1, zn_nI (by omega), zn_nI (by omega)]
      exact hF.1 i (by omega)
  · have eT : T_status σ x = z_bw σ 0 := zw_f c
    rw [eT]
    have eM : M_status (z_bw σ 0).2 x = m_bw (z_bw σ 0).2 0 := zw_f (fun q => c (hc.mpr q))
    rw [eM]
    exact ⟨rfl, rel_bad (by omega) h⟩
theorem z_us_nn {x s : Int32} : ¬ (z_us x s &&& 255) < 0 := by
  intro q
  rw [Int32.lt_iff_toInt_lt] at q
  rw [show (0 : Int32).toInt = 0 from rfl] at q
  have h1 : (z_us x s &&& 255).toBitVec.toNat < 256 := by
    show ((z_us x s).toBitVec &&& 255#32).toNat < 256
    rw [BitVec.toNat_and]
    exact Nat.lt_of_le_of_lt Nat.and_le_right (by decide)
  have h2 : (z_us x s &&& 255).toInt = ((z_us x s &&& 255).toBitVec.toNat : Int) := by
    show (z_us x s &&& 255).toBitVec.toInt = _
    rw [BitVec.toInt_eq_toNat_of_lt (by omega)]
  omega
theorem z_fd_nn {x : Int32} : ∀ k t (r : Nat → Int32), (∀ i, ¬ r i < 0) → ∀ i, ¬ z_fd x k t r i < 0 := by
  intro k
  induction k with
  | zero => intro t r h i; exact h i
  | succ k ih =>
    intro t r h i
    refine ih (t + 1) _ (fun j => ?_) i
    by_cases e : j = t
    · subst e; rw [upd_eq]; exact z_us_nn
    · rw [upd_ne e]; exact h j
theorem r_feed {σ : qx_Sg} {x n : Int32} (h : rel σ) : (M_feed (T_feed σ x n).2 x n).1 = (T_feed σ x n).1 ∧ rel (M_feed (T_feed σ x n).2 x n).2 := by
  have h0 := h
  obtain ⟨hL, hI, hT, hS, hF, hQ⟩ := h
  obtain ⟨⟨t, a1, a2, a3⟩, a4, a5⟩ := hT
  have hc : (¬ n < 1 ∧ n ≤ 4) ↔ (¬ n < 1 ∧ ¬ 4 < n) := and_congr Iff.rfl Int32.not_lt.symm
  by_cases c : ¬ n < 1 ∧ n ≤ 4
  · by_cases c1 : σ 40 1 + n ≤ 120
    · have eT : T_feed σ x n = (σ 40 1 + n, va_up (va_up σ 41 (z_fd x (zn n) (zn (σ 40 1)) (σ 41))) 40 (upd (σ 40) 1 (σ 40 1 + n))) := (zw_t c).trans (zw_t c1)
      generalize hτ : va_up (va_up σ 41 (z_fd x (zn n) (zn (σ 40 1)) (σ 41))) 40 (upd (σ 40) 1 (σ 40 1 + n)) = τ at eT
      have e53 : τ 53 = σ 53 := by rw [← hτ, qx_up_ne (by omega), qx_up_ne (by omega)]
      have e58 : τ 58 = σ 58 := by rw [← hτ, qx_up_ne (by omega), qx_up_ne (by omega)]
      have e41 : τ 41 = z_fd x (zn n) (zn (σ 40 1)) (σ 41) := by rw [← hτ, qx_up_ne (by omega), qx_up_eq]
      have e40 : τ 40 1 = σ 40 1 + n := by rw [← hτ, qx_up_eq, upd_eq]
      rw [eT]
      have eM : M_feed τ x n = (τ 53 6 + n, va_up (va_up τ 58 (z_fd x (zn n) (zn (τ 53 6)) (τ 58))) 53 (upd (τ 53) 6 (τ 53 6 + n))) := (zw_t (hc.mp c)).trans (zw_t (by rw [e53, a3, ← a2]; exact c1))
      rw [show M_feed (σ 40 1 + n, τ).2 x n = _ from eM]
      have hs : τ 53 6 = σ 40 1 := by rw [e53, a3, a2]
      refine ⟨by show τ 53 6 + n = σ 40 1 + n; rw [hs], ?_⟩
      show rel (va_up (va_up τ 58 (z_fd x (zn n) (zn (τ 53 6)) (τ 58))) 53 (upd (τ 53) 6 (τ 53 6 + n)))
      rw [hs, e58, e53]
      have o : ∀ j, ¬ j = 40 → ¬ j = 41 → ¬ j = 53 → ¬ j = 58 → va_up (va_up τ 58 (z_fd x (zn n) (zn (σ 40 1)) (σ 58))) 53 (upd (σ 53) 6 (σ 40 1 + n)) j = σ j := by
        intro j c1 c2 c3 c4
        rw [qx_up_ne c3, qx_up_ne c4, ← hτ, qx_up_ne c1, qx_up_ne c2]
      obtain ⟨m, hm, em⟩ := nI_of2 (M := 4) (n := 4) rfl (fun q => c.1 (Int32.lt_of_lt_of_le q (by decide))) c.2
      have hle : t + m ≤ 120 := by
        rw [a2, em, nI_add] at c1
        exact (nI_leI (a := t + m) (b := 120) (by omega) (by omega)).mp c1
      refine ⟨rL_c hL (o 54 (by omega) (by omega) (by omega) (by omega)) (fun j c1 c2 => o j (by omega) (by omega) (by omega) (by omega)), rI_c hI (by rw [o 0 (by omega) (by omega) (by omega) (by omega)]) (by rw [qx_up_eq, upd_ne (by omega)]) (o 55 (by omega) (by omega) (by omega) (by omega)) (fun j c1 c2 => o j (by omega) (by omega) (by omega) (by omega)),
        ⟨⟨t + m, hle, ?_, ?_⟩, ?_, ?_⟩, rS_c hS (fun j c1 c2 => o j (by omega) (by omega) (by omega) (by omega)) (o 61 (by omega) (by omega) (by omega) (by omega)) (o 62 (by omega) (by omega) (by omega) (by omega)) (o 63 (by omega) (by omega) (by omega) (by omega)), rF_c hF (o 52 (by omega) (by omega) (by omega) (by omega)) (o 57 (by omega) (by omega) (by omega) (by omega)), qS_c hQ (fun j c1 c2 => o j (by omega) (by omega) (by omega) (by omega))⟩
      · rw [qx_up_ne (by omega), qx_up_ne (by omega), e40, a2, em, nI_add]
      · rw [qx_up_eq, upd_eq, a2, em, nI_add]
      · rw [qx_up_ne (by omega), qx_up_ne (by omega), e41, qx_up_ne (by omega), qx_up_eq, a4]
      · rw [qx_up_ne (by omega), qx_up_eq]
        exact z_fd_nn _ _ _ a5
    · have eT : T_feed σ x n = z_bw σ 1 := (zw_t c).trans (zw_f c1)
      rw [eT]
      have eM : M_feed (z_bw σ 1).2 x n = m_bw (z_bw σ 1).2 1 := (zw_t (hc.mp c)).trans (zw_f (fun q => c1 (by rw [a2, ← a3]; exact q)))
      rw [eM]
      exact ⟨rfl, rel_bad (by omega) h0⟩
  · have eT : T_feed σ x n = z_bw σ 0 := zw_f c
    rw [eT]
    have eM : M_feed (z_bw σ 0).2 x n = m_bw (z_bw σ 0).2 0 := zw_f (fun q => c (hc.mpr q))
    rw [eM]
    exact ⟨rfl, rel_bad (by omega) h0⟩
/-- the sheets alone have changed: both sides' -/
theorem rel_sh {σ τ : qx_Sg} (h : rel σ) (o : ∀ k, (k < 44 ∨ 52 ≤ k) → ¬ k = 61 → ¬ k = 62 → ¬ k = 63 → ¬ k = 64 → τ k = σ k) (hS : rS τ) (hQ : qS_ok τ) : rel τ := by
  obtain ⟨hL, hI, hT, -, hF, -⟩ := h
  exact ⟨rL_c hL (o 54 (by omega) (by omega) (by omega) (by omega) (by omega)) (fun j c1 c2 => o j (by omega) (by omega) (by omega) (by omega) (by omega)), rI_c hI (by rw [o 0 (by omega) (by omega) (by omega) (by omega) (by omega)]) (by rw [o 53 (by omega) (by omega) (by omega) (by omega) (by omega)]) (o 55 (by omega) (by omega) (by omega) (by omega) (by omega)) (fun j c1 c2 => o j (by omega) (by omega) (by omega) (by omega) (by omega)),
    rT_c hT (by rw [o 40 (by omega) (by omega) (by omega) (by omega) (by omega)]) (by rw [o 53 (by omega) (by omega) (by omega) (by omega) (by omega)]) (o 41 (by omega) (by omega) (by omega) (by omega) (by omega)) (o 58 (by omega) (by omega) (by omega) (by omega) (by omega)), hS, rF_c hF (o 52 (by omega) (by omega) (by omega) (by omega) (by omega)) (o 57 (by omega) (by omega) (by omega) (by omega) (by omega)), hQ⟩
theorem r_sheet {σ : qx_Sg} {s b n : Int32} (h : rel σ) : (M_sheet (T_sheet σ s b n).2 s b n).1 = (T_sheet σ s b n).1 ∧ rel (M_sheet (T_sheet σ s b n).2 s b n).2 := by
  have hS := h.2.2.2.1
  have hQ := h.2.2.2.2.2
  by_cases c : z_in s 3 ∧ z_bit b
  · by_cases c1 : n < 0
    · rw [show T_sheet σ s b n = z_bw σ 6 from (zw_t c).trans (zw_t c1), show M_sheet (z_bw σ 6).2 s b n = m_bw (z_bw σ 6).2 6 from (zw_t c).trans (zw_t c1)]
      exact ⟨rfl, rel_bad (by omega) h⟩
    · by_cases c2 : 40 < n
      · rw [show T_sheet σ s b n = z_bw σ 0 from (zw_t c).trans ((zw_f c1).trans (zw_t c2)), show M_sheet (z_bw σ 0).2 s b n = m_bw (z_bw σ 0).2 0 from (zw_t c).trans ((zw_f c1).trans (zw_t c2))]
        exact ⟨rfl, rel_bad (by omega) h⟩
      · have eT : T_sheet σ s b n = (z_sb b n 1, va_up (va_up σ (44 + zn s) (z_sb b n)) (44 + zn s + 4) (fun _ => 0)) := (zw_t c).trans ((zw_f c1).trans (zw_f c2))
        obtain ⟨j, hj, ej⟩ := z_in_ex 3 rfl (by omega) c.1
        have hz : zn s = j := by rw [ej, zn_nI (by omega)]
        rw [hz] at eT
        generalize hτ : va_up (va_up σ (44 + j) (z_sb b n)) (44 + j + 4) (fun _ => 0) = τ at eT
        rw [eT]
        have eM : M_sheet τ s b n = (z_sb b n 1, va_up (va_up (va_up τ 61 (upd (τ 61) (zn s) b)) 62 (upd (τ 62) (zn s) (z_sb b n 1))) 63 (m_zr (τ 63) (40 * zn s) 40)) := (zw_t c).trans ((zw_f c1).trans (zw_f c2))
        rw [hz] at eM
        rw [show M_sheet (z_sb b n 1, τ).2 s b n = _ from eM]
        have oT : ∀ k, ¬ k = 44 + j → ¬ k = 48 + j → τ k = σ k := fun k h1 h2 => by rw [← hτ, qx_up_ne (by omega), qx_up_ne h1]
        have t1 : τ (44 + j) = z_sb b n := by rw [← hτ, qx_up_ne (by omega), qx_up_eq]
        have t2 : τ (44 + j + 4) = fun _ => 0 := by rw [← hτ, qx_up_eq]
        obtain ⟨q, hq, eq⟩ := z_in_ex 40 rfl (by omega) (show z_in n 40 from ⟨c1, c2⟩)
        refine ⟨rfl, rel_sh h (fun k h1 h2 h3 h4 h5 => ?_) (fun i hi => ?_) (fun i hi => ?_)⟩
        · show va_up (va_up (va_up τ 61 _) 62 _) 63 _ k = σ k
          rw [qx_up_ne h4, qx_up_ne h3, qx_up_ne h2, oT k (by omega) (by omega)]
        · show va_up (va_up (va_up τ 61 (upd (τ 61) j b)) 62 (upd (τ 62) j (z_sb b n 1))) 63 (m_zr (τ 63) (40 * j) 40) (44 + i) 0 = va_up (va_up (va_up τ 61 (upd (τ 61) j b)) 62 (upd (τ 62) j (z_sb b n 1))) 63 (m_zr (τ 63) (40 * j) 40) 61 i ∧ va_up (va_up (va_up τ 61 (upd (τ 61) j b)) 62 (upd (τ 62) j (z_sb b n 1))) 63 (m_zr (τ 63) (40 * j) 40) (44 + i) 1 = va_up (va_up (va_up τ 61 (upd (τ 61) j b)) 62 (upd (τ 62) j (z_sb b n 1))) 63 (m_zr (τ 63) (40 * j) 40) 62 i ∧ ∀ x, x < 40 → va_up (va_up (va_up τ 61 (upd (τ 61) j b)) 62 (upd (τ 62) j (z_sb b n 1))) 63 (m_zr (τ 63) (40 * j) 40) (44 + i + 4) x = va_up (va_up (va_up τ 61 (upd (τ 61) j b)) 62 (upd (τ 62) j (z_sb b n 1))) 63 (m_zr (τ 63) (40 * j) 40) 63 (40 * i + x)
          rw [qx_up_ne (show 44 + i ≠ 63 by omega), qx_up_ne (show 44 + i ≠ 62 by omega), qx_up_ne (show 44 + i ≠ 61 by omega), qx_up_ne (show 61 ≠ 63 by omega), qx_up_ne (show 61 ≠ 62 by omega), qx_up_eq, qx_up_ne (show 62 ≠ 63 by omega), qx_up_eq, qx_up_ne (show 44 + i + 4 ≠ 63 by omega), qx_up_ne (show 44 + i + 4 ≠ 62 by omega), qx_up_ne (show 44 + i + 4 ≠ 61 by omega), qx_up_eq]
          by_cases e : i = j
          · subst e
            rw [t1, t2, upd_eq, upd_eq]
            exact ⟨rfl, rfl, fun x hx => (if_pos ⟨by omega, by omega⟩).symm⟩
          · rw [oT (44 + i) (by omega) (by omega), oT (44 + i + 4) (by omega) (by omega), upd_ne e, upd_ne e, oT 61 (by omega) (by omega), oT 62 (by omega) (by omega), oT 63 (by omega) (by omega)]
            refine ⟨(hS i hi).1, (hS i hi).2.1, fun x hx => ((hS i hi).2.2 x hx).trans ?_⟩
            exact (if_neg (by omega)).symm
        · show z_bit (va_up (va_up (va_up τ 61 _) 62 _) 63 _ (44 + i) 0) ∧ ∃ m, m ≤ 40 ∧ va_up (va_up (va_up τ 61 _) 62 _) 63 _ (44 + i) 1 = nI m
          rw [qx_up_ne (show 44 + i ≠ 63 by omega), qx_up_ne (show 44 + i ≠ 62 by omega), qx_up_ne (show 44 + i ≠ 61 by omega)]
          by_cases e : i = j
          · subst e
            rw [t1]
            refine ⟨c.2, ?_⟩
            show ∃ m, m ≤ 40 ∧ (if b = 0 then 0 else n) = nI m
            by_cases hb : b = 0
            · rw [if_pos hb]; exact ⟨0, by omega, rfl⟩
            · rw [if_neg hb]; exact ⟨q, hq, eq⟩
          · rw [oT (44 + i) (by omega) (by omega)]
            exact hQ i hi
  · rw [show T_sheet σ s b n = z_bw σ 0 from zw_f c, show M_sheet (z_bw σ 0).2 s b n = m_bw (z_bw σ 0).2 0 from zw_f c]
    exact ⟨rfl, rel_bad (by omega) h⟩
/-- numbers of one sheet alone have changed, on both sides alike -/
theorem rel_nm {σ τ : qx_Sg} {j : Nat} {f g : Nat → Int32} (hj : j < 4) (h : rel σ) (o : ∀ k, ¬ k = 44 + j + 4 → ¬ k = 63 → ¬ k = 64 → τ k = σ k) (e1 : τ (44 + j + 4) = f) (e2 : τ 63 = g) (hf : ∀ i, i < 40 → f i = g (40 * j + i)) (hg : ∀ s, s < 4 → ¬ s = j → ∀ i, i < 40 → g (40 * s + i) = σ 63 (40 * s + i)) : rel τ := by
  have hS := h.2.2.2.1
  have hQ := h.2.2.2.2.2
  refine rel_sh h (fun k h1 h2 h3 h4 h5 => o k (by omega) h4 h5) (fun s hs => ?_) (fun s hs => ?_)
  · rw [o (44 + s) (by omega) (by omega) (by omega), o 61 (by omega) (by omega) (by omega), o 62 (by omega) (by omega) (by omega)]
    refine ⟨(hS s hs).1, (hS s hs).2.1, fun i hi => ?_⟩
    by_cases e : s = j
    · subst e
      rw [e1, e2]
      exact hf i hi
    · rw [o (44 + s + 4) (by omega) (by omega) (by omega), e2, hg s hs e i hi]
      exact (hS s hs).2.2 i hi
  · rw [o (44 + s) (by omega) (by omega) (by omega)]
    exact hQ s hs
theorem r_write {σ : qx_Sg} {s i v : Int32} (h : rel σ) : (M_write (T_write σ s i v).2 s i v).1 = (T_write σ s i v).1 ∧ rel (M_write (T_write σ s i v).2 s i v).2 := by
  have hS := h.2.2.2.1
  have hQ := h.2.2.2.2.2
  by_cases c : z_in s 3
  · obtain ⟨j, hj, ej⟩ := z_in_ex 3 rfl (by omega) c
    have hz : zn s = j := by rw [ej, zn_nI (by omega)]
    obtain ⟨s1, s2, s3⟩ := hS j (by omega)
    obtain ⟨n, hn, en⟩ := (hQ j (by omega)).2
    by_cases c1 : σ (44 + zn s) 0 = 0
    · have c1' : σ 61 (zn s) = 0 := by rw [hz] at c1 ⊢; rw [← s1]; exact c1
      rw [show T_write σ s i v = z_bw σ 5 from (zw_t c).trans (zw_t c1), show M_write (z_bw σ 5).2 s i v = m_bw (z_bw σ 5).2 5 from (zw_t c).trans (zw_t c1')]
      exact ⟨rfl, rel_bad (by omega) h⟩
    · have c1' : ¬ σ 61 (zn s) = 0 := fun q => c1 (by rw [hz] at q ⊢; rw [s1]; exact q)
      by_cases c2 : z_in i (σ (44 + zn s) 1 - 1)
      · have c2' : z_in i (σ 62 (zn s) - 1) := by rw [hz] at c2 ⊢; rw [← s2]; exact c2
        have eT : T_write σ s i v = (1, va_up σ (44 + zn s + 4) (upd (σ (44 + zn s + 4)) (zn i) (z_cut (σ (44 + zn s) 0) v))) := (zw_t c).trans ((zw_f c1).trans (zw_t c2))
        rw [hz] at eT c2
        generalize hτ : va_up σ (44 + j + 4) (upd (σ (44 + j + 4)) (zn i) (z_cut (σ (44 + j) 0) v)) = τ at eT
        rw [eT]
        have oT : ∀ k, ¬ k = 44 + j + 4 → τ k = σ k := fun k h1 => by rw [← hτ, qx_up_ne h1]
        have eM : M_write τ s i v = (1, va_up τ 63 (upd (τ 63) (40 * zn s + zn i) (z_cut (τ 61 (zn s)) v))) := (zw_t c).trans ((zw_f (by rw [oT 61 (by omega)]; exact c1')).trans (zw_t (by rw [oT 62 (by omega)]; exact c2')))
        rw [hz, oT 63 (by omega), oT 61 (by omega)] at eM
        rw [show M_write (1, τ).2 s i v = _ from eM]
        have hi40 : zn i < 40 := by
          rw [en] at c2
          obtain ⟨x, hx, ex⟩ := nI_of c2.1
          have h2 : ¬ nI n - 1 < nI x := by rw [← ex]; exact c2.2
          rw [ex, zn_nI hx]
          rcases Nat.eq_zero_or_pos n with e0 | e0
          · subst e0
            exact absurd (Int32.lt_iff_toInt_lt.mpr (by rw [show (nI 0 - 1).toInt = -1 from rfl, nI_toInt hx]; omega)) h2
          · rw [show nI n - 1 = nI (n - 1) from pk_sub (a := n) (b := 1) e0] at h2
            have := Nat.not_lt.mp (fun q => h2 (nI_lt q hx))
            omega
        refine ⟨rfl, rel_nm (j := j) (f := upd (σ (44 + j + 4)) (zn i) (z_cut (σ (44 + j) 0) v)) (g := upd (σ 63) (40 * j + zn i) (z_cut (σ 61 j) v)) (by omega) h (fun k h1 h2 h3 => by show va_up τ 63 _ k = σ k; rw [qx_up_ne h2, oT k h1]) (by show va_up τ 63 _ (44 + j + 4) = _; rw [qx_up_ne (by omega), ← hτ, qx_up_eq]) (show va_up τ 63 (upd (σ 63) (40 * j + zn i) (z_cut (σ 61 j) v)) 63 = _ from qx_up_eq) (fun x hx => ?_) (fun t ht hne x hx => upd_ne (by omega))⟩
        by_cases e : x = zn i
        · rw [e, upd_eq, upd_eq, s1]
        · rw [upd_ne e, upd_ne (by omega)]
          exact s3 x hx
      · have c2' : ¬ z_in i (σ 62 (zn s) - 1) := fun q => c2 (by rw [hz] at q ⊢; rw [s2]; exact q)
        rw [show T_write σ s i v = z_bw σ 0 from (zw_t c).trans ((zw_f c1).trans (zw_f c2)), show M_write (z_bw σ 0).2 s i v = m_bw (z_bw σ 0).2 0 from (zw_t c).trans ((zw_f c1').trans (zw_f c2'))]
        exact ⟨rfl, rel_bad (by omega) h⟩
  · rw [show T_write σ s i v = z_bw σ 0 from zw_f c, show M_write (z_bw σ 0).2 s i v = m_bw (z_bw σ 0).2 0 from zw_f c]
    exact ⟨rfl, rel_bad (by omega) h⟩
theorem r_sps_ex {m : Nat} {f n : Int32} (hm : m ≤ 40) (h : z_sps (nI m) f n) : ∃ a k, f = nI a ∧ n = nI k ∧ a + k ≤ m := by
  obtain ⟨h1, h2, h3, h4⟩ := h
  obtain ⟨a, ha, rfl⟩ := nI_of h1
  obtain ⟨k, hk, rfl⟩ := nI_of h2
  have hkm : k ≤ m := Nat.not_lt.mp (fun q => h3 (nI_lt q hk))
  rw [pk_sub hkm] at h4
  have := Nat.not_lt.mp (fun q => h4 (nI_lt q ha))
  exact ⟨a, k, rfl, rfl, by omega⟩
theorem r_copy {σ σ2 : qx_Sg} {s f t g n : Int32} (h : rel σ) (hM : ∀ k, ¬ k = 64 → σ2 k = (M_copy (T_copy σ s f t g n).2 s f t g n).2 k) : (M_copy (T_copy σ s f t g n).2 s f t g n).1 = (T_copy σ s f t g n).1 ∧ rel σ2 := by
  have hS := h.2.2.2.1
  have hQ := h.2.2.2.2.2
  have h64 : ∀ τ : qx_Sg, rel τ → (∀ k, ¬ k = 64 → σ2 k = τ k) → rel σ2 := fun τ hτ e => rel_sh hτ (fun k _ _ _ _ h5 => e k h5) (rS_c hτ.2.2.2.1 (fun k h1 h2 => e k (by omega)) (e 61 (by omega)) (e 62 (by omega)) (e 63 (by omega))) (qS_c hτ.2.2.2.2.2 (fun k h1 h2 => e k (by omega)))
  by_cases c : z_in s 3 ∧ z_in t 3
  · obtain ⟨j, hj, ej⟩ := z_in_ex 3 rfl (by omega) c.1
    obtain ⟨i, hi, ei⟩ := z_in_ex 3 rfl (by omega) c.2
    have hz : zn s = j := by rw [ej, zn_nI (by omega)]
    have hy : zn t = i := by rw [ei, zn_nI (by omega)]
    obtain ⟨s1, s2, s3⟩ := hS j (by omega)
    obtain ⟨t1, t2, t3⟩ := hS i (by omega)
    obtain ⟨m, hm, em⟩ := (hQ j (by omega)).2
    obtain ⟨m2, hm2, em2⟩ := (hQ i (by omega)).2
    have q1 : (σ (44 + zn s) 0 = 0 ∨ σ (44 + zn t) 0 = 0) ↔ (σ 61 (zn s) = 0 ∨ σ 61 (zn t) = 0) := by rw [hz, hy, s1, t1]
    have q2 : σ (44 + zn s) 0 = σ (44 + zn t) 0 ↔ σ 61 (zn s) = σ 61 (zn t) := by rw [hz, hy, s1, t1]
    have q3 : (z_sps (σ (44 + zn s) 1) f n ∧ z_sps (σ (44 + zn t) 1) g n) ↔ (z_sps (σ 62 (zn s)) f n ∧ z_sps (σ 62 (zn t)) g n) := by rw [hz, hy, s2, t2]
    by_cases c1 : σ (44 + zn s) 0 = 0 ∨ σ (44 + zn t) 0 = 0
    · have eT : T_copy σ s f t g n = z_bw σ 5 := (zw_t c).trans (zw_t c1)
      have eM : M_copy (z_bw σ 5).2 s f t g n = m_bw (z_bw σ 5).2 5 := (zw_t c).trans (zw_t (q1.mp c1))
      rw [eT, eM] at hM
      rw [eT, eM]
      exact ⟨rfl, h64 _ (rel_bad (by omega) h) hM⟩
    · by_cases c2 : σ (44 + zn s) 0 = σ (44 + zn t) 0
      · by_cases c3 : z_sps (σ (44 + zn s) 1) f n ∧ z_sps (σ (44 + zn t) 1) g n
        · have eT : T_copy σ s f t g n = (n, va_up σ (44 + zn t + 4) (va_cpy (σ (44 + zn s + 4)) (σ (44 + zn t + 4)) (zn f) (zn g) (zn n))) := (zw_t c).trans ((zw_f c1).trans ((zw_t c2).trans (zw_t c3)))
          rw [hz, hy] at eT
          generalize hτ : va_up σ (44 + i + 4) (va_cpy (σ (44 + j + 4)) (σ (44 + i + 4)) (zn f) (zn g) (zn n)) = τ at eT
          have oT : ∀ k, ¬ k = 44 + i + 4 → τ k = σ k := fun k h1 => by rw [← hτ, qx_up_ne h1]
          have eM : M_copy τ s f t g n = (n, va_up τ 63 (m_cp (τ 63) (40 * zn s + zn f) (40 * zn t + zn g) (zn n))) := (zw_t c).trans ((zw_f (by rw [oT 61 (by omega)]; exact fun q => c1 (q1.mpr q))).trans ((zw_t (by rw [oT 61 (by omega)]; exact q2.mp c2)).trans (zw_t (by rw [oT 62 (by omega)]; exact q3.mp c3))))
          rw [hz, hy, oT 63 (by omega)] at eM
          rw [eT, show M_copy (n, τ).2 s f t g n = _ from eM] at hM
          rw [eT, show M_copy (n, τ).2 s f t g n = _ from eM]
          rw [hz, hy, em, em2] at c3
          obtain ⟨a, k, ea, ek, hak⟩ := r_sps_ex hm c3.1
          obtain ⟨b, k2, eb, ek2, hbk⟩ := r_sps_ex hm2 c3.2
          have hkk : k2 = k := (nI_eq (by omega) (by omega)).mp (ek2.symm.trans ek)
          subst hkk
          have za : zn f = a := by rw [ea, zn_nI (by omega)]
          have zb : zn g = b := by rw [eb, zn_nI (by omega)]
          have zk : zn n = k2 := by rw [ek, zn_nI (by omega)]
          rw [za, zb, zk] at hM
          rw [za, zb, zk] at hτ
          refine ⟨rfl, rel_nm (j := i) (f := va_cpy (σ (44 + j + 4)) (σ (44 + i + 4)) a b k2) (g := m_cp (σ 63) (40 * j + a) (40 * i + b) k2) (by omega) h (fun x h1 h2 h3 => ?_) ?_ ?_ (fun x hx => ?_) (fun u hu hne x hx => if_neg (by omega))⟩
          · rw [hM x h3]
            show va_up τ 63 _ x = σ x
            rw [qx_up_ne h2, oT x h1]
          · rw [hM _ (by omega)]
            show va_up τ 63 _ (44 + i + 4) = _
            rw [qx_up_ne (by omega), ← hτ, qx_up_eq]
          · rw [hM _ (by omega)]
            show va_up τ 63 (m_cp (σ 63) (40 * j + a) (40 * i + b) k2) 63 = _
            exact qx_up_eq
          · show (if b ≤ x ∧ x < b + k2 then σ (44 + j + 4) (a + (x - b)) else σ (44 + i + 4) x) = (if 40 * i + b ≤ 40 * i + x ∧ 40 * i + x < 40 * i + b + k2 then σ 63 (40 * j + a + (40 * i + x - (40 * i + b))) else σ 63 (40 * i + x))
            by_cases e : b ≤ x ∧ x < b + k2
            · rw [if_pos e, if_pos ⟨by omega, by omega⟩, s3 _ (by omega), show 40 * j + a + (40 * i + x - (40 * i + b)) = 40 * j + (a + (x - b)) by omega]
            · rw [if_neg e, if_neg (by omega)]
              exact t3 x hx
        · have eT : T_copy σ s f t g n = z_bw σ 0 := (zw_t c).trans ((zw_f c1).trans ((zw_t c2).trans (zw_f c3)))
          have eM : M_copy (z_bw σ 0).2 s f t g n = m_bw (z_bw σ 0).2 0 := (zw_t c).trans ((zw_f (fun q => c1 (q1.mpr q))).trans ((zw_t (q2.mp c2)).trans (zw_f (fun q => c3 (q3.mpr q)))))
          rw [eT, eM] at hM
          rw [eT, eM]
          exact ⟨rfl, h64 _ (rel_bad (by omega) h) hM⟩
      · have eT : T_copy σ s f t g n = z_bw σ 2 := (zw_t c).trans ((zw_f c1).trans (zw_f c2))
        have eM : M_copy (z_bw σ 2).2 s f t g n = m_bw (z_bw σ 2).2 2 := (zw_t c).trans ((zw_f (fun q => c1 (q1.mpr q))).trans (zw_f (fun q => c2 (q2.mpr q))))
        rw [eT, eM] at hM
        rw [eT, eM]
        exact ⟨rfl, h64 _ (rel_bad (by omega) h) hM⟩
  · have eT : T_copy σ s f t g n = z_bw σ 0 := zw_f c
    have eM : M_copy (z_bw σ 0).2 s f t g n = m_bw (z_bw σ 0).2 0 := zw_f c
    rw [eT, eM] at hM
    rw [eT, eM]
    exact ⟨rfl, h64 _ (rel_bad (by omega) h) hM⟩
theorem r_text {σ σ1 σ2 : qx_Sg} {T : Int32 × Nat × (Nat → Int32)} (h : rel σ) (hT : qv_ok T.2.2 T.2.1) (h1 : qH σ1 1 T.2.1 T.2.2) (h2 : σ1 40 1 = 0) (h3 : ∀ k, k < 65 → ¬ (1 ≤ k ∧ k < 27) → ¬ k = 40 → ¬ k = 42 → σ1 k = σ k) (g1 : σ2 54 = T.2.2) (g2 : σ2 53 6 = 0) (g3 : σ2 53 3 = σ1 53 3) (g4 : ∀ k, k < 65 → ¬ k = 53 → ¬ k = 54 → ¬ k = 60 → σ2 k = σ1 k) : rel σ2 := by
  obtain ⟨-, hI, hT0, hS, hF, hQ⟩ := h
  have o : ∀ k, k < 65 → ¬ (1 ≤ k ∧ k < 27) → ¬ k = 40 → ¬ k = 42 → ¬ k = 53 → ¬ k = 54 → ¬ k = 60 → σ2 k = σ k := fun k hk c1 c2 c3 c4 c5 c6 => (g4 k hk c4 c5 c6).trans (h3 k hk c1 c2 c3)
  have o' : ∀ k, k < 65 → (k = 0 ∨ (27 ≤ k ∧ k < 40) ∨ k = 41 ∨ (43 ≤ k ∧ k < 53) ∨ (55 ≤ k ∧ k < 60) ∨ 61 ≤ k) → σ2 k = σ k := fun k hk c => o k hk (by omega) (by omega) (by omega) (by omega) (by omega) (by omega)
  refine ⟨⟨T.2.1, by rw [g1]; exact hT, by rw [g1]; exact qH_o (Or.inl rfl) hT.1 h1 (fun k a b => g4 k (by omega) (by omega) (by omega) (by omega))⟩, rI_c hI (by rw [o' 0 (by omega) (by omega)]) (by rw [g3, h3 53 (by omega) (by omega) (by omega) (by omega)]) (o' 55 (by omega) (by omega)) (fun k a b => o' k (by omega) (by omega)), ⟨⟨0, by omega, by rw [g4 40 (by omega) (by omega) (by omega) (by omega)]; exact h2, g2⟩, ?_, ?_⟩,
    rS_c hS (fun k a b => o' k (by omega) (by omega)) (o' 61 (by omega) (by omega)) (o' 62 (by omega) (by omega)) (o' 63 (by omega) (by omega)), rF_c hF (o' 52 (by omega) (by omega)) (o' 57 (by omega) (by omega)), qS_c hQ (fun k a b => o' k (by omega) (by omega))⟩
  · rw [o' 41 (by omega) (by omega), o' 58 (by omega) (by omega)]; exact hT0.2.1
  · rw [o' 58 (by omega) (by omega)]; exact hT0.2.2
