/-! the model: sheets, counts, draws, bytes, kinds above -/
def m_rk (j : Nat) : Nat := ([0, 1, 1, 2, 3, 1, 2] : List Nat).getD j 0
theorem m_rk_s {j : Nat} (hj : j < 7) (h0 : ¬ j = 0) : m_rk (z_ab j) < m_rk j ∧ z_ab j < 7 := by
  have : j = 1 ∨ j = 2 ∨ j = 3 ∨ j = 4 ∨ j = 5 ∨ j = 6 := by omega
  rcases this with rfl | rfl | rfl | rfl | rfl | rfl <;> exact ⟨by decide, by decide⟩
theorem m_rk_7 {j : Nat} (hj : j < 7) : m_rk j < 7 := by
  have : j = 0 ∨ j = 1 ∨ j = 2 ∨ j = 3 ∨ j = 4 ∨ j = 5 ∨ j = 6 := by omega
  rcases this with rfl | rfl | rfl | rfl | rfl | rfl | rfl <;> decide
def m_iu (w : Int32) (j0 f : Nat) (a : Int32) : Prop := (∃ j, j < 7 ∧ a = nI j ∧ (z_is j0 w ↔ z_isF w f j) ∧ m_rk j < f) ∨ (a = -1 ∧ ¬ z_is j0 w)
theorem m_dr {v : Nat → Int32} {j : Nat} {x : Int32} : z_dr (upd (z_dr v) (4 + j) x) = upd (z_dr (z_dr v)) (4 + j) x := by
  funext i
  unfold z_dr upd
  by_cases e : i = 2
  · subst e
    have h : ¬ (2 : Nat) = 4 + j := by omega
    simp [h]
  · by_cases e2 : i = 4 + j
    · subst e2
      have h : ¬ 4 + j = 2 := by omega
      simp [h]
    · simp [e, e2]
theorem m_lk1_cases (σ : qx_Sg) (s : Int32) : (¬ z_in s 3 ∧ m_lk σ s 1 = -1000001) ∨ (z_in s 3 ∧ σ 61 (zn s) = 0 ∧ m_lk σ s 1 = -1000006) ∨ (z_in s 3 ∧ ¬ σ 61 (zn s) = 0 ∧ m_lk σ s 1 = 0) := by
  rcases m_lk_cases σ s 1 with ⟨h1, e⟩ | ⟨h1, h2, e⟩ | ⟨h1, h2, h3, e⟩ | ⟨h1, h2, h3, e⟩
  · exact Or.inl ⟨h1, e⟩
  · exact Or.inr (Or.inl ⟨h1, h2, e⟩)
  · exact absurd h3 (by decide)
  · exact Or.inr (Or.inr ⟨h1, h2, e⟩)
theorem c_X6_load (l : Launch) (G : qx_G) (σ : qx_Sg) (N : Nat) (v : Nat → Int32) (hI : qv_ok v N) (hSh : qS_ok (m_vw σ)) (s : Int32) : qx_Ct l G yX6_load cX6_load 3 (some .int) 3 64 [.ref (qx_ad G 53), .int s] (va_up σ 54 v) (qMx σ (S_load N v (m_vw σ) s)) := by
  refine qx_of .int (lo := [(0, .ref (qx_ad G 53)), (1, .int s)]) (by decide +kernel) (Nat.le_of_ble_eq_true rfl) rfl (fun Δ (C : qx_C G Δ cX6_load RX6 3 3 64) hret => ?_)
  have hN8 := hI.1
  have hN1 := hI.2.1
  refine qk_aloadn C dX6_load_0 1 rfl rfl 0 rfl ?_
  refine qk_iloadn C dX6_load_1 2 rfl rfl 1 rfl ?_
  refine qk_iconst C (1) dX6_load_2 3 rfl rfl ?_
  refine qk_callV C dX6_load_3 6 rfl ql_X6_231 qc_X6_lacks 53 (by decide) rfl rfl (c_X6_lacks l G _ _ _) rfl rfl (Nat.le_of_ble_eq_true rfl) ⟨(Nat.le_of_ble_eq_true rfl), (Nat.le_of_ble_eq_true rfl)⟩ (qx_Ki ?_)
  rcases m_lk1_cases (va_up σ 54 v) s with ⟨h1, e⟩ | ⟨h1, h2, e⟩ | ⟨h1, h2, e⟩
  · refine qk_cast e ?_
    refine qk_if_eq C dX6_load_6 20 rfl 9 rfl (fun c => absurd c (by decide)) (fun _ => ?_)
    refine qk_aloadn C dX6_load_9 10 rfl rfl 0 rfl ?_
    refine qk_aloadn C dX6_load_10 11 rfl rfl 0 rfl ?_
    refine qk_iloadn C dX6_load_11 12 rfl rfl 1 rfl ?_
    refine qk_iconst C (1) dX6_load_12 13 rfl rfl ?_
    refine qk_callV C dX6_load_13 16 rfl ql_X6_231 qc_X6_lacks 53 (by decide) rfl rfl (c_X6_lacks l G _ _ _) rfl rfl (Nat.le_of_ble_eq_true rfl) ⟨(Nat.le_of_ble_eq_true rfl), (Nat.le_of_ble_eq_true rfl)⟩ (qx_Ki ?_)
    refine qk_cast e ?_
    refine qk_callV C dX6_load_16 19 rfl ql_X6_66 qc_X6_finding 53 (by decide) rfl rfl (c_X6_finding l G _ _ 0 (by decide) (by decide)) rfl rfl (Nat.le_of_ble_eq_true rfl) ⟨(Nat.le_of_ble_eq_true rfl), (Nat.le_of_ble_eq_true rfl)⟩ (qx_Ki ?_)
    exact hret _ _ _ _ dX6_load_19 (qMx_bad 0 (zif_f h1) rfl mTr.rf.up qx_up_eq) rfl
  · refine qk_cast e ?_
    refine qk_if_eq C dX6_load_6 20 rfl 9 rfl (fun c => absurd c (by decide)) (fun _ => ?_)
    refine qk_aloadn C dX6_load_9 10 rfl rfl 0 rfl ?_
    refine qk_aloadn C dX6_load_10 11 rfl rfl 0 rfl ?_
    refine qk_iloadn C dX6_load_11 12 rfl rfl 1 rfl ?_
    refine qk_iconst C (1) dX6_load_12 13 rfl rfl ?_
    refine qk_callV C dX6_load_13 16 rfl ql_X6_231 qc_X6_lacks 53 (by decide) rfl rfl (c_X6_lacks l G _ _ _) rfl rfl (Nat.le_of_ble_eq_true rfl) ⟨(Nat.le_of_ble_eq_true rfl), (Nat.le_of_ble_eq_true rfl)⟩ (qx_Ki ?_)
    refine qk_cast e ?_
    refine qk_callV C dX6_load_16 19 rfl ql_X6_66 qc_X6_finding 53 (by decide) rfl rfl (c_X6_finding l G _ _ 5 (by decide) (by decide)) rfl rfl (Nat.le_of_ble_eq_true rfl) ⟨(Nat.le_of_ble_eq_true rfl), (Nat.le_of_ble_eq_true rfl)⟩ (qx_Ki ?_)
    exact hret _ _ _ _ dX6_load_19 (qMx_bad 5 ((zif_t h1).trans (zif_t (by rw [show m_vw σ (44 + zn s) 0 = σ 61 (zn s) from by obtain ⟨j, hj, rfl⟩ := z_in_ex 3 rfl (by omega) h1; rw [zn_nI (show j < 2 ^ 31 by omega), m_vw0 (by omega)]]; exact h2))) rfl mTr.rf.up qx_up_eq) rfl
  · refine qk_cast e ?_
    obtain ⟨js, hjs, rfl⟩ := z_in_ex 3 rfl (by omega) h1
    have h2s := h2
    rw [zn_nI (show js < 2 ^ 31 by omega)] at h2
    have h2s : ¬ m_vw σ (44 + zn (nI js)) 0 = 0 := by rw [zn_nI (show js < 2 ^ 31 by omega), m_vw0 (by omega)]; exact h2
    obtain ⟨n, hn, en⟩ := (hSh js (by omega)).2
    rw [m_vw1 (by omega)] at en
    refine qk_if_eq C dX6_load_6 20 rfl 9 rfl (fun _ => ?_) (fun c => absurd rfl c)
    refine qk_iconst C (nI 0) dX6_load_20 21 rfl rfl ?_
    refine qk_istoren C dX6_load_21 22 rfl rfl (by decide) rfl ?_
    have lp_22 : ∀ (n_22 : Nat) (i : Nat) (u : Nat → Int32), (i ≤ z_m6 n ∧ qv_ok u N ∧ z_ld (fun i => σ 63 (40 * js + i)) (z_m6 n) 0 v = z_ld (fun i => σ 63 (40 * js + i)) (z_m6 n - i) i u) → 7 - i < n_22 → qx_K l G Δ (va_up σ 54 u) 22 [(2, .int (nI i)), (0, .ref (qx_ad G 53)), (1, .int (nI js))] [] := by
      intro n_22
      induction n_22 with
      | zero => intro _ _ _ h9; exact absurd h9 (Nat.not_lt_zero _)
      | succ n_22 ih_22 =>
        intro i u hi hm_22
        have hm6 := (z_m6_of hn).2
        refine qk_iloadn C dX6_load_22 23 rfl rfl 0 rfl ?_
        refine qk_aloadn C dX6_load_23 24 rfl rfl 1 rfl ?_
        refine qk_get C dX6_load_24 27 rfl qf_X6_51 53 (by decide) rfl rfl ?_
        refine qk_iloadn C dX6_load_27 28 rfl rfl 2 rfl ?_
        refine qk_iald C dX6_load_28 29 rfl 62 (by decide) (fun _ => rfl) (js) rfl (by omega) (by decide) ?_
        refine qk_cast (show _ = nI n from en) ?_
        refine qk_icmp_ge C dX6_load_29 81 rfl 32 rfl (fun c_29 => ?_) (fun c_29 => ?_)
        · have hin : n ≤ i := (nI_leI (by omega) (by omega)).mp c_29
          refine qk_iloadn C dX6_load_81 82 rfl rfl 0 rfl ?_
          exact hret _ _ _ _ dX6_load_82 (qMx_ok ((zif_t h1).trans <| (zif_f h2s).trans (by rw [zn_nI (show js < 2 ^ 31 by omega), m_vw1 (by omega), en, zn_nI (show n < 2 ^ 31 by omega), m_vwn]; unfold z_ldS; rw [hi.2.2, show z_m6 n - i = 0 by unfold z_m6; split <;> omega]; rfl)) rfl mTr.rf.up qx_up_eq) rfl
        · have hin : i < n := Nat.not_le.mp (fun q => c_29 (nI_le q (by omega)))
          refine qk_iloadn C dX6_load_32 33 rfl rfl 0 rfl ?_
          refine qk_callS C dX6_load_33 36 rfl ql_X6_74 qc_X6_isPlace (c_X6_isPlace l G _ _) rfl rfl (Nat.le_of_ble_eq_true rfl) ⟨(Nat.le_of_ble_eq_true rfl), (Nat.le_of_ble_eq_true rfl)⟩ (qx_Ki ?_)
          refine qk_if_eqB C dX6_load_36 81 rfl 39 rfl (fun c_36 => ?_) (fun c_36 => ?_)
          · have hi6 : 6 ≤ i := Nat.not_lt.mp (fun q => c_36 (z_in_nI (n := 5) (by omega) (by omega)))
            refine qk_iloadn C dX6_load_81 82 rfl rfl 0 rfl ?_
            exact hret _ _ _ _ dX6_load_82 (qMx_ok ((zif_t h1).trans <| (zif_f h2s).trans (by rw [zn_nI (show js < 2 ^ 31 by omega), m_vw1 (by omega), en, zn_nI (show n < 2 ^ 31 by omega), m_vwn]; unfold z_ldS; rw [hi.2.2, show z_m6 n - i = 0 by unfold z_m6; split <;> omega]; rfl)) rfl mTr.rf.up qx_up_eq) rfl
          · have hi6 : i < 6 := by
              obtain ⟨j, hj, ej⟩ := z_in_ex 5 rfl (by omega) c_36
              have := (nI_eq (by omega) (by omega)).mp ej
              omega
            have him : i < z_m6 n := by unfold z_m6; split <;> omega
            refine qk_aloadn C dX6_load_39 40 rfl rfl 1 rfl ?_
            refine qk_get C dX6_load_40 43 rfl qf_X6_54 53 (by decide) rfl rfl ?_
            refine qk_bipush C (40) dX6_load_43 45 rfl rfl ?_
            refine qk_iloadn C dX6_load_45 46 rfl rfl 2 rfl ?_
            refine qk_imul C dX6_load_46 47 rfl ?_
            refine qk_cast (m_40 (by omega)) ?_
            refine qk_iloadn C dX6_load_47 48 rfl rfl 0 rfl ?_
            refine qk_iadd C dX6_load_48 49 rfl ?_
            refine qk_cast (nI_add _ _) ?_
            refine qk_iald C dX6_load_49 50 rfl 63 (by decide) (fun _ => rfl) (40 * js + i) rfl (by omega) (by decide) ?_
            refine qk_cast (show _ = σ 63 (40 * js + i) from rfl) ?_
            refine qk_callS C dX6_load_50 53 rfl ql_X6_78 qc_X6_isBequest (c_X6_isBequest l G _ _) rfl rfl (Nat.le_of_ble_eq_true rfl) ⟨(Nat.le_of_ble_eq_true rfl), (Nat.le_of_ble_eq_true rfl)⟩ (qx_Ki ?_)
            refine qk_if_eqB C dX6_load_53 81 rfl 56 rfl (fun c_53 => ?_) (fun c_53 => ?_)
            · refine qk_iloadn C dX6_load_81 82 rfl rfl 0 rfl ?_
              exact hret _ _ _ _ dX6_load_82 (qMx_ok ((zif_t h1).trans <| (zif_f h2s).trans (by rw [zn_nI (show js < 2 ^ 31 by omega), m_vw1 (by omega), en, zn_nI (show n < 2 ^ 31 by omega), m_vwn]; unfold z_ldS; rw [hi.2.2, show z_m6 n - i = (z_m6 n - (i + 1)) + 1 by omega, z_ld_f (nums := (fun i => σ 63 (40 * js + i))) c_53])) rfl mTr.rf.up qx_up_eq) rfl
            · obtain ⟨q, hq, eq⟩ := z_in_ex 12 rfl (by omega) c_53
              refine qk_aloadn C dX6_load_56 57 rfl rfl 1 rfl ?_
              refine qk_get C dX6_load_57 60 rfl qf_X6_9 53 (by decide) rfl rfl ?_
              refine qk_iconst C (4) dX6_load_60 61 rfl rfl ?_
              refine qk_iloadn C dX6_load_61 62 rfl rfl 0 rfl ?_
              refine qk_iadd C dX6_load_62 63 rfl ?_
              refine qk_cast (show _ = nI (4 + i) from by rw [show (4 : Int32) = nI 4 from rfl, nI_add]) ?_
              refine qk_aloadn C dX6_load_63 64 rfl rfl 1 rfl ?_
              refine qk_get C dX6_load_64 67 rfl qf_X6_54 53 (by decide) rfl rfl ?_
              refine qk_bipush C (40) dX6_load_67 69 rfl rfl ?_
              refine qk_iloadn C dX6_load_69 70 rfl rfl 2 rfl ?_
              refine qk_imul C dX6_load_70 71 rfl ?_
              refine qk_cast (m_40 (by omega)) ?_
              refine qk_iloadn C dX6_load_71 72 rfl rfl 0 rfl ?_
              refine qk_iadd C dX6_load_72 73 rfl ?_
              refine qk_cast (nI_add _ _) ?_
              refine qk_iald C dX6_load_73 74 rfl 63 (by decide) (fun _ => rfl) (40 * js + i) rfl (by omega) (by decide) ?_
              refine qk_cast (show _ = σ 63 (40 * js + i) from rfl) ?_
              refine qk_iast C dX6_load_74 75 rfl 54 (by decide) (fun _ => rfl) (4 + i) rfl (by omega) (by decide) ?_
              refine qk_sg _ (m_w) ?_
              refine qk_iinc C (nI (i + 1)) dX6_load_75 78 rfl 0 rfl (nI_1 i) (by decide) rfl ?_
              refine qk_goto C dX6_load_78 22 rfl ?_
              exact ih_22 (i + 1) _ ⟨by omega, by rw [eq]; exact qv_li hi.2.1 (by omega) hq, by rw [hi.2.2, show z_m6 n - i = (z_m6 n - (i + 1)) + 1 by omega]; exact z_ld_t c_53⟩ (by omega)
    exact lp_22 _ 0 v ⟨by omega, hI, rfl⟩ (Nat.lt_succ_self _)

theorem c_X6_judge (l : Launch) (G : qx_G) (σ : qx_Sg) (N : Nat) (v : Nat → Int32) (hI : qv_ok v N) (hSh : qS_ok (m_vw σ)) (s : Int32) : qx_Ct l G yX6_judge cX6_judge 3 (some .int) 5 110 [.ref (qx_ad G 53), .int s] (va_up σ 54 v) (qMx σ (S_judge N v (m_vw σ) s)) := by
  refine qx_of .int (lo := [(0, .ref (qx_ad G 53)), (1, .int s)]) (by decide +kernel) (Nat.le_of_ble_eq_true rfl) rfl (fun Δ (C : qx_C G Δ cX6_judge RX6 3 5 110) hret => ?_)
  have hN8 := hI.1
  have hN1 := hI.2.1
  refine qk_aloadn C dX6_judge_0 1 rfl rfl 0 rfl ?_
  refine qk_iloadn C dX6_judge_1 2 rfl rfl 1 rfl ?_
  refine qk_iconst C (1) dX6_judge_2 3 rfl rfl ?_
  refine qk_callV C dX6_judge_3 6 rfl ql_X6_231 qc_X6_lacks 53 (by decide) rfl rfl (c_X6_lacks l G _ _ _) rfl rfl (Nat.le_of_ble_eq_true rfl) ⟨(Nat.le_of_ble_eq_true rfl), (Nat.le_of_ble_eq_true rfl)⟩ (qx_Ki ?_)
  rcases m_lk1_cases (va_up σ 54 v) s with ⟨h1, e⟩ | ⟨h1, h2, e⟩ | ⟨h1, h2, e⟩
  · refine qk_cast e ?_
    refine qk_if_eq C dX6_judge_6 20 rfl 9 rfl (fun c => absurd c (by decide)) (fun _ => ?_)
    refine qk_aloadn C dX6_judge_9 10 rfl rfl 0 rfl ?_
    refine qk_aloadn C dX6_judge_10 11 rfl rfl 0 rfl ?_
    refine qk_iloadn C dX6_judge_11 12 rfl rfl 1 rfl ?_
    refine qk_iconst C (1) dX6_judge_12 13 rfl rfl ?_
    refine qk_callV C dX6_judge_13 16 rfl ql_X6_231 qc_X6_lacks 53 (by decide) rfl rfl (c_X6_lacks l G _ _ _) rfl rfl (Nat.le_of_ble_eq_true rfl) ⟨(Nat.le_of_ble_eq_true rfl), (Nat.le_of_ble_eq_true rfl)⟩ (qx_Ki ?_)
    refine qk_cast e ?_
    refine qk_callV C dX6_judge_16 19 rfl ql_X6_66 qc_X6_finding 53 (by decide) rfl rfl (c_X6_finding l G _ _ 0 (by decide) (by decide)) rfl rfl (Nat.le_of_ble_eq_true rfl) ⟨(Nat.le_of_ble_eq_true rfl), (Nat.le_of_ble_eq_true rfl)⟩ (qx_Ki ?_)
    exact hret _ _ _ _ dX6_judge_19 (qMx_bad 0 (zif_f h1) rfl mTr.rf.up qx_up_eq) rfl
  · refine qk_cast e ?_
    refine qk_if_eq C dX6_judge_6 20 rfl 9 rfl (fun c => absurd c (by decide)) (fun _ => ?_)
    refine qk_aloadn C dX6_judge_9 10 rfl rfl 0 rfl ?_
    refine qk_aloadn C dX6_judge_10 11 rfl rfl 0 rfl ?_
    refine qk_iloadn C dX6_judge_11 12 rfl rfl 1 rfl ?_
    refine qk_iconst C (1) dX6_judge_12 13 rfl rfl ?_
    refine qk_callV C dX6_judge_13 16 rfl ql_X6_231 qc_X6_lacks 53 (by decide) rfl rfl (c_X6_lacks l G _ _ _) rfl rfl (Nat.le_of_ble_eq_true rfl) ⟨(Nat.le_of_ble_eq_true rfl), (Nat.le_of_ble_eq_true rfl)⟩ (qx_Ki ?_)
    refine qk_cast e ?_
    refine qk_callV C dX6_judge_16 19 rfl ql_X6_66 qc_X6_finding 53 (by decide) rfl rfl (c_X6_finding l G _ _ 5 (by decide) (by decide)) rfl rfl (Nat.le_of_ble_eq_true rfl) ⟨(Nat.le_of_ble_eq_true rfl), (Nat.le_of_ble_eq_true rfl)⟩ (qx_Ki ?_)
    exact hret _ _ _ _ dX6_judge_19 (qMx_bad 5 ((zif_t h1).trans (zif_t (by rw [show m_vw σ (44 + zn s) 0 = σ 61 (zn s) from by obtain ⟨j, hj, rfl⟩ := z_in_ex 3 rfl (by omega) h1; rw [zn_nI (show j < 2 ^ 31 by omega), m_vw0 (by omega)]]; exact h2))) rfl mTr.rf.up qx_up_eq) rfl
  · refine qk_cast e ?_
    obtain ⟨js, hjs, rfl⟩ := z_in_ex 3 rfl (by omega) h1
    have h2s := h2
    rw [zn_nI (show js < 2 ^ 31 by omega)] at h2
    have h2s : ¬ m_vw σ (44 + zn (nI js)) 0 = 0 := by rw [zn_nI (show js < 2 ^ 31 by omega), m_vw0 (by omega)]; exact h2
    obtain ⟨n, hn, en⟩ := (hSh js (by omega)).2
    rw [m_vw1 (by omega)] at en
    refine qk_if_eq C dX6_judge_6 20 rfl 9 rfl (fun _ => ?_) (fun c => absurd rfl c)
    refine qk_iconst C (nI 0) dX6_judge_20 21 rfl rfl ?_
    refine qk_istoren C dX6_judge_21 22 rfl rfl (by decide) rfl ?_
    have lp_22 : ∀ (n_22 : Nat) (i : Nat), (i ≤ n ∧ z_jd N v (fun i => σ 63 (40 * js + i)) n 0 = z_jd N v (fun i => σ 63 (40 * js + i)) (n - i) i) → n - i < n_22 → qx_K l G Δ (va_up σ 54 v) 22 [(2, .int (nI i)), (0, .ref (qx_ad G 53)), (1, .int (nI js))] [] := by
      intro n_22
      induction n_22 with
      | zero => intro _ _ h9; exact absurd h9 (Nat.not_lt_zero _)
      | succ n_22 ih_22 =>
        intro i hi hm_22
        refine qk_iloadn C dX6_judge_22 23 rfl rfl 0 rfl ?_
        refine qk_aloadn C dX6_judge_23 24 rfl rfl 1 rfl ?_
        refine qk_get C dX6_judge_24 27 rfl qf_X6_51 53 (by decide) rfl rfl ?_
        refine qk_iloadn C dX6_judge_27 28 rfl rfl 2 rfl ?_
        refine qk_iald C dX6_judge_28 29 rfl 62 (by decide) (fun _ => rfl) (js) rfl (by omega) (by decide) ?_
        refine qk_cast (show _ = nI n from en) ?_
        refine qk_icmp_ge C dX6_judge_29 65 rfl 32 rfl (fun c_29 => ?_) (fun c_29 => ?_)
        · have hin : n ≤ i := (nI_leI (by omega) (by omega)).mp c_29
          refine qk_iloadn C dX6_judge_65 66 rfl rfl 0 rfl ?_
          refine qk_aloadn C dX6_judge_66 67 rfl rfl 1 rfl ?_
          refine qk_get C dX6_judge_67 70 rfl qf_X6_51 53 (by decide) rfl rfl ?_
          refine qk_iloadn C dX6_judge_70 71 rfl rfl 2 rfl ?_
          refine qk_iald C dX6_judge_71 72 rfl 62 (by decide) (fun _ => rfl) (js) rfl (by omega) (by decide) ?_
          refine qk_cast (show _ = nI n from en) ?_
          refine qk_icmp_ne C dX6_judge_72 79 rfl 75 rfl (fun c_72 => ?_) (fun c_72 => ?_)
          · have hne : ¬ i = n := fun e => c_72 (congrArg nI e)
            refine qk_iconst C (1) dX6_judge_79 80 rfl rfl ?_
            refine qk_iloadn C dX6_judge_80 81 rfl rfl 0 rfl ?_
            refine qk_iadd C dX6_judge_81 82 rfl ?_
            exact hret _ _ _ _ dX6_judge_82 (qMx_ok ((zif_t h1).trans <| (zif_f h2s).trans (by rw [zn_nI (show js < 2 ^ 31 by omega), m_vw1 (by omega), en, zn_nI (show n < 2 ^ 31 by omega), m_vwn]; rw [hi.2, show n - i = (n - (i + 1)) + 1 by omega]; exact congrArg (fun x => zok x N v) (z_sel_f (by first | exact fun q => c_37 q.1 | exact fun q => c_56 q.2.symm | exact absurd (Nat.le_antisymm hi.1 hin) hne)))) rfl mTr.rf.up qx_up_eq) rfl
          · have hne : i = n := (nI_eq (by omega) (by omega)).mp c_72
            refine qk_iconst C (0) dX6_judge_75 76 rfl rfl ?_
            refine qk_goto C dX6_judge_76 82 rfl ?_
            exact hret _ _ _ _ dX6_judge_82 (qMx_ok ((zif_t h1).trans <| (zif_f h2s).trans (by rw [zn_nI (show js < 2 ^ 31 by omega), m_vw1 (by omega), en, zn_nI (show n < 2 ^ 31 by omega), m_vwn]; rw [hi.2, show n - i = 0 by omega]; rfl)) rfl mTr.rf.up qx_up_eq) rfl
        · have hin : i < n := Nat.not_le.mp (fun q => c_29 (nI_le q (by omega)))
          refine qk_aloadn C dX6_judge_32 33 rfl rfl 1 rfl ?_
          refine qk_iloadn C dX6_judge_33 34 rfl rfl 0 rfl ?_
          refine qk_callV C dX6_judge_34 37 rfl ql_X6_137 qc_X6_isBust 53 (by decide) rfl rfl (c_X6_isBust l G σ N v hI _) rfl rfl (Nat.le_of_ble_eq_true rfl) ⟨(Nat.le_of_ble_eq_true rfl), (Nat.le_of_ble_eq_true rfl)⟩ (qx_Ki ?_)
          refine qk_if_eqB C dX6_judge_37 65 rfl 40 rfl (fun c_37 => ?_) (fun c_37 => ?_)
          · refine qk_iloadn C dX6_judge_65 66 rfl rfl 0 rfl ?_
            refine qk_aloadn C dX6_judge_66 67 rfl rfl 1 rfl ?_
            refine qk_get C dX6_judge_67 70 rfl qf_X6_51 53 (by decide) rfl rfl ?_
            refine qk_iloadn C dX6_judge_70 71 rfl rfl 2 rfl ?_
            refine qk_iald C dX6_judge_71 72 rfl 62 (by decide) (fun _ => rfl) (js) rfl (by omega) (by decide) ?_
            refine qk_cast (show _ = nI n from en) ?_
            refine qk_icmp_ne C dX6_judge_72 79 rfl 75 rfl (fun c_72 => ?_) (fun c_72 => ?_)
            · have hne : ¬ i = n := fun e => c_72 (congrArg nI e)
              refine qk_iconst C (1) dX6_judge_79 80 rfl rfl ?_
              refine qk_iloadn C dX6_judge_80 81 rfl rfl 0 rfl ?_
              refine qk_iadd C dX6_judge_81 82 rfl ?_
              exact hret _ _ _ _ dX6_judge_82 (qMx_ok ((zif_t h1).trans <| (zif_f h2s).trans (by rw [zn_nI (show js < 2 ^ 31 by omega), m_vw1 (by omega), en, zn_nI (show n < 2 ^ 31 by omega), m_vwn]; rw [hi.2, show n - i = (n - (i + 1)) + 1 by omega]; exact congrArg (fun x => zok x N v) (z_sel_f (by first | exact fun q => c_37 q.1 | exact fun q => c_56 q.2.symm | exact absurd (Nat.le_antisymm hi.1 hin) hne)))) rfl mTr.rf.up qx_up_eq) rfl
            · have hne : i = n := (nI_eq (by omega) (by omega)).mp c_72
              refine qk_iconst C (0) dX6_judge_75 76 rfl rfl ?_
              refine qk_goto C dX6_judge_76 82 rfl ?_
              exact hret _ _ _ _ dX6_judge_82 (qMx_ok ((zif_t h1).trans <| (zif_f h2s).trans (by rw [zn_nI (show js < 2 ^ 31 by omega), m_vw1 (by omega), en, zn_nI (show n < 2 ^ 31 by omega), m_vwn]; rw [hi.2, show n - i = 0 by omega]; rfl)) rfl mTr.rf.up qx_up_eq) rfl
          · have hiN : i < N := by
              obtain ⟨q, hq, eq⟩ := z_ib_ex c_37 hN8
              have := (nI_eq (by omega) (by omega)).mp eq
              omega
            refine qk_aloadn C dX6_judge_40 41 rfl rfl 1 rfl ?_
            refine qk_get C dX6_judge_41 44 rfl qf_X6_54 53 (by decide) rfl rfl ?_
            refine qk_bipush C (40) dX6_judge_44 46 rfl rfl ?_
            refine qk_iloadn C dX6_judge_46 47 rfl rfl 2 rfl ?_
            refine qk_imul C dX6_judge_47 48 rfl ?_
            refine qk_cast (m_40 (by omega)) ?_
            refine qk_iloadn C dX6_judge_48 49 rfl rfl 0 rfl ?_
            refine qk_iadd C dX6_judge_49 50 rfl ?_
            refine qk_cast (nI_add _ _) ?_
            refine qk_iald C dX6_judge_50 51 rfl 63 (by decide) (fun _ => rfl) (40 * js + i) rfl (by omega) (by decide) ?_
            refine qk_cast (show _ = σ 63 (40 * js + i) from rfl) ?_
            refine qk_aloadn C dX6_judge_51 52 rfl rfl 1 rfl ?_
            refine qk_iloadn C dX6_judge_52 53 rfl rfl 0 rfl ?_
            refine qk_callV C dX6_judge_53 56 rfl ql_X6_134 qc_X6_says 53 (by decide) rfl rfl (c_X6_says l G σ N v hI i hiN) rfl rfl (Nat.le_of_ble_eq_true rfl) ⟨(Nat.le_of_ble_eq_true rfl), (Nat.le_of_ble_eq_true rfl)⟩ (qx_Ki ?_)
            refine qk_icmp_ne C dX6_judge_56 65 rfl 59 rfl (fun c_56 => ?_) (fun c_56 => ?_)
            · refine qk_iloadn C dX6_judge_65 66 rfl rfl 0 rfl ?_
              refine qk_aloadn C dX6_judge_66 67 rfl rfl 1 rfl ?_
              refine qk_get C dX6_judge_67 70 rfl qf_X6_51 53 (by decide) rfl rfl ?_
              refine qk_iloadn C dX6_judge_70 71 rfl rfl 2 rfl ?_
              refine qk_iald C dX6_judge_71 72 rfl 62 (by decide) (fun _ => rfl) (js) rfl (by omega) (by decide) ?_
              refine qk_cast (show _ = nI n from en) ?_
              refine qk_icmp_ne C dX6_judge_72 79 rfl 75 rfl (fun c_72 => ?_) (fun c_72 => ?_)
              · have hne : ¬ i = n := fun e => c_72 (congrArg nI e)
                refine qk_iconst C (1) dX6_judge_79 80 rfl rfl ?_
                refine qk_iloadn C dX6_judge_80 81 rfl rfl 0 rfl ?_
                refine qk_iadd C dX6_judge_81 82 rfl ?_
                exact hret _ _ _ _ dX6_judge_82 (qMx_ok ((zif_t h1).trans <| (zif_f h2s).trans (by rw [zn_nI (show js < 2 ^ 31 by omega), m_vw1 (by omega), en, zn_nI (show n < 2 ^ 31 by omega), m_vwn]; rw [hi.2, show n - i = (n - (i + 1)) + 1 by omega]; exact congrArg (fun x => zok x N v) (z_sel_f (by first | exact fun q => c_37 q.1 | exact fun q => c_56 q.2.symm | exact absurd (Nat.le_antisymm hi.1 hin) hne)))) rfl mTr.rf.up qx_up_eq) rfl
              · have hne : i = n := (nI_eq (by omega) (by omega)).mp c_72
                refine qk_iconst C (0) dX6_judge_75 76 rfl rfl ?_
                refine qk_goto C dX6_judge_76 82 rfl ?_
                exact hret _ _ _ _ dX6_judge_82 (qMx_ok ((zif_t h1).trans <| (zif_f h2s).trans (by rw [zn_nI (show js < 2 ^ 31 by omega), m_vw1 (by omega), en, zn_nI (show n < 2 ^ 31 by omega), m_vwn]; rw [hi.2, show n - i = 0 by omega]; rfl)) rfl mTr.rf.up qx_up_eq) rfl
            · refine qk_iinc C (nI (i + 1)) dX6_judge_59 62 rfl 0 rfl (nI_1 i) (by decide) rfl ?_
              refine qk_goto C dX6_judge_62 22 rfl ?_
              exact ih_22 (i + 1) ⟨by omega, by rw [hi.2, show n - i = (n - (i + 1)) + 1 by omega]; exact z_sel_t ⟨c_37, c_56.symm⟩⟩ (by omega)
    exact lp_22 _ 0 ⟨by omega, rfl⟩ (Nat.lt_succ_self _)

theorem c_X6_sheet (l : Launch) (G : qx_G) (σ : qx_Sg) (s b n : Int32) : qx_Ct l G yX6_sheet cX6_sheet 5 (some .int) 2 42 [.ref (qx_ad G 53), .int s, .int b, .int n] (σ) (qPt (M_sheet σ s b n)) := by
  refine qx_of .int (lo := [(0, .ref (qx_ad G 53)), (1, .int s), (2, .int b), (3, .int n)]) (by decide +kernel) (Nat.le_of_ble_eq_true rfl) rfl (fun Δ (C : qx_C G Δ cX6_sheet RX6 5 2 42) hret => ?_)
  refine qk_iloadn C dX6_sheet_0 1 rfl rfl 1 rfl ?_
  refine qk_callS C dX6_sheet_1 4 rfl ql_X6_224 qc_X6_isSheet (c_X6_isSheet l G _ _) rfl rfl (Nat.le_of_ble_eq_true rfl) ⟨(Nat.le_of_ble_eq_true rfl), (Nat.le_of_ble_eq_true rfl)⟩ (qx_Ki ?_)
  refine qk_if_eqB C dX6_sheet_4 29 rfl 7 rfl (fun c_4 => ?_) (fun c_4 => ?_)
  · refine qk_aloadn C dX6_sheet_29 30 rfl rfl 0 rfl ?_
    refine qk_ldc C dX6_sheet_30 32 rfl qw_947 ?_
    refine qk_callV C dX6_sheet_32 35 rfl ql_X6_66 qc_X6_finding 53 (by decide) rfl rfl (c_X6_finding l G _ _ 0 (by decide) (by decide)) rfl rfl (Nat.le_of_ble_eq_true rfl) ⟨(Nat.le_of_ble_eq_true rfl), (Nat.le_of_ble_eq_true rfl)⟩ (qx_Ki ?_)
    exact hret _ _ _ _ dX6_sheet_35 (qPt_of (zw_f (by first | exact fun q => c_4 q.1 | exact fun q => (by have := q.2; unfold z_bit at this; exact this.elim c_8 (fun q => q.elim c_14 (fun q => q.elim c_20 c_26)))))) rfl
  · refine qk_iloadn C dX6_sheet_7 8 rfl rfl 2 rfl ?_
    refine qk_if_eq C dX6_sheet_8 36 rfl 11 rfl (fun c_8 => ?_) (fun c_8 => ?_)
    · have hb : z_bit b := by unfold z_bit; first | exact Or.inl c_8 | exact Or.inr (Or.inl c_14) | exact Or.inr (Or.inr (Or.inl c_20)) | exact Or.inr (Or.inr (Or.inr c_26))
      have hin := c_4
      refine qk_iloadn C dX6_sheet_36 37 rfl rfl 3 rfl ?_
      refine qk_if_ge C dX6_sheet_37 48 rfl 40 rfl (fun c_37 => ?_) (fun c_37 => ?_)
      · have hn0 : ¬ n < 0 := Int32.not_lt.mpr c_37
        refine qk_iloadn C dX6_sheet_48 49 rfl rfl 3 rfl ?_
        refine qk_bipush C (40) dX6_sheet_49 51 rfl rfl ?_
        refine qk_icmp_le C dX6_sheet_51 61 rfl 54 rfl (fun c_51 => ?_) (fun c_51 => ?_)
        · have hn4 : ¬ 40 < n := Int32.not_lt.mpr c_51
          obtain ⟨js, hjs, rfl⟩ := z_in_ex 3 rfl (by omega) hin
          refine qk_aloadn C dX6_sheet_61 62 rfl rfl 0 rfl ?_
          refine qk_get C dX6_sheet_62 65 rfl qf_X6_48 53 (by decide) rfl rfl ?_
          refine qk_iloadn C dX6_sheet_65 66 rfl rfl 1 rfl ?_
          refine qk_iloadn C dX6_sheet_66 67 rfl rfl 2 rfl ?_
          refine qk_iast C dX6_sheet_67 68 rfl 61 (by decide) (fun _ => rfl) js rfl (by omega) (by decide) ?_
          refine qk_aloadn C dX6_sheet_68 69 rfl rfl 0 rfl ?_
          refine qk_get C dX6_sheet_69 72 rfl qf_X6_51 53 (by decide) rfl rfl ?_
          refine qk_iloadn C dX6_sheet_72 73 rfl rfl 1 rfl ?_
          refine qk_iloadn C dX6_sheet_73 74 rfl rfl 2 rfl ?_
          refine qk_if_ne C dX6_sheet_74 81 rfl 77 rfl (fun c_74 => ?_) (fun c_74 => ?_)
          · refine qk_iloadn C dX6_sheet_81 82 rfl rfl 3 rfl ?_
            refine qk_cast (show n = z_sb b n 1 from by simp [z_sb, c_74]) ?_
            refine qk_iast C dX6_sheet_82 83 rfl 62 (by decide) (fun _ => rfl) js rfl (by omega) (by decide) ?_
            refine qk_sg (va_up (va_up σ 61 (upd (σ 61) js b)) 62 (upd (σ 62) js (z_sb b n 1))) rfl ?_
            refine qk_iconst C (nI 0) dX6_sheet_83 84 rfl rfl ?_
            refine qk_istore C dX6_sheet_84 86 rfl (by decide) rfl ?_
            have lp_86 : ∀ (n_86 : Nat) (i : Nat), i ≤ 40 → 40 - i < n_86 → qx_K l G Δ (va_up (va_up (va_up σ 61 (upd (σ 61) js b)) 62 (upd (σ 62) js (z_sb b n 1))) 63 (m_zr (σ 63) (40 * js) i)) 86 [(4, .int (nI i)), (0, .ref (qx_ad G 53)), (1, .int (nI js))] [] := by
              intro n_86
              induction n_86 with
              | zero => intro _ _ h9; exact absurd h9 (Nat.not_lt_zero _)
              | succ n_86 ih_86 =>
                intro i hi hm_86
                refine qk_iload C dX6_sheet_86 88 rfl 0 rfl ?_
                refine qk_bipush C (nI 40) dX6_sheet_88 90 rfl rfl ?_
                refine qk_icmp_ge C dX6_sheet_90 112 rfl 93 rfl (fun c_90 => ?_) (fun c_90 => ?_)
                · have h40 : 40 ≤ i := (nI_leI (by omega) (by omega)).mp c_90
                  have hie : i = 40 := by omega
                  subst hie
                  refine qk_aloadn C dX6_sheet_112 113 rfl rfl 1 rfl ?_
                  refine qk_get C dX6_sheet_113 116 rfl qf_X6_51 53 (by decide) rfl rfl ?_
                  refine qk_iloadn C dX6_sheet_116 117 rfl rfl 2 rfl ?_
                  refine qk_iald C dX6_sheet_117 118 rfl 62 (by decide) (fun _ => rfl) js rfl (by omega) (by decide) ?_
                  refine qk_cast (show _ = z_sb b n 1 from upd_eq (f := σ 62) (k := js)) ?_
                  exact hret _ _ _ _ dX6_sheet_118 (qPt_of (by unfold M_sheet; rw [zn_nI (show js < 2 ^ 31 by omega)]; exact (zw_t ⟨hin, hb⟩).trans ((zw_f hn0).trans (zw_f hn4)))) rfl
                · have h40 : i < 40 := Nat.not_le.mp (fun q => c_90 (nI_le q (by omega)))
                  refine qk_aloadn C dX6_sheet_93 94 rfl rfl 1 rfl ?_
                  refine qk_get C dX6_sheet_94 97 rfl qf_X6_54 53 (by decide) rfl rfl ?_
                  refine qk_bipush C (40) dX6_sheet_97 99 rfl rfl ?_
                  refine qk_iloadn C dX6_sheet_99 100 rfl rfl 2 rfl ?_
                  refine qk_imul C dX6_sheet_100 101 rfl ?_
                  refine qk_cast (m_40 (by omega)) ?_
                  refine qk_iload C dX6_sheet_101 103 rfl 0 rfl ?_
                  refine qk_iadd C dX6_sheet_103 104 rfl ?_
                  refine qk_cast (nI_add _ _) ?_
                  refine qk_iconst C (0) dX6_sheet_104 105 rfl rfl ?_
                  refine qk_iast C dX6_sheet_105 106 rfl 63 (by decide) (fun _ => rfl) (40 * js + i) rfl (by omega) (by decide) ?_
                  refine qk_sg _ (m_uu.trans (congrArg (va_up (va_up (va_up σ 61 (upd (σ 61) js b)) 62 (upd (σ 62) js (z_sb b n 1))) 63) m_zr_s)) ?_
                  refine qk_iinc C (nI (i + 1)) dX6_sheet_106 109 rfl 0 rfl (nI_1 i) (by decide) rfl ?_
                  refine qk_goto C dX6_sheet_109 86 rfl ?_
                  exact ih_86 (i + 1) (by omega) (by omega)
            refine qk_sg (va_up (va_up (va_up σ 61 (upd (σ 61) js b)) 62 (upd (σ 62) js (z_sb b n 1))) 63 (m_zr (σ 63) (40 * js) 0)) (by rw [m_zr0]; exact (m_upid (k := 63)).symm) ?_
            exact qk_lo [0, 1, 2] rfl (lp_86 _ 0 (by omega) (Nat.lt_succ_self _))
          · refine qk_iconst C (0) dX6_sheet_77 78 rfl rfl ?_
            refine qk_cast (show (0 : Int32) = z_sb b n 1 from by simp [z_sb, c_74]) ?_
            refine qk_goto C dX6_sheet_78 82 rfl ?_
            refine qk_iast C dX6_sheet_82 83 rfl 62 (by decide) (fun _ => rfl) js rfl (by omega) (by decide) ?_
            refine qk_sg (va_up (va_up σ 61 (upd (σ 61) js b)) 62 (upd (σ 62) js (z_sb b n 1))) rfl ?_
            refine qk_iconst C (nI 0) dX6_sheet_83 84 rfl rfl ?_
            refine qk_istore C dX6_sheet_84 86 rfl (by decide) rfl ?_
            have lp_86 : ∀ (n_86 : Nat) (i : Nat), i ≤ 40 → 40 - i < n_86 → qx_K l G Δ (va_up (va_up (va_up σ 61 (upd (σ 61) js b)) 62 (upd (σ 62) js (z_sb b n 1))) 63 (m_zr (σ 63) (40 * js) i)) 86 [(4, .int (nI i)), (0, .ref (qx_ad G 53)), (1, .int (nI js))] [] := by
              intro n_86
              induction n_86 with
              | zero => intro _ _ h9; exact absurd h9 (Nat.not_lt_zero _)
              | succ n_86 ih_86 =>
                intro i hi hm_86
                refine qk_iload C dX6_sheet_86 88 rfl 0 rfl ?_
                refine qk_bipush C (nI 40) dX6_sheet_88 90 rfl rfl ?_
                refine qk_icmp_ge C dX6_sheet_90 112 rfl 93 rfl (fun c_90 => ?_) (fun c_90 => ?_)
                · have h40 : 40 ≤ i := (nI_leI (by omega) (by omega)).mp c_90
                  have hie : i = 40 := by omega
                  subst hie
                  refine qk_aloadn C dX6_sheet_112 113 rfl rfl 1 rfl ?_
                  refine qk_get C dX6_sheet_113 116 rfl qf_X6_51 53 (by decide) rfl rfl ?_
                  refine qk_iloadn C dX6_sheet_116 117 rfl rfl 2 rfl ?_
                  refine qk_iald C dX6_sheet_117 118 rfl 62 (by decide) (fun _ => rfl) js rfl (by omega) (by decide) ?_
                  refine qk_cast (show _ = z_sb b n 1 from upd_eq (f := σ 62) (k := js)) ?_
                  exact hret _ _ _ _ dX6_sheet_118 (qPt_of (by unfold M_sheet; rw [zn_nI (show js < 2 ^ 31 by omega)]; exact (zw_t ⟨hin, hb⟩).trans ((zw_f hn0).trans (zw_f hn4)))) rfl
                · have h40 : i < 40 := Nat.not_le.mp (fun q => c_90 (nI_le q (by omega)))
                  refine qk_aloadn C dX6_sheet_93 94 rfl rfl 1 rfl ?_
                  refine qk_get C dX6_sheet_94 97 rfl qf_X6_54 53 (by decide) rfl rfl ?_
                  refine qk_bipush C (40) dX6_sheet_97 99 rfl rfl ?_
                  refine qk_iloadn C dX6_sheet_99 100 rfl rfl 2 rfl ?_
                  refine qk_imul C dX6_sheet_100 101 rfl ?_
                  refine qk_cast (m_40 (by omega)) ?_
                  refine qk_iload C dX6_sheet_101 103 rfl 0 rfl ?_
                  refine qk_iadd C dX6_sheet_103 104 rfl ?_
                  refine qk_cast (nI_add _ _) ?_
                  refine qk_iconst C (0) dX6_sheet_104 105 rfl rfl ?_
                  refine qk_iast C dX6_sheet_105 106 rfl 63 (by decide) (fun _ => rfl) (40 * js + i) rfl (by omega) (by decide) ?_
                  refine qk_sg _ (m_uu.trans (congrArg (va_up (va_up (va_up σ 61 (upd (σ 61) js b)) 62 (upd (σ 62) js (z_sb b n 1))) 63) m_zr_s)) ?_
                  refine qk_iinc C (nI (i + 1)) dX6_sheet_106 109 rfl 0 rfl (nI_1 i) (by decide) rfl ?_
                  refine qk_goto C dX6_sheet_109 86 rfl ?_
                  exact ih_86 (i + 1) (by omega) (by omega)
            refine qk_sg (va_up (va_up (va_up σ 61 (upd (σ 61) js b)) 62 (upd (σ 62) js (z_sb b n 1))) 63 (m_zr (σ 63) (40 * js) 0)) (by rw [m_zr0]; exact (m_upid (k := 63)).symm) ?_
            exact qk_lo [0, 1, 2] rfl (lp_86 _ 0 (by omega) (Nat.lt_succ_self _))
        · have hn4 : 40 < n := Int32.not_le.mp c_51
          refine qk_aloadn C dX6_sheet_54 55 rfl rfl 0 rfl ?_
          refine qk_ldc C dX6_sheet_55 57 rfl qw_947 ?_
          refine qk_callV C dX6_sheet_57 60 rfl ql_X6_66 qc_X6_finding 53 (by decide) rfl rfl (c_X6_finding l G _ _ 0 (by decide) (by decide)) rfl rfl (Nat.le_of_ble_eq_true rfl) ⟨(Nat.le_of_ble_eq_true rfl), (Nat.le_of_ble_eq_true rfl)⟩ (qx_Ki ?_)
          exact hret _ _ _ _ dX6_sheet_60 (qPt_of ((zw_t ⟨hin, hb⟩).trans ((zw_f hn0).trans (zw_t hn4)))) rfl
      · have hn0 : n < 0 := Int32.not_le.mp c_37
        refine qk_aloadn C dX6_sheet_40 41 rfl rfl 0 rfl ?_
        refine qk_ldcw C dX6_sheet_41 44 rfl qw_1320 ?_
        refine qk_callV C dX6_sheet_44 47 rfl ql_X6_66 qc_X6_finding 53 (by decide) rfl rfl (c_X6_finding l G _ _ 6 (by decide) (by decide)) rfl rfl (Nat.le_of_ble_eq_true rfl) ⟨(Nat.le_of_ble_eq_true rfl), (Nat.le_of_ble_eq_true rfl)⟩ (qx_Ki ?_)
        exact hret _ _ _ _ dX6_sheet_47 (qPt_of ((zw_t ⟨hin, hb⟩).trans (zw_t hn0))) rfl
    · refine qk_iloadn C dX6_sheet_11 12 rfl rfl 2 rfl ?_
      refine qk_bipush C (8) dX6_sheet_12 14 rfl rfl ?_
      refine qk_icmp_eq C dX6_sheet_14 36 rfl 17 rfl (fun c_14 => ?_) (fun c_14 => ?_)
      · have hb : z_bit b := by unfold z_bit; first | exact Or.inl c_8 | exact Or.inr (Or.inl c_14) | exact Or.inr (Or.inr (Or.inl c_20)) | exact Or.inr (Or.inr (Or.inr c_26))
        have hin := c_4
        refine qk_iloadn C dX6_sheet_36 37 rfl rfl 3 rfl ?_
        refine qk_if_ge C dX6_sheet_37 48 rfl 40 rfl (fun c_37 => ?_) (fun c_37 => ?_)
        · have hn0 : ¬ n < 0 := Int32.not_lt.mpr c_37
          refine qk_iloadn C dX6_sheet_48 49 rfl rfl 3 rfl ?_
          refine qk_bipush C (40) dX6_sheet_49 51 rfl rfl ?_
          refine qk_icmp_le C dX6_sheet_51 61 rfl 54 rfl (fun c_51 => ?_) (fun c_51 => ?_)
          · have hn4 : ¬ 40 < n := Int32.not_lt.mpr c_51
            obtain ⟨js, hjs, rfl⟩ := z_in_ex 3 rfl (by omega) hin
            refine qk_aloadn C dX6_sheet_61 62 rfl rfl 0 rfl ?_
            refine qk_get C dX6_sheet_62 65 rfl qf_X6_48 53 (by decide) rfl rfl ?_
            refine qk_iloadn C dX6_sheet_65 66 rfl rfl 1 rfl ?_
            refine qk_iloadn C dX6_sheet_66 67 rfl rfl 2 rfl ?_
            refine qk_iast C dX6_sheet_67 68 rfl 61 (by decide) (fun _ => rfl) js rfl (by omega) (by decide) ?_
            refine qk_aloadn C dX6_sheet_68 69 rfl rfl 0 rfl ?_
            refine qk_get C dX6_sheet_69 72 rfl qf_X6_51 53 (by decide) rfl rfl ?_
            refine qk_iloadn C dX6_sheet_72 73 rfl rfl 1 rfl ?_
            refine qk_iloadn C dX6_sheet_73 74 rfl rfl 2 rfl ?_
            refine qk_if_ne C dX6_sheet_74 81 rfl 77 rfl (fun c_74 => ?_) (fun c_74 => ?_)
            · refine qk_iloadn C dX6_sheet_81 82 rfl rfl 3 rfl ?_
              refine qk_cast (show n = z_sb b n 1 from by simp [z_sb, c_74]) ?_
              refine qk_iast C dX6_sheet_82 83 rfl 62 (by decide) (fun _ => rfl) js rfl (by omega) (by decide) ?_
              refine qk_sg (va_up (va_up σ 61 (upd (σ 61) js b)) 62 (upd (σ 62) js (z_sb b n 1))) rfl ?_
              refine qk_iconst C (nI 0) dX6_sheet_83 84 rfl rfl ?_
              refine qk_istore C dX6_sheet_84 86 rfl (by decide) rfl ?_
              have lp_86 : ∀ (n_86 : Nat) (i : Nat), i ≤ 40 → 40 - i < n_86 → qx_K l G Δ (va_up (va_up (va_up σ 61 (upd (σ 61) js b)) 62 (upd (σ 62) js (z_sb b n 1))) 63 (m_zr (σ 63) (40 * js) i)) 86 [(4, .int (nI i)), (0, .ref (qx_ad G 53)), (1, .int (nI js))] [] := by
                intro n_86
                induction n_86 with
                | zero => intro _ _ h9; exact absurd h9 (Nat.not_lt_zero _)
                | succ n_86 ih_86 =>
                  intro i hi hm_86
                  refine qk_iload C dX6_sheet_86 88 rfl 0 rfl ?_
                  refine qk_bipush C (nI 40) dX6_sheet_88 90 rfl rfl ?_
                  refine qk_icmp_ge C dX6_sheet_90 112 rfl 93 rfl (fun c_90 => ?_) (fun c_90 => ?_)
                  · have h40 : 40 ≤ i := (nI_leI (by omega) (by omega)).mp c_90
                    have hie : i = 40 := by omega
                    subst hie
                    refine qk_aloadn C dX6_sheet_112 113 rfl rfl 1 rfl ?_
                    refine qk_get C dX6_sheet_113 116 rfl qf_X6_51 53 (by decide) rfl rfl ?_
                    refine qk_iloadn C dX6_sheet_116 117 rfl rfl 2 rfl ?_
                    refine qk_iald C dX6_sheet_117 118 rfl 62 (by decide) (fun _ => rfl) js rfl (by omega) (by decide) ?_
                    refine qk_cast (show _ = z_sb b n 1 from upd_eq (f := σ 62) (k := js)) ?_
                    exact hret _ _ _ _ dX6_sheet_118 (qPt_of (by unfold M_sheet; rw [zn_nI (show js < 2 ^ 31 by omega)]; exact (zw_t ⟨hin, hb⟩).trans ((zw_f hn0).trans (zw_f hn4)))) rfl
                  · have h40 : i < 40 := Nat.not_le.mp (fun q => c_90 (nI_le q (by omega)))
                    refine qk_aloadn C dX6_sheet_93 94 rfl rfl 1 rfl ?_
                    refine qk_get C dX6_sheet_94 97 rfl qf_X6_54 53 (by decide) rfl rfl ?_
                    refine qk_bipush C (40) dX6_sheet_97 99 rfl rfl ?_
                    refine qk_iloadn C dX6_sheet_99 100 rfl rfl 2 rfl ?_
                    refine qk_imul C dX6_sheet_100 101 rfl ?_
                    refine qk_cast (m_40 (by omega)) ?_
                    refine qk_iload C dX6_sheet_101 103 rfl 0 rfl ?_
                    refine qk_iadd C dX6_sheet_103 104 rfl ?_
                    refine qk_cast (nI_add _ _) ?_
                    refine qk_iconst C (0) dX6_sheet_104 105 rfl rfl ?_
                    refine qk_iast C dX6_sheet_105 106 rfl 63 (by decide) (fun _ => rfl) (40 * js + i) rfl (by omega) (by decide) ?_
                    refine qk_sg _ (m_uu.trans (congrArg (va_up (va_up (va_up σ 61 (upd (σ 61) js b)) 62 (upd (σ 62) js (z_sb b n 1))) 63) m_zr_s)) ?_
                    refine qk_iinc C (nI (i + 1)) dX6_sheet_106 109 rfl 0 rfl (nI_1 i) (by decide) rfl ?_
                    refine qk_goto C dX6_sheet_109 86 rfl ?_
                    exact ih_86 (i + 1) (by omega) (by omega)
              refine qk_sg (va_up (va_up (va_up σ 61 (upd (σ 61) js b)) 62 (upd (σ 62) js (z_sb b n 1))) 63 (m_zr (σ 63) (40 * js) 0)) (by rw [m_zr0]; exact (m_upid (k := 63)).symm) ?_
              exact qk_lo [0, 1, 2] rfl (lp_86 _ 0 (by omega) (Nat.lt_succ_self _))
            · refine qk_iconst C (0) dX6_sheet_77 78 rfl rfl ?_
              refine qk_cast (show (0 : Int32) = z_sb b n 1 from by simp [z_sb, c_74]) ?_
              refine qk_goto C dX6_sheet_78 82 rfl ?_
              refine qk_iast C dX6_sheet_82 83 rfl 62 (by decide) (fun _ => rfl) js rfl (by omega) (by decide) ?_
              refine qk_sg (va_up (va_up σ 61 (upd (σ 61) js b)) 62 (upd (σ 62) js (z_sb b n 1))) rfl ?_
              refine qk_iconst C (nI 0) dX6_sheet_83 84 rfl rfl ?_
              refine qk_istore C dX6_sheet_84 86 rfl (by decide) rfl ?_
              have lp_86 : ∀ (n_86 : Nat) (i : Nat), i ≤ 40 → 40 - i < n_86 → qx_K l G Δ (va_up (va_up (va_up σ 61 (upd (σ 61) js b)) 62 (upd (σ 62) js (z_sb b n 1))) 63 (m_zr (σ 63) (40 * js) i)) 86 [(4, .int (nI i)), (0, .ref (qx_ad G 53)), (1, .int (nI js))] [] := by
                intro n_86
                induction n_86 with
                | zero => intro _ _ h9; exact absurd h9 (Nat.not_lt_zero _)
                | succ n_86 ih_86 =>
                  intro i hi hm_86
                  refine qk_iload C dX6_sheet_86 88 rfl 0 rfl ?_
                  refine qk_bipush C (nI 40) dX6_sheet_88 90 rfl rfl ?_
                  refine qk_icmp_ge C dX6_sheet_90 112 rfl 93 rfl (fun c_90 => ?_) (fun c_90 => ?_)
                  · have h40 : 40 ≤ i := (nI_leI (by omega) (by omega)).mp c_90
                    have hie : i = 40 := by omega
                    subst hie
                    refine qk_aloadn C dX6_sheet_112 113 rfl rfl 1 rfl ?_
                    refine qk_get C dX6_sheet_113 116 rfl qf_X6_51 53 (by decide) rfl rfl ?_
                    refine qk_iloadn C dX6_sheet_116 117 rfl rfl 2 rfl ?_
                    refine qk_iald C dX6_sheet_117 118 rfl 62 (by decide) (fun _ => rfl) js rfl (by omega) (by decide) ?_
                    refine qk_cast (show _ = z_sb b n 1 from upd_eq (f := σ 62) (k := js)) ?_
                    exact hret _ _ _ _ dX6_sheet_118 (qPt_of (by unfold M_sheet; rw [zn_nI (show js < 2 ^ 31 by omega)]; exact (zw_t ⟨hin, hb⟩).trans ((zw_f hn0).trans (zw_f hn4)))) rfl
                  · have h40 : i < 40 := Nat.not_le.mp (fun q => c_90 (nI_le q (by omega)))
                    refine qk_aloadn C dX6_sheet_93 94 rfl rfl 1 rfl ?_
                    refine qk_get C dX6_sheet_94 97 rfl qf_X6_54 53 (by decide) rfl rfl ?_
                    refine qk_bipush C (40) dX6_sheet_97 99 rfl rfl ?_
                    refine qk_iloadn C dX6_sheet_99 100 rfl rfl 2 rfl ?_
                    refine qk_imul C dX6_sheet_100 101 rfl ?_
                    refine qk_cast (m_40 (by omega)) ?_
                    refine qk_iload C dX6_sheet_101 103 rfl 0 rfl ?_
                    refine qk_iadd C dX6_sheet_103 104 rfl ?_
                    refine qk_cast (nI_add _ _) ?_
                    refine qk_iconst C (0) dX6_sheet_104 105 rfl rfl ?_
                    refine qk_iast C dX6_sheet_105 106 rfl 63 (by decide) (fun _ => rfl) (40 * js + i) rfl (by omega) (by decide) ?_
                    refine qk_sg _ (m_uu.trans (congrArg (va_up (va_up (va_up σ 61 (upd (σ 61) js b)) 62 (upd (σ 62) js (z_sb b n 1))) 63) m_zr_s)) ?_
                    refine qk_iinc C (nI (i + 1)) dX6_sheet_106 109 rfl 0 rfl (nI_1 i) (by decide) rfl ?_
                    refine qk_goto C dX6_sheet_109 86 rfl ?_
                    exact ih_86 (i + 1) (by omega) (by omega)
              refine qk_sg (va_up (va_up (va_up σ 61 (upd (σ 61) js b)) 62 (upd (σ 62) js (z_sb b n 1))) 63 (m_zr (σ 63) (40 * js) 0)) (by rw [m_zr0]; exact (m_upid (k := 63)).symm) ?_
              exact qk_lo [0, 1, 2] rfl (lp_86 _ 0 (by omega) (Nat.lt_succ_self _))
          · have hn4 : 40 < n := Int32.not_le.mp c_51
            refine qk_aloadn C dX6_sheet_54 55 rfl rfl 0 rfl ?_
            refine qk_ldc C dX6_sheet_55 57 rfl qw_947 ?_
            refine qk_callV C dX6_sheet_57 60 rfl ql_X6_66 qc_X6_finding 53 (by decide) rfl rfl (c_X6_finding l G _ _ 0 (by decide) (by decide)) rfl rfl (Nat.le_of_ble_eq_true rfl) ⟨(Nat.le_of_ble_eq_true rfl), (Nat.le_of_ble_eq_true rfl)⟩ (qx_Ki ?_)
            exact hret _ _ _ _ dX6_sheet_60 (qPt_of ((zw_t ⟨hin, hb⟩).trans ((zw_f hn0).trans (zw_t hn4)))) rfl
        · have hn0 : n < 0 := Int32.not_le.mp c_37
          refine qk_aloadn C dX6_sheet_40 41 rfl rfl 0 rfl ?_
          refine qk_ldcw C dX6_sheet_41 44 rfl qw_1320 ?_
          refine qk_callV C dX6_sheet_44 47 rfl ql_X6_66 qc_X6_finding 53 (by decide) rfl rfl (c_X6_finding l G _ _ 6 (by decide) (by decide)) rfl rfl (Nat.le_of_ble_eq_true rfl) ⟨(Nat.le_of_ble_eq_true rfl), (Nat.le_of_ble_eq_true rfl)⟩ (qx_Ki ?_)
          exact hret _ _ _ _ dX6_sheet_47 (qPt_of ((zw_t ⟨hin, hb⟩).trans (zw_t hn0))) rfl
      · refine qk_iloadn C dX6_sheet_17 18 rfl rfl 2 rfl ?_
        refine qk_bipush C (16) dX6_sheet_18 20 rfl rfl ?_
        refine qk_icmp_eq C dX6_sheet_20 36 rfl 23 rfl (fun c_20 => ?_) (fun c_20 => ?_)
        · have hb : z_bit b := by unfold z_bit; first | exact Or.inl c_8 | exact Or.inr (Or.inl c_14) | exact Or.inr (Or.inr (Or.inl c_20)) | exact Or.inr (Or.inr (Or.inr c_26))
          have hin := c_4
          refine qk_iloadn C dX6_sheet_36 37 rfl rfl 3 rfl ?_
          refine qk_if_ge C dX6_sheet_37 48 rfl 40 rfl (fun c_37 => ?_) (fun c_37 => ?_)
          · have hn0 : ¬ n < 0 := Int32.not_lt.mpr c_37
            refine qk_iloadn C dX6_sheet_48 49 rfl rfl 3 rfl ?_
            refine qk_bipush C (40) dX6_sheet_49 51 rfl rfl ?_
            refine qk_icmp_le C dX6_sheet_51 61 rfl 54 rfl (fun c_51 => ?_) (fun c_51 => ?_)
            · have hn4 : ¬ 40 < n := Int32.not_lt.mpr c_51
              obtain ⟨js, hjs, rfl⟩ := z_in_ex 3 rfl (by omega) hin
              refine qk_aloadn C dX6_sheet_61 62 rfl rfl 0 rfl ?_
              refine qk_get C dX6_sheet_62 65 rfl qf_X6_48 53 (by decide) rfl rfl ?_
              refine qk_iloadn C dX6_sheet_65 66 rfl rfl 1 rfl ?_
              refine qk_iloadn C dX6_sheet_66 67 rfl rfl 2 rfl ?_
              refine qk_iast C dX6_sheet_67 68 rfl 61 (by decide) (fun _ => rfl) js rfl (by omega) (by decide) ?_
              refine qk_aloadn C dX6_sheet_68 69 rfl rfl 0 rfl ?_
              refine qk_get C dX6_sheet_69 72 rfl qf_X6_51 53 (by decide) rfl rfl ?_
              refine qk_iloadn C dX6_sheet_72 73 rfl rfl 1 rfl ?_
              refine qk_iloadn C dX6_sheet_73 74 rfl rfl 2 rfl ?_
              refine qk_if_ne C dX6_sheet_74 81 rfl 77 rfl (fun c_74 => ?_) (fun c_74 => ?_)
              · refine qk_iloadn C dX6_sheet_81 82 rfl rfl 3 rfl ?_
                refine qk_cast (show n = z_sb b n 1 from by simp [z_sb, c_74]) ?_
                refine qk_iast C dX6_sheet_82 83 rfl 62 (by decide) (fun _ => rfl) js rfl (by omega) (by decide) ?_
                refine qk_sg (va_up (va_up σ 61 (upd (σ 61) js b)) 62 (upd (σ 62) js (z_sb b n 1))) rfl ?_
                refine qk_iconst C (nI 0) dX6_sheet_83 84 rfl rfl ?_
                refine qk_istore C dX6_sheet_84 86 rfl (by decide) rfl ?_
                have lp_86 : ∀ (n_86 : Nat) (i : Nat), i ≤ 40 → 40 - i < n_86 → qx_K l G Δ (va_up (va_up (va_up σ 61 (upd (σ 61) js b)) 62 (upd (σ 62) js (z_sb b n 1))) 63 (m_zr (σ 63) (40 * js) i)) 86 [(4, .int (nI i)), (0, .ref (qx_ad G 53)), (1, .int (nI js))] [] := by
                  intro n_86
                  induction n_86 with
                  | zero => intro _ _ h9; exact absurd h9 (Nat.not_lt_zero _)
                  | succ n_86 ih_86 =>
                    intro i hi hm_86
                    refine qk_iload C dX6_sheet_86 88 rfl 0 rfl ?_
                    refine qk_bipush C (nI 40) dX6_sheet_88 90 rfl rfl ?_
                    refine qk_icmp_ge C dX6_sheet_90 112 rfl 93 rfl (fun c_90 => ?_) (fun c_90 => ?_)
                    · have h40 : 40 ≤ i := (nI_leI (by omega) (by omega)).mp c_90
                      have hie : i = 40 := by omega
                      subst hie
                      refine qk_aloadn C dX6_sheet_112 113 rfl rfl 1 rfl ?_
                      refine qk_get C dX6_sheet_113 116 rfl qf_X6_51 53 (by decide) rfl rfl ?_
                      refine qk_iloadn C dX6_sheet_116 117 rfl rfl 2 rfl ?_
                      refine qk_iald C dX6_sheet_117 118 rfl 62 (by decide) (fun _ => rfl) js rfl (by omega) (by decide) ?_
                      refine qk_cast (show _ = z_sb b n 1 from upd_eq (f := σ 62) (k := js)) ?_
                      exact hret _ _ _ _ dX6_sheet_118 (qPt_of (by unfold M_sheet; rw [zn_nI (show js < 2 ^ 31 by omega)]; exact (zw_t ⟨hin, hb⟩).trans ((zw_f hn0).trans (zw_f hn4)))) rfl
                    · have h40 : i < 40 := Nat.not_le.mp (fun q => c_90 (nI_le q (by omega)))
                      refine qk_aloadn C dX6_sheet_93 94 rfl rfl 1 rfl ?_
                      refine qk_get C dX6_sheet_94 97 rfl qf_X6_54 53 (by decide) rfl rfl ?_
                      refine qk_bipush C (40) dX6_sheet_97 99 rfl rfl ?_
                      refine qk_iloadn C dX6_sheet_99 100 rfl rfl 2 rfl ?_
                      refine qk_imul C dX6_sheet_100 101 rfl ?_
                      refine qk_cast (m_40 (by omega)) ?_
                      refine qk_iload C dX6_sheet_101 103 rfl 0 rfl ?_
                      refine qk_iadd C dX6_sheet_103 104 rfl ?_
                      refine qk_cast (nI_add _ _) ?_
                      refine qk_iconst C (0) dX6_sheet_104 105 rfl rfl ?_
                      refine qk_iast C dX6_sheet_105 106 rfl 63 (by decide) (fun _ => rfl) (40 * js + i) rfl (by omega) (by decide) ?_
                      refine qk_sg _ (m_uu.trans (congrArg (va_up (va_up (va_up σ 61 (upd (σ 61) js b)) 62 (upd (σ 62) js (z_sb b n 1))) 63) m_zr_s)) ?_
                      refine qk_iinc C (nI (i + 1)) dX6_sheet_106 109 rfl 0 rfl (nI_1 i) (by decide) rfl ?_
                      refine qk_goto C dX6_sheet_109 86 rfl ?_
                      exact ih_86 (i + 1) (by omega) (by omega)
                refine qk_sg (va_up (va_up (va_up σ 61 (upd (σ 61) js b)) 62 (upd (σ 62) js (z_sb b n 1))) 63 (m_zr (σ 63) (40 * js) 0)) (by rw [m_zr0]; exact (m_upid (k := 63)).symm) ?_
                exact qk_lo [0, 1, 2] rfl (lp_86 _ 0 (by omega) (Nat.lt_succ_self _))
              · refine qk_iconst C (0) dX6_sheet_77 78 rfl rfl ?_
                refine qk_cast (show (0 : Int32) = z_sb b n 1 from by simp [z_sb, c_74]) ?_
                refine qk_goto C dX6_sheet_78 82 rfl ?_
                refine qk_iast C dX6_sheet_82 83 rfl 62 (by decide) (fun _ => rfl) js rfl (by omega) (by decide) ?_
                refine qk_sg (va_up (va_up σ 61 (upd (σ 61) js b)) 62 (upd (σ 62) js (z_sb b n 1))) rfl ?_
                refine qk_iconst C (nI 0) dX6_sheet_83 84 rfl rfl ?_
                refine qk_istore C dX6_sheet_84 86 rfl (by decide) rfl ?_
                have lp_86 : ∀ (n_86 : Nat) (i : Nat), i ≤ 40 → 40 - i < n_86 → qx_K l G Δ (va_up (va_up (va_up σ 61 (upd (σ 61) js b)) 62 (upd (σ 62) js (z_sb b n 1))) 63 (m_zr (σ 63) (40 * js) i)) 86 [(4, .int (nI i)), (0, .ref (qx_ad G 53)), (1, .int (nI js))] [] := by
                  intro n_86
                  induction n_86 with
                  | zero => intro _ _ h9; exact absurd h9 (Nat.not_lt_zero _)
                  | succ n_86 ih_86 =>
                    intro i hi hm_86
                    refine qk_iload C dX6_sheet_86 88 rfl 0 rfl ?_
                    refine qk_bipush C (nI 40) dX6_sheet_88 90 rfl rfl ?_
                    refine qk_icmp_ge C dX6_sheet_90 112 rfl 93 rfl (fun c_90 => ?_) (fun c_90 => ?_)
                    · have h40 : 40 ≤ i := (nI_leI (by omega) (by omega)).mp c_90
                      have hie : i = 40 := by omega
                      subst hie
                      refine qk_aloadn C dX6_sheet_112 113 rfl rfl 1 rfl ?_
                      refine qk_get C dX6_sheet_113 116 rfl qf_X6_51 53 (by decide) rfl rfl ?_
                      refine qk_iloadn C dX6_sheet_116 117 rfl rfl 2 rfl ?_
                      refine qk_iald C dX6_sheet_117 118 rfl 62 (by decide) (fun _ => rfl) js rfl (by omega) (by decide) ?_
                      refine qk_cast (show _ = z_sb b n 1 from upd_eq (f := σ 62) (k := js)) ?_
                      exact hret _ _ _ _ dX6_sheet_118 (qPt_of (by unfold M_sheet; rw [zn_nI (show js < 2 ^ 31 by omega)]; exact (zw_t ⟨hin, hb⟩).trans ((zw_f hn0).trans (zw_f hn4)))) rfl
                    · have h40 : i < 40 := Nat.not_le.mp (fun q => c_90 (nI_le q (by omega)))
                      refine qk_aloadn C dX6_sheet_93 94 rfl rfl 1 rfl ?_
                      refine qk_get C dX6_sheet_94 97 rfl qf_X6_54 53 (by decide) rfl rfl ?_
                      refine qk_bipush C (40) dX6_sheet_97 99 rfl rfl ?_
                      refine qk_iloadn C dX6_sheet_99 100 rfl rfl 2 rfl ?_
                      refine qk_imul C dX6_sheet_100 101 rfl ?_
                      refine qk_cast (m_40 (by omega)) ?_
                      refine qk_iload C dX6_sheet_101 103 rfl 0 rfl ?_
                      refine qk_iadd C dX6_sheet_103 104 rfl ?_
                      refine qk_cast (nI_add _ _) ?_
                      refine qk_iconst C (0) dX6_sheet_104 105 rfl rfl ?_
                      refine qk_iast C dX6_sheet_105 106 rfl 63 (by decide) (fun _ => rfl) (40 * js + i) rfl (by omega) (by decide) ?_
                      refine qk_sg _ (m_uu.trans (congrArg (va_up (va_up (va_up σ 61 (upd (σ 61) js b)) 62 (upd (σ 62) js (z_sb b n 1))) 63) m_zr_s)) ?_
                      refine qk_iinc C (nI (i + 1)) dX6_sheet_106 109 rfl 0 rfl (nI_1 i) (by decide) rfl ?_
                      refine qk_goto C dX6_sheet_109 86 rfl ?_
                      exact ih_86 (i + 1) (by omega) (by omega)
                refine qk_sg (va_up (va_up (va_up σ 61 (upd (σ 61) js b)) 62 (upd (σ 62) js (z_sb b n 1))) 63 (m_zr (σ 63) (40 * js) 0)) (by rw [m_zr0]; exact (m_upid (k := 63)).symm) ?_
                exact qk_lo [0, 1, 2] rfl (lp_86 _ 0 (by omega) (Nat.lt_succ_self _))
            · have hn4 : 40 < n := Int32.not_le.mp c_51
              refine qk_aloadn C dX6_sheet_54 55 rfl rfl 0 rfl ?_
              refine qk_ldc C dX6_sheet_55 57 rfl qw_947 ?_
              refine qk_callV C dX6_sheet_57 60 rfl ql_X6_66 qc_X6_finding 53 (by decide) rfl rfl (c_X6_finding l G _ _ 0 (by decide) (by decide)) rfl rfl (Nat.le_of_ble_eq_true rfl) ⟨(Nat.le_of_ble_eq_true rfl), (Nat.le_of_ble_eq_true rfl)⟩ (qx_Ki ?_)
              exact hret _ _ _ _ dX6_sheet_60 (qPt_of ((zw_t ⟨hin, hb⟩).trans ((zw_f hn0).trans (zw_t hn4)))) rfl
          · have hn0 : n < 0 := Int32.not_le.mp c_37
            refine qk_aloadn C dX6_sheet_40 41 rfl rfl 0 rfl ?_
            refine qk_ldcw C dX6_sheet_41 44 rfl qw_1320 ?_
            refine qk_callV C dX6_sheet_44 47 rfl ql_X6_66 qc_X6_finding 53 (by decide) rfl rfl (c_X6_finding l G _ _ 6 (by decide) (by decide)) rfl rfl (Nat.le_of_ble_eq_true rfl) ⟨(Nat.le_of_ble_eq_true rfl), (Nat.le_of_ble_eq_true rfl)⟩ (qx_Ki ?_)
            exact hret _ _ _ _ dX6_sheet_47 (qPt_of ((zw_t ⟨hin, hb⟩).trans (zw_t hn0))) rfl
        · refine qk_iloadn C dX6_sheet_23 24 rfl rfl 2 rfl ?_
          refine qk_bipush C (32) dX6_sheet_24 26 rfl rfl ?_
          refine qk_icmp_eq C dX6_sheet_26 36 rfl 29 rfl (fun c_26 => ?_) (fun c_26 => ?_)
          · have hb : z_bit b := by unfold z_bit; first | exact Or.inl c_8 | exact Or.inr (Or.inl c_14) | exact Or.inr (Or.inr (Or.inl c_20)) | exact Or.inr (Or.inr (Or.inr c_26))
            have hin := c_4
            refine qk_iloadn C dX6_sheet_36 37 rfl rfl 3 rfl ?_
            refine qk_if_ge C dX6_sheet_37 48 rfl 40 rfl (fun c_37 => ?_) (fun c_37 => ?_)
            · have hn0 : ¬ n < 0 := Int32.not_lt.mpr c_37
              refine qk_iloadn C dX6_sheet_48 49 rfl rfl 3 rfl ?_
              refine qk_bipush C (40) dX6_sheet_49 51 rfl rfl ?_
              refine qk_icmp_le C dX6_sheet_51 61 rfl 54 rfl (fun c_51 => ?_) (fun c_51 => ?_)
              · have hn4 : ¬ 40 < n := Int32.not_lt.mpr c_51
                obtain ⟨js, hjs, rfl⟩ := z_in_ex 3 rfl (by omega) hin
                refine qk_aloadn C dX6_sheet_61 62 rfl rfl 0 rfl ?_
                refine qk_get C dX6_sheet_62 65 rfl qf_X6_48 53 (by decide) rfl rfl ?_
                refine qk_iloadn C dX6_sheet_65 66 rfl rfl 1 rfl ?_
                refine qk_iloadn C dX6_sheet_66 67 rfl rfl 2 rfl ?_
                refine qk_iast C dX6_sheet_67 68 rfl 61 (by decide) (fun _ => rfl) js rfl (by omega) (by decide) ?_
                refine qk_aloadn C dX6_sheet_68 69 rfl rfl 0 rfl ?_
                refine qk_get C dX6_sheet_69 72 rfl qf_X6_51 53 (by decide) rfl rfl ?_
                refine qk_iloadn C dX6_sheet_72 73 rfl rfl 1 rfl ?_
                refine qk_iloadn C dX6_sheet_73 74 rfl rfl 2 rfl ?_
                refine qk_if_ne C dX6_sheet_74 81 rfl 77 rfl (fun c_74 => ?_) (fun c_74 => ?_)
                · refine qk_iloadn C dX6_sheet_81 82 rfl rfl 3 rfl ?_
                  refine qk_cast (show n = z_sb b n 1 from by simp [z_sb, c_74]) ?_
                  refine qk_iast C dX6_sheet_82 83 rfl 62 (by decide) (fun _ => rfl) js rfl (by omega) (by decide) ?_
                  refine qk_sg (va_up (va_up σ 61 (upd (σ 61) js b)) 62 (upd (σ 62) js (z_sb b n 1))) rfl ?_
                  refine qk_iconst C (nI 0) dX6_sheet_83 84 rfl rfl ?_
                  refine qk_istore C dX6_sheet_84 86 rfl (by decide) rfl ?_
                  have lp_86 : ∀ (n_86 : Nat) (i : Nat), i ≤ 40 → 40 - i < n_86 → qx_K l G Δ (va_up (va_up (va_up σ 61 (upd (σ 61) js b)) 62 (upd (σ 62) js (z_sb b n 1))) 63 (m_zr (σ 63) (40 * js) i)) 86 [(4, .int (nI i)), (0, .ref (qx_ad G 53)), (1, .int (nI js))] [] := by
                    intro n_86
                    induction n_86 with
                    | zero => intro _ _ h9; exact absurd h9 (Nat.not_lt_zero _)
                    | succ n_86 ih_86 =>
                      intro i hi hm_86
                      refine qk_iload C dX6_sheet_86 88 rfl 0 rfl ?_
                      refine qk_bipush C (nI 40) dX6_sheet_88 90 rfl rfl ?_
                      refine qk_icmp_ge C dX6_sheet_90 112 rfl 93 rfl (fun c_90 => ?_) (fun c_90 => ?_)
                      · have h40 : 40 ≤ i := (nI_leI (by omega) (by omega)).mp c_90
                        have hie : i = 40 := by omega
                        subst hie
                        refine qk_aloadn C dX6_sheet_112 113 rfl rfl 1 rfl ?_
                        refine qk_get C dX6_sheet_113 116 rfl qf_X6_51 53 (by decide) rfl rfl ?_
                        refine qk_iloadn C dX6_sheet_116 117 rfl rfl 2 rfl ?_
                        refine qk_iald C dX6_sheet_117 118 rfl 62 (by decide) (fun _ => rfl) js rfl (by omega) (by decide) ?_
                        refine qk_cast (show _ = z_sb b n 1 from upd_eq (f := σ 62) (k := js)) ?_
                        exact hret _ _ _ _ dX6_sheet_118 (qPt_of (by unfold M_sheet; rw [zn_nI (show js < 2 ^ 31 by omega)]; exact (zw_t ⟨hin, hb⟩).trans ((zw_f hn0).trans (zw_f hn4)))) rfl
                      · have h40 : i < 40 := Nat.not_le.mp (fun q => c_90 (nI_le q (by omega)))
                        refine qk_aloadn C dX6_sheet_93 94 rfl rfl 1 rfl ?_
                        refine qk_get C dX6_sheet_94 97 rfl qf_X6_54 53 (by decide) rfl rfl ?_
                        refine qk_bipush C (40) dX6_sheet_97 99 rfl rfl ?_
                        refine qk_iloadn C dX6_sheet_99 100 rfl rfl 2 rfl ?_
                        refine qk_imul C dX6_sheet_100 101 rfl ?_
                        refine qk_cast (m_40 (by omega)) ?_
                        refine qk_iload C dX6_sheet_101 103 rfl 0 rfl ?_
                        refine qk_iadd C dX6_sheet_103 104 rfl ?_
                        refine qk_cast (nI_add _ _) ?_
                        refine qk_iconst C (0) dX6_sheet_104 105 rfl rfl ?_
                        refine qk_iast C dX6_sheet_105 106 rfl 63 (by decide) (fun _ => rfl) (40 * js + i) rfl (by omega) (by decide) ?_
                        refine qk_sg _ (m_uu.trans (congrArg (va_up (va_up (va_up σ 61 (upd (σ 61) js b)) 62 (upd (σ 62) js (z_sb b n 1))) 63) m_zr_s)) ?_
                        refine qk_iinc C (nI (i + 1)) dX6_sheet_106 109 rfl 0 rfl (nI_1 i) (by decide) rfl ?_
                        refine qk_goto C dX6_sheet_109 86 rfl ?_
                        exact ih_86 (i + 1) (by omega) (by omega)
                  refine qk_sg (va_up (va_up (va_up σ 61 (upd (σ 61) js b)) 62 (upd (σ 62) js (z_sb b n 1))) 63 (m_zr (σ 63) (40 * js) 0)) (by rw [m_zr0]; exact (m_upid (k := 63)).symm) ?_
                  exact qk_lo [0, 1, 2] rfl (lp_86 _ 0 (by omega) (Nat.lt_succ_self _))
                · refine qk_iconst C (0) dX6_sheet_77 78 rfl rfl ?_
                  refine qk_cast (show (0 : Int32) = z_sb b n 1 from by simp [z_sb, c_74]) ?_
                  refine qk_goto C dX6_sheet_78 82 rfl ?_
                  refine qk_iast C dX6_sheet_82 83 rfl 62 (by decide) (fun _ => rfl) js rfl (by omega) (by decide) ?_
                  refine qk_sg (va_up (va_up σ 61 (upd (σ 61) js b)) 62 (upd (σ 62) js (z_sb b n 1))) rfl ?_
                  refine qk_iconst C (nI 0) dX6_sheet_83 84 rfl rfl ?_
                  refine qk_istore C dX6_sheet_84 86 rfl (by decide) rfl ?_
                  have lp_86 : ∀ (n_86 : Nat) (i : Nat), i ≤ 40 → 40 - i < n_86 → qx_K l G Δ (va_up (va_up (va_up σ 61 (upd (σ 61) js b)) 62 (upd (σ 62) js (z_sb b n 1))) 63 (m_zr (σ 63) (40 * js) i)) 86 [(4, .int (nI i)), (0, .ref (qx_ad G 53)), (1, .int (nI js))] [] := by
                    intro n_86
                    induction n_86 with
                    | zero => intro _ _ h9; exact absurd h9 (Nat.not_lt_zero _)
                    | succ n_86 ih_86 =>
                      intro i hi hm_86
                      refine qk_iload C dX6_sheet_86 88 rfl 0 rfl ?_
                      refine qk_bipush C (nI 40) dX6_sheet_88 90 rfl rfl ?_
                      refine qk_icmp_ge C dX6_sheet_90 112 rfl 93 rfl (fun c_90 => ?_) (fun c_90 => ?_)
                      · have h40 : 40 ≤ i := (nI_leI (by omega) (by omega)).mp c_90
                        have hie : i = 40 := by omega
                        subst hie
                        refine qk_aloadn C dX6_sheet_112 113 rfl rfl 1 rfl ?_
                        refine qk_get C dX6_sheet_113 116 rfl qf_X6_51 53 (by decide) rfl rfl ?_
                        refine qk_iloadn C dX6_sheet_116 117 rfl rfl 2 rfl ?_
                        refine qk_iald C dX6_sheet_117 118 rfl 62 (by decide) (fun _ => rfl) js rfl (by omega) (by decide) ?_
                        refine qk_cast (show _ = z_sb b n 1 from upd_eq (f := σ 62) (k := js)) ?_
                        exact hret _ _ _ _ dX6_sheet_118 (qPt_of (by unfold M_sheet; rw [zn_nI (show js < 2 ^ 31 by omega)]; exact (zw_t ⟨hin, hb⟩).trans ((zw_f hn0).trans (zw_f hn4)))) rfl
                      · have h40 : i < 40 := Nat.not_le.mp (fun q => c_90 (nI_le q (by omega)))
                        refine qk_aloadn C dX6_sheet_93 94 rfl rfl 1 rfl ?_
                        refine qk_get C dX6_sheet_94 97 rfl qf_X6_54 53 (by decide) rfl rfl ?_
                        refine qk_bipush C (40) dX6_sheet_97 99 rfl rfl ?_
                        refine qk_iloadn C dX6_sheet_99 100 rfl rfl 2 rfl ?_
                        refine qk_imul C dX6_sheet_100 101 rfl ?_
                        refine qk_cast (m_40 (by omega)) ?_
                        refine qk_iload C dX6_sheet_101 103 rfl 0 rfl ?_
                        refine qk_iadd C dX6_sheet_103 104 rfl ?_
                        refine qk_cast (nI_add _ _) ?_
                        refine qk_iconst C (0) dX6_sheet_104 105 rfl rfl ?_
                        refine qk_iast C dX6_sheet_105 106 rfl 63 (by decide) (fun _ => rfl) (40 * js + i) rfl (by omega) (by decide) ?_
                        refine qk_sg _ (m_uu.trans (congrArg (va_up (va_up (va_up σ 61 (upd (σ 61) js b)) 62 (upd (σ 62) js (z_sb b n 1))) 63) m_zr_s)) ?_
                        refine qk_iinc C (nI (i + 1)) dX6_sheet_106 109 rfl 0 rfl (nI_1 i) (by decide) rfl ?_
                        refine qk_goto C dX6_sheet_109 86 rfl ?_
                        exact ih_86 (i + 1) (by omega) (by omega)
                  refine qk_sg (va_up (va_up (va_up σ 61 (upd (σ 61) js b)) 62 (upd (σ 62) js (z_sb b n 1))) 63 (m_zr (σ 63) (40 * js) 0)) (by rw [m_zr0]; exact (m_upid (k := 63)).symm) ?_
                  exact qk_lo [0, 1, 2] rfl (lp_86 _ 0 (by omega) (Nat.lt_succ_self _))
              · have hn4 : 40 < n := Int32.not_le.mp c_51
                refine qk_aloadn C dX6_sheet_54 55 rfl rfl 0 rfl ?_
                refine qk_ldc C dX6_sheet_55 57 rfl qw_947 ?_
                refine qk_callV C dX6_sheet_57 60 rfl ql_X6_66 qc_X6_finding 53 (by decide) rfl rfl (c_X6_finding l G _ _ 0 (by decide) (by decide)) rfl rfl (Nat.le_of_ble_eq_true rfl) ⟨(Nat.le_of_ble_eq_true rfl), (Nat.le_of_ble_eq_true rfl)⟩ (qx_Ki ?_)
                exact hret _ _ _ _ dX6_sheet_60 (qPt_of ((zw_t ⟨hin, hb⟩).trans ((zw_f hn0).trans (zw_t hn4)))) rfl
            · have hn0 : n < 0 := Int32.not_le.mp c_37
              refine qk_aloadn C dX6_sheet_40 41 rfl rfl 0 rfl ?_
              refine qk_ldcw C dX6_sheet_41 44 rfl qw_1320 ?_
              refine qk_callV C dX6_sheet_44 47 rfl ql_X6_66 qc_X6_finding 53 (by decide) rfl rfl (c_X6_finding l G _ _ 6 (by decide) (by decide)) rfl rfl (Nat.le_of_ble_eq_true rfl) ⟨(Nat.le_of_ble_eq_true rfl), (Nat.le_of_ble_eq_true rfl)⟩ (qx_Ki ?_)
              exact hret _ _ _ _ dX6_sheet_47 (qPt_of ((zw_t ⟨hin, hb⟩).trans (zw_t hn0))) rfl
          · refine qk_aloadn C dX6_sheet_29 30 rfl rfl 0 rfl ?_
            refine qk_ldc C dX6_sheet_30 32 rfl qw_947 ?_
            refine qk_callV C dX6_sheet_32 35 rfl ql_X6_66 qc_X6_finding 53 (by decide) rfl rfl (c_X6_finding l G _ _ 0 (by decide) (by decide)) rfl rfl (Nat.le_of_ble_eq_true rfl) ⟨(Nat.le_of_ble_eq_true rfl), (Nat.le_of_ble_eq_true rfl)⟩ (qx_Ki ?_)
            exact hret _ _ _ _ dX6_sheet_35 (qPt_of (zw_f (by first | exact fun q => c_4 q.1 | exact fun q => (by have := q.2; unfold z_bit at this; exact this.elim c_8 (fun q => q.elim c_14 (fun q => q.elim c_20 c_26)))))) rfl

theorem c_X6_write (l : Launch) (G : qx_G) (σ : qx_Sg) (hSh : qS_ok (m_vw σ)) (s i x : Int32) : qx_Ct l G yX6_write cX6_write 4 (some .int) 2 42 [.ref (qx_ad G 53), .int s, .int i, .int x] (σ) (qPt (M_write σ s i x)) := by
  refine qx_of .int (lo := [(0, .ref (qx_ad G 53)), (1, .int s), (2, .int i), (3, .int x)]) (by decide +kernel) (Nat.le_of_ble_eq_true rfl) rfl (fun Δ (C : qx_C G Δ cX6_write RX6 4 2 42) hret => ?_)
  refine qk_iloadn C dX6_write_0 1 rfl rfl 1 rfl ?_
  refine qk_callS C dX6_write_1 4 rfl ql_X6_224 qc_X6_isSheet (c_X6_isSheet l G _ _) rfl rfl (Nat.le_of_ble_eq_true rfl) ⟨(Nat.le_of_ble_eq_true rfl), (Nat.le_of_ble_eq_true rfl)⟩ (qx_Ki ?_)
  refine qk_if_neB C dX6_write_4 14 rfl 7 rfl (fun c_4 => ?_) (fun c_4 => ?_)
  · have hin := c_4
    obtain ⟨js, hjs, rfl⟩ := z_in_ex 3 rfl (by omega) c_4
    refine qk_aloadn C dX6_write_14 15 rfl rfl 0 rfl ?_
    refine qk_get C dX6_write_15 18 rfl qf_X6_48 53 (by decide) rfl rfl ?_
    refine qk_iloadn C dX6_write_18 19 rfl rfl 1 rfl ?_
    refine qk_iald C dX6_write_19 20 rfl 61 (by decide) (fun _ => rfl) (js) rfl (by omega) (by decide) ?_
    refine qk_cast (show _ = σ 61 (js) from rfl) ?_
    refine qk_if_ne C dX6_write_20 30 rfl 23 rfl (fun c_20 => ?_) (fun c_20 => ?_)
    · refine qk_iloadn C dX6_write_30 31 rfl rfl 2 rfl ?_
      refine qk_iconst C (0) dX6_write_31 32 rfl rfl ?_
      refine qk_aloadn C dX6_write_32 33 rfl rfl 0 rfl ?_
      refine qk_get C dX6_write_33 36 rfl qf_X6_51 53 (by decide) rfl rfl ?_
      refine qk_iloadn C dX6_write_36 37 rfl rfl 1 rfl ?_
      refine qk_iald C dX6_write_37 38 rfl 62 (by decide) (fun _ => rfl) (js) rfl (by omega) (by decide) ?_
      refine qk_cast (show _ = σ 62 (js) from rfl) ?_
      refine qk_iconst C (1) dX6_write_38 39 rfl rfl ?_
      refine qk_isub C dX6_write_39 40 rfl ?_
      refine qk_callS C dX6_write_40 43 rfl ql_X6_70 qc_X6_within (c_X6_within l G _ _ _ _) rfl rfl (Nat.le_of_ble_eq_true rfl) ⟨(Nat.le_of_ble_eq_true rfl), (Nat.le_of_ble_eq_true rfl)⟩ (qx_Ki ?_)
      refine qk_if_neB C dX6_write_43 53 rfl 46 rfl (fun c_43 => ?_) (fun c_43 => ?_)
      · obtain ⟨n, hn, en⟩ := (hSh js (by omega)).2
        rw [m_vw1 (by omega)] at en
        have c43 : z_in i (σ 62 js - 1) := c_43
        rw [en] at c43
        obtain ⟨ji, hji, rfl⟩ := z_in_m1 hn c43
        refine qk_aloadn C dX6_write_53 54 rfl rfl 0 rfl ?_
        refine qk_get C dX6_write_54 57 rfl qf_X6_54 53 (by decide) rfl rfl ?_
        refine qk_bipush C (40) dX6_write_57 59 rfl rfl ?_
        refine qk_iloadn C dX6_write_59 60 rfl rfl 1 rfl ?_
        refine qk_imul C dX6_write_60 61 rfl ?_
        refine qk_cast (m_40 (by omega)) ?_
        refine qk_iloadn C dX6_write_61 62 rfl rfl 2 rfl ?_
        refine qk_iadd C dX6_write_62 63 rfl ?_
        refine qk_cast (nI_add _ _) ?_
        refine qk_iloadn C dX6_write_63 64 rfl rfl 3 rfl ?_
        refine qk_aloadn C dX6_write_64 65 rfl rfl 0 rfl ?_
        refine qk_get C dX6_write_65 68 rfl qf_X6_48 53 (by decide) rfl rfl ?_
        refine qk_iloadn C dX6_write_68 69 rfl rfl 1 rfl ?_
        refine qk_iald C dX6_write_69 70 rfl 61 (by decide) (fun _ => rfl) (js) rfl (by omega) (by decide) ?_
        refine qk_cast (show _ = σ 61 (js) from rfl) ?_
        refine qk_callS C dX6_write_70 73 rfl ql_X6_326 qc_X6_cutTo (c_X6_cutTo l G _ _ _) rfl rfl (Nat.le_of_ble_eq_true rfl) ⟨(Nat.le_of_ble_eq_true rfl), (Nat.le_of_ble_eq_true rfl)⟩ (qx_Ki ?_)
        refine qk_iast C dX6_write_73 74 rfl 63 (by decide) (fun _ => rfl) (40 * js + ji) rfl (by omega) (by decide) ?_
        refine qk_iconst C (1) dX6_write_74 75 rfl rfl ?_
        exact hret _ _ _ _ dX6_write_75 (qPt_of (by unfold M_write; rw [zn_nI (show js < 2 ^ 31 by omega), zn_nI (show ji < 2 ^ 31 by omega)]; exact (zw_t hin).trans ((zw_f c_20).trans (zw_t c_43)))) rfl
      · refine qk_aloadn C dX6_write_46 47 rfl rfl 0 rfl ?_
        refine qk_ldc C dX6_write_47 49 rfl qw_947 ?_
        refine qk_callV C dX6_write_49 52 rfl ql_X6_66 qc_X6_finding 53 (by decide) rfl rfl (c_X6_finding l G _ _ 0 (by decide) (by decide)) rfl rfl (Nat.le_of_ble_eq_true rfl) ⟨(Nat.le_of_ble_eq_true rfl), (Nat.le_of_ble_eq_true rfl)⟩ (qx_Ki ?_)
        exact hret _ _ _ _ dX6_write_52 (qPt_of (by unfold M_write; rw [zn_nI (show js < 2 ^ 31 by omega)]; exact (zw_t hin).trans ((zw_f c_20).trans (zw_f c_43)))) rfl
    · refine qk_aloadn C dX6_write_23 24 rfl rfl 0 rfl ?_
      refine qk_ldc C dX6_write_24 26 rfl qw_1209 ?_
      refine qk_callV C dX6_write_26 29 rfl ql_X6_66 qc_X6_finding 53 (by decide) rfl rfl (c_X6_finding l G _ _ 5 (by decide) (by decide)) rfl rfl (Nat.le_of_ble_eq_true rfl) ⟨(Nat.le_of_ble_eq_true rfl), (Nat.le_of_ble_eq_true rfl)⟩ (qx_Ki ?_)
      exact hret _ _ _ _ dX6_write_29 (qPt_of (by unfold M_write; rw [zn_nI (show js < 2 ^ 31 by omega)]; exact (zw_t hin).trans (zw_t c_20))) rfl
  · refine qk_aloadn C dX6_write_7 8 rfl rfl 0 rfl ?_
    refine qk_ldc C dX6_write_8 10 rfl qw_947 ?_
    refine qk_callV C dX6_write_10 13 rfl ql_X6_66 qc_X6_finding 53 (by decide) rfl rfl (c_X6_finding l G _ _ 0 (by decide) (by decide)) rfl rfl (Nat.le_of_ble_eq_true rfl) ⟨(Nat.le_of_ble_eq_true rfl), (Nat.le_of_ble_eq_true rfl)⟩ (qx_Ki ?_)
    exact hret _ _ _ _ dX6_write_13 (qPt_of (zw_f c_4)) rfl

theorem c_X6_isUnder (l : Launch) (G : qx_G) (σ : qx_Sg) (j0 : Nat) (hj0 : j0 < 7) (w : Int32) : qx_Ct l G yX6_isUnder cX6_isUnder 3 (some .boolean) 1 20 [.int (nI j0), .int w] (σ) (qx_pi (qb (z_is j0 w)) (σ)) := by
  refine qx_of .boolean (lo := [(0, .int (nI j0)), (1, .int w)]) (by decide +kernel) (Nat.le_of_ble_eq_true rfl) rfl (fun Δ (C : qx_C G Δ cX6_isUnder RX6 3 1 20) hret => ?_)
  refine qk_iloadn C dX6_isUnder_0 1 rfl rfl 0 rfl ?_
  refine qk_istoren C dX6_isUnder_1 2 rfl rfl (by decide) rfl ?_
  have lp_2 : ∀ (n_2 : Nat) (f : Nat) (a : Int32), m_iu w j0 f a → f < n_2 → qx_K l G Δ (σ) 2 [(2, .int a), (0, .int (nI j0)), (1, .int w)] [] := by
    intro n_2
    induction n_2 with
    | zero => intro _ _ _ h9; exact absurd h9 (Nat.not_lt_zero _)
    | succ n_2 ih_2 =>
      intro f a hi hm_2
      rcases hi with ⟨j, h1, rfl, h3, h4⟩ | ⟨rfl, h3⟩
      · refine qk_iloadn C dX6_isUnder_2 3 rfl rfl 0 rfl ?_
        refine qk_if_lt C dX6_isUnder_3 19 rfl 6 rfl (fun c_3 => absurd c_3 (nI_pos (by omega))) (fun c_3 => ?_)
        refine qk_iloadn C dX6_isUnder_6 7 rfl rfl 0 rfl ?_
        refine qk_iloadn C dX6_isUnder_7 8 rfl rfl 2 rfl ?_
        refine qk_icmp_eq C dX6_isUnder_8 19 rfl 11 rfl (fun c_8 => ?_) (fun c_8 => ?_)
        · refine qk_iloadn C dX6_isUnder_19 20 rfl rfl 0 rfl ?_
          refine qk_if_lt C dX6_isUnder_20 27 rfl 23 rfl (fun c_20 => absurd c_20 (nI_pos (by omega))) (fun c_20 => ?_)
          refine qk_iconst C (1) dX6_isUnder_23 24 rfl rfl ?_
          refine qk_goto C dX6_isUnder_24 28 rfl ?_
          exact hret _ _ _ _ dX6_isUnder_28 ⟨congrArg (fun x => some (Value.int x)) ((qb_t (h3.mpr (by obtain ⟨g, rfl⟩ : ∃ g, f = g + 1 := ⟨f - 1, by omega⟩; exact Or.inl c_8))).symm), rfl⟩ rfl
        · refine qk_iloadn C dX6_isUnder_11 12 rfl rfl 0 rfl ?_
          refine qk_callS C dX6_isUnder_12 15 rfl ql_X6_329 qc_X6_above (c_X6_above l G _ j h1) rfl rfl (Nat.le_of_ble_eq_true rfl) ⟨(Nat.le_of_ble_eq_true rfl), (Nat.le_of_ble_eq_true rfl)⟩ (qx_Ki ?_)
          refine qk_istoren C dX6_isUnder_15 16 rfl rfl (by decide) rfl ?_
          refine qk_goto C dX6_isUnder_16 2 rfl ?_
          exact ih_2 (f - 1) _ (by
              obtain ⟨g, rfl⟩ : ∃ g, f = g + 1 := ⟨f - 1, by omega⟩
              by_cases h0 : j = 0
              · subst h0
                exact Or.inr ⟨rfl, fun q => (h3.mp q).elim c_8 (fun q => c_8 (m_isF_0 q))⟩
              · refine Or.inl ⟨z_ab j, (m_rk_s h1 h0).2, if_neg h0, h3.trans ⟨fun q => q.resolve_left c_8, Or.inr⟩, ?_⟩
                have := (m_rk_s h1 h0).1
                omega) (by omega)
      · refine qk_iloadn C dX6_isUnder_2 3 rfl rfl 0 rfl ?_
        refine qk_if_lt C dX6_isUnder_3 19 rfl 6 rfl (fun _ => ?_) (fun c => absurd (by decide) c)
        refine qk_iloadn C dX6_isUnder_19 20 rfl rfl 0 rfl ?_
        refine qk_if_lt C dX6_isUnder_20 27 rfl 23 rfl (fun _ => ?_) (fun c => absurd (by decide) c)
        refine qk_iconst C (0) dX6_isUnder_27 28 rfl rfl ?_
        exact hret _ _ _ _ dX6_isUnder_28 ⟨congrArg (fun x => some (Value.int x)) ((qb_f (h3)).symm), rfl⟩ rfl
  exact lp_2 _ 7 _ (Or.inl ⟨j0, hj0, rfl, Iff.rfl, m_rk_7 hj0⟩) (Nat.lt_succ_self _)

