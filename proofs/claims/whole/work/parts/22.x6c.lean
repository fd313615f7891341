/-! the model: what is now; what days behind show -/
theorem m_or0 {a : Int32} : a ||| (0 : Int32) = a := by
  apply Int32.toBitVec_inj.mp
  show a.toBitVec ||| 0#32 = a.toBitVec
  exact BitVec.or_zero
theorem m_shl0 {i : Nat} (h : i < 8) : (0 : Int32) <<< (nI i &&& 31) = 0 := by
  have : i = 0 ∨ i = 1 ∨ i = 2 ∨ i = 3 ∨ i = 4 ∨ i = 5 ∨ i = 6 ∨ i = 7 := by omega
  rcases this with rfl | rfl | rfl | rfl | rfl | rfl | rfl | rfl <;> decide
theorem m_as {σ : qx_Sg} {v : Nat → Int32} : va_up (va_up σ 54 v) 56 (va_up σ 54 v 54) = va_up (va_up σ 56 v) 54 v := by
  rw [show va_up σ 54 v 54 = v from qx_up_eq]
  funext k
  unfold va_up
  by_cases e : k = 54
  · subst e; simp
  · by_cases e2 : k = 56
    · subst e2; simp
    · simp [e, e2]
theorem m_pb {σ : qx_Sg} {a v : Nat → Int32} : va_up (va_up (va_up σ 56 v) 54 a) 54 (va_up (va_up σ 56 v) 54 a 56) = va_up (va_up σ 56 v) 54 v := by
  rw [m_uu, qx_up_ne (by omega), qx_up_eq]
theorem m_five_iff {x : Int32} : z_five x ↔ ((¬ x < 2 ∧ ¬ 4 < x) ∨ x = 6 ∨ x = 10) := by
  constructor
  · rintro (rfl | rfl | rfl | rfl | rfl)
    · exact Or.inl (by decide)
    · exact Or.inl (by decide)
    · exact Or.inl (by decide)
    · exact Or.inr (Or.inl rfl)
    · exact Or.inr (Or.inr rfl)
  · rintro (⟨h1, h2⟩ | rfl | rfl)
    · obtain ⟨j, hj, rfl⟩ := z_in_ex 4 rfl (by omega) (show z_in x 4 from ⟨fun q => h1 (Int32.lt_trans q (by decide)), h2⟩)
      have : j = 0 ∨ j = 1 ∨ j = 2 ∨ j = 3 ∨ j = 4 := by omega
      rcases this with rfl | rfl | rfl | rfl | rfl
      · exact absurd (by decide) h1
      · exact absurd (by decide) h1
      · exact Or.inl rfl
      · exact Or.inr (Or.inl rfl)
      · exact Or.inr (Or.inr (Or.inl rfl))
    · exact Or.inr (Or.inr (Or.inr (Or.inl rfl)))
    · exact Or.inr (Or.inr (Or.inr (Or.inr rfl)))
theorem m_five_ex {x : Int32} (h : z_five x) : ∃ j, j ≤ 10 ∧ x = nI j := by
  rcases h with rfl | rfl | rfl | rfl | rfl
  · exact ⟨2, by omega, rfl⟩
  · exact ⟨3, by omega, rfl⟩
  · exact ⟨4, by omega, rfl⟩
  · exact ⟨6, by omega, rfl⟩
  · exact ⟨10, by omega, rfl⟩
theorem m_gn {x : Int32} (h : x = 0 ∨ x = 1) : x = 1 ↔ ¬ x < 1 := by
  rcases h with rfl | rfl
  · exact ⟨fun e => absurd e (by decide), fun e => absurd (by decide) e⟩
  · exact ⟨fun _ => by decide, fun _ => rfl⟩
theorem m_t6 {r : Nat → Int32} : z_tell r 6 = r 6 := z_tell_w (j := 6) (by omega)
theorem m_t10 {r : Nat → Int32} : z_tell r 10 = z_say r := z_tell0 (by decide) (by decide) (by decide) (by decide) (by decide) (by decide) (by decide) (by decide) (by decide) (by decide)
theorem c_X6_inStore (l : Launch) (G : qx_G) (σ : qx_Sg) (N : Nat) (v : Nat → Int32) (hI : qv_ok v N) : qx_Ct l G yX6_inStore cX6_inStore 3 (some .int) 0 0 [.ref (qx_ad G 53)] (va_up σ 54 v) (qx_pi (z_fo (z_Fst v) 12) (va_up σ 54 v)) := by
  refine qx_of .int (lo := [(0, .ref (qx_ad G 53))]) (by decide +kernel) (Nat.le_of_ble_eq_true rfl) rfl (fun Δ (C : qx_C G Δ cX6_inStore RX6 3 0 0) hret => ?_)
  have hN8 := hI.1
  have hN1 := hI.2.1
  refine qk_iconst C (0) dX6_inStore_0 1 rfl rfl ?_
  refine qk_istoren C dX6_inStore_1 2 rfl rfl (by decide) rfl ?_
  refine qk_iconst C (nI 0) dX6_inStore_2 3 rfl rfl ?_
  refine qk_istoren C dX6_inStore_3 4 rfl rfl (by decide) rfl ?_
  have lp_4 : ∀ (n_4 : Nat) (i : Nat) (a : Int32), (i ≤ 12 ∧ a = z_fo (z_Fst v) i) → 12 - i < n_4 → qx_K l G Δ (va_up σ 54 v) 4 [(2, .int (nI i)), (1, .int a), (0, .ref (qx_ad G 53))] [] := by
    intro n_4
    induction n_4 with
    | zero => intro _ _ _ h9; exact absurd h9 (Nat.not_lt_zero _)
    | succ n_4 ih_4 =>
      intro i a hi hm_4
      refine qk_iloadn C dX6_inStore_4 5 rfl rfl 0 rfl ?_
      refine qk_bipush C (nI 12) dX6_inStore_5 7 rfl rfl ?_
      refine qk_icmp_ge C dX6_inStore_7 28 rfl 10 rfl (fun c_7 => ?_) (fun c_7 => ?_)
      · have hiN : 12 ≤ i := (nI_leI (by omega) (by omega)).mp c_7
        refine qk_iloadn C dX6_inStore_28 29 rfl rfl 1 rfl ?_
        exact hret _ _ _ _ dX6_inStore_29 ⟨congrArg (fun x => some (Value.int x)) (by rw [hi.2, show i = 12 by omega]), rfl⟩ rfl
      · have hiN : i < 12 := Nat.not_le.mp (fun q => c_7 (nI_le q (by omega)))
        refine qk_iloadn C dX6_inStore_10 11 rfl rfl 1 rfl ?_
        refine qk_aloadn C dX6_inStore_11 12 rfl rfl 2 rfl ?_
        refine qk_get C dX6_inStore_12 15 rfl qf_X6_9 53 (by decide) rfl rfl ?_
        refine qk_bipush C (10) dX6_inStore_15 17 rfl rfl ?_
        refine qk_iloadn C dX6_inStore_17 18 rfl rfl 0 rfl ?_
        refine qk_iadd C dX6_inStore_18 19 rfl ?_
        refine qk_cast (show _ = nI (10 + i) from by rw [show (10 : Int32) = nI 10 from rfl, nI_add]) ?_
        refine qk_iald C dX6_inStore_19 20 rfl 54 (by decide) (fun _ => rfl) (10 + i) rfl (by omega) (by decide) ?_
        refine qk_cast (show _ = v (10 + i) from rfl) ?_
        refine qk_iadd C dX6_inStore_20 21 rfl ?_
        refine qk_istoren C dX6_inStore_21 22 rfl rfl (by decide) rfl ?_
        refine qk_iinc C (nI (i + 1)) dX6_inStore_22 25 rfl 1 rfl (nI_1 i) (by decide) rfl ?_
        refine qk_goto C dX6_inStore_25 4 rfl ?_
        exact ih_4 (i + 1) _ ⟨by omega, by rw [hi.2]; rfl⟩ (by omega)
  exact lp_4 _ 0 _ ⟨by omega, rfl⟩ (Nat.lt_succ_self _)

theorem c_X6_wholeOnes (l : Launch) (G : qx_G) (σ : qx_Sg) (N : Nat) (v : Nat → Int32) (hI : qv_ok v N) : qx_Ct l G yX6_wholeOnes cX6_wholeOnes 3 (some .int) 3 64 [.ref (qx_ad G 53)] (va_up σ 54 v) (qx_pi (z_fo (z_Fco v) N) (va_up σ 54 v)) := by
  refine qx_of .int (lo := [(0, .ref (qx_ad G 53))]) (by decide +kernel) (Nat.le_of_ble_eq_true rfl) rfl (fun Δ (C : qx_C G Δ cX6_wholeOnes RX6 3 3 64) hret => ?_)
  have hN8 := hI.1
  have hN1 := hI.2.1
  refine qk_iconst C (0) dX6_wholeOnes_0 1 rfl rfl ?_
  refine qk_istoren C dX6_wholeOnes_1 2 rfl rfl (by decide) rfl ?_
  refine qk_iconst C (nI 0) dX6_wholeOnes_2 3 rfl rfl ?_
  refine qk_istoren C dX6_wholeOnes_3 4 rfl rfl (by decide) rfl ?_
  have lp_4 : ∀ (n_4 : Nat) (i : Nat) (a : Int32), (i ≤ N ∧ a = z_fo (z_Fco v) i) → N - i < n_4 → qx_K l G Δ (va_up σ 54 v) 4 [(2, .int (nI i)), (1, .int a), (0, .ref (qx_ad G 53))] [] := by
    intro n_4
    induction n_4 with
    | zero => intro _ _ _ h9; exact absurd h9 (Nat.not_lt_zero _)
    | succ n_4 ih_4 =>
      intro i a hi hm_4
      refine qk_iloadn C dX6_wholeOnes_4 5 rfl rfl 0 rfl ?_
      refine qk_aloadn C dX6_wholeOnes_5 6 rfl rfl 2 rfl ?_
      refine qk_get C dX6_wholeOnes_6 9 rfl qf_X6_9 53 (by decide) rfl rfl ?_
      refine qk_iconst C (1) dX6_wholeOnes_9 10 rfl rfl ?_
      refine qk_iald C dX6_wholeOnes_10 11 rfl 54 (by decide) (fun _ => rfl) 1 rfl (by omega) (by decide) ?_
      refine qk_cast (hN1) ?_
      refine qk_icmp_ge C dX6_wholeOnes_11 50 rfl 14 rfl (fun c_11 => ?_) (fun c_11 => ?_)
      · have hiN : N ≤ i := (nI_leI (by omega) (by omega)).mp c_11
        refine qk_iloadn C dX6_wholeOnes_50 51 rfl rfl 1 rfl ?_
        exact hret _ _ _ _ dX6_wholeOnes_51 ⟨congrArg (fun x => some (Value.int x)) (by rw [hi.2, show i = N by omega]), rfl⟩ rfl
      · have hiN : i < N := Nat.not_le.mp (fun q => c_11 (nI_le q (by omega)))
        refine qk_iloadn C dX6_wholeOnes_14 15 rfl rfl 1 rfl ?_
        refine qk_aloadn C dX6_wholeOnes_15 16 rfl rfl 2 rfl ?_
        refine qk_iloadn C dX6_wholeOnes_16 17 rfl rfl 0 rfl ?_
        refine qk_callV C dX6_wholeOnes_17 20 rfl ql_X6_149 qc_X6_isGone 53 (by decide) rfl rfl (c_X6_isGone l G σ v i (by omega)) rfl rfl (Nat.le_of_ble_eq_true rfl) ⟨(Nat.le_of_ble_eq_true rfl), (Nat.le_of_ble_eq_true rfl)⟩ (qx_Ki ?_)
        refine qk_if_neB C dX6_wholeOnes_20 41 rfl 23 rfl (fun c_20 => ?_) (fun c_20 => ?_)
        · refine qk_iconst C (0) dX6_wholeOnes_41 42 rfl rfl ?_
          refine qk_ior C dX6_wholeOnes_42 43 rfl ?_
          refine qk_istoren C dX6_wholeOnes_43 44 rfl rfl (by decide) rfl ?_
          refine qk_iinc C (nI (i + 1)) dX6_wholeOnes_44 47 rfl 1 rfl (nI_1 i) (by decide) rfl ?_
          refine qk_goto C dX6_wholeOnes_47 4 rfl ?_
          exact ih_4 (i + 1) _ ⟨by omega, by rw [hi.2]; exact m_or0.trans (z_sel_f (by first | exact fun q => absurd (q.1.symm.trans c_20) (by decide) | exact fun q => c_32 q.2)).symm⟩ (by omega)
        · refine qk_aloadn C dX6_wholeOnes_23 24 rfl rfl 2 rfl ?_
          refine qk_iloadn C dX6_wholeOnes_24 25 rfl rfl 0 rfl ?_
          refine qk_iconst C (2) dX6_wholeOnes_25 26 rfl rfl ?_
          refine qk_callV C dX6_wholeOnes_26 29 rfl ql_X6_101 qc_X6_bustIs 53 (by decide) rfl rfl (c_X6_bustIs l G σ v i 2 (by omega) (by omega)) rfl rfl (Nat.le_of_ble_eq_true rfl) ⟨(Nat.le_of_ble_eq_true rfl), (Nat.le_of_ble_eq_true rfl)⟩ (qx_Ki ?_)
          refine qk_sipush C (4095) dX6_wholeOnes_29 32 rfl rfl ?_
          refine qk_icmp_ne C dX6_wholeOnes_32 41 rfl 35 rfl (fun c_32 => ?_) (fun c_32 => ?_)
          · refine qk_iconst C (0) dX6_wholeOnes_41 42 rfl rfl ?_
            refine qk_ior C dX6_wholeOnes_42 43 rfl ?_
            refine qk_istoren C dX6_wholeOnes_43 44 rfl rfl (by decide) rfl ?_
            refine qk_iinc C (nI (i + 1)) dX6_wholeOnes_44 47 rfl 1 rfl (nI_1 i) (by decide) rfl ?_
            refine qk_goto C dX6_wholeOnes_47 4 rfl ?_
            exact ih_4 (i + 1) _ ⟨by omega, by rw [hi.2]; exact m_or0.trans (z_sel_f (by first | exact fun q => absurd (q.1.symm.trans c_20) (by decide) | exact fun q => c_32 q.2)).symm⟩ (by omega)
          · refine qk_iconst C (1) dX6_wholeOnes_35 36 rfl rfl ?_
            refine qk_iloadn C dX6_wholeOnes_36 37 rfl rfl 0 rfl ?_
            refine qk_ishl C dX6_wholeOnes_37 38 rfl ?_
            refine qk_goto C dX6_wholeOnes_38 42 rfl ?_
            refine qk_ior C dX6_wholeOnes_42 43 rfl ?_
            refine qk_istoren C dX6_wholeOnes_43 44 rfl rfl (by decide) rfl ?_
            refine qk_iinc C (nI (i + 1)) dX6_wholeOnes_44 47 rfl 1 rfl (nI_1 i) (by decide) rfl ?_
            refine qk_goto C dX6_wholeOnes_47 4 rfl ?_
            exact ih_4 (i + 1) _ ⟨by omega, by rw [hi.2]; exact (z_sel_t ⟨((hI.2.2.2.2.1 i (by omega)).2.2.resolve_right c_20), c_32⟩).symm⟩ (by omega)
  exact lp_4 _ 0 _ ⟨by omega, rfl⟩ (Nat.lt_succ_self _)

theorem c_X6_walkers (l : Launch) (G : qx_G) (σ : qx_Sg) (N : Nat) (v : Nat → Int32) (hI : qv_ok v N) : qx_Ct l G yX6_walkers cX6_walkers 3 (some .int) 4 86 [.ref (qx_ad G 53)] (va_up σ 54 v) (qx_pi (z_fo (z_Fwa v) N) (va_up σ 54 v)) := by
  refine qx_of .int (lo := [(0, .ref (qx_ad G 53))]) (by decide +kernel) (Nat.le_of_ble_eq_true rfl) rfl (fun Δ (C : qx_C G Δ cX6_walkers RX6 3 4 86) hret => ?_)
  have hN8 := hI.1
  have hN1 := hI.2.1
  refine qk_iconst C (0) dX6_walkers_0 1 rfl rfl ?_
  refine qk_istoren C dX6_walkers_1 2 rfl rfl (by decide) rfl ?_
  refine qk_iconst C (nI 0) dX6_walkers_2 3 rfl rfl ?_
  refine qk_istoren C dX6_walkers_3 4 rfl rfl (by decide) rfl ?_
  have lp_4 : ∀ (n_4 : Nat) (i : Nat) (a : Int32), (i ≤ N ∧ a = z_fo (z_Fwa v) i) → N - i < n_4 → qx_K l G Δ (va_up σ 54 v) 4 [(2, .int (nI i)), (1, .int a), (0, .ref (qx_ad G 53))] [] := by
    intro n_4
    induction n_4 with
    | zero => intro _ _ _ h9; exact absurd h9 (Nat.not_lt_zero _)
    | succ n_4 ih_4 =>
      intro i a hi hm_4
      refine qk_iloadn C dX6_walkers_4 5 rfl rfl 0 rfl ?_
      refine qk_aloadn C dX6_walkers_5 6 rfl rfl 2 rfl ?_
      refine qk_get C dX6_walkers_6 9 rfl qf_X6_9 53 (by decide) rfl rfl ?_
      refine qk_iconst C (1) dX6_walkers_9 10 rfl rfl ?_
      refine qk_iald C dX6_walkers_10 11 rfl 54 (by decide) (fun _ => rfl) 1 rfl (by omega) (by decide) ?_
      refine qk_cast (hN1) ?_
      refine qk_icmp_ge C dX6_walkers_11 38 rfl 14 rfl (fun c_11 => ?_) (fun c_11 => ?_)
      · have hiN : N ≤ i := (nI_leI (by omega) (by omega)).mp c_11
        refine qk_iloadn C dX6_walkers_38 39 rfl rfl 1 rfl ?_
        exact hret _ _ _ _ dX6_walkers_39 ⟨congrArg (fun x => some (Value.int x)) (by rw [hi.2, show i = N by omega]), rfl⟩ rfl
      · have hiN : i < N := Nat.not_le.mp (fun q => c_11 (nI_le q (by omega)))
        refine qk_iloadn C dX6_walkers_14 15 rfl rfl 1 rfl ?_
        refine qk_aloadn C dX6_walkers_15 16 rfl rfl 2 rfl ?_
        refine qk_iloadn C dX6_walkers_16 17 rfl rfl 0 rfl ?_
        refine qk_callV C dX6_walkers_17 20 rfl ql_X6_169 qc_X6_wouldWalk 53 (by decide) rfl rfl (c_X6_wouldWalk l G σ N v hI i hiN) rfl rfl (Nat.le_of_ble_eq_true rfl) ⟨(Nat.le_of_ble_eq_true rfl), (Nat.le_of_ble_eq_true rfl)⟩ (qx_Ki ?_)
        refine qk_if_eqB C dX6_walkers_20 29 rfl 23 rfl (fun c_20 => ?_) (fun c_20 => ?_)
        · refine qk_iconst C (0) dX6_walkers_29 30 rfl rfl ?_
          refine qk_ior C dX6_walkers_30 31 rfl ?_
          refine qk_istoren C dX6_walkers_31 32 rfl rfl (by decide) rfl ?_
          refine qk_iinc C (nI (i + 1)) dX6_walkers_32 35 rfl 1 rfl (nI_1 i) (by decide) rfl ?_
          refine qk_goto C dX6_walkers_35 4 rfl ?_
          exact ih_4 (i + 1) _ ⟨by omega, by rw [hi.2]; exact m_or0.trans (z_sel_f (c_20)).symm⟩ (by omega)
        · refine qk_iconst C (1) dX6_walkers_23 24 rfl rfl ?_
          refine qk_iloadn C dX6_walkers_24 25 rfl rfl 0 rfl ?_
          refine qk_ishl C dX6_walkers_25 26 rfl ?_
          refine qk_goto C dX6_walkers_26 30 rfl ?_
          refine qk_ior C dX6_walkers_30 31 rfl ?_
          refine qk_istoren C dX6_walkers_31 32 rfl rfl (by decide) rfl ?_
          refine qk_iinc C (nI (i + 1)) dX6_walkers_32 35 rfl 1 rfl (nI_1 i) (by decide) rfl ?_
          refine qk_goto C dX6_walkers_35 4 rfl ?_
          exact ih_4 (i + 1) _ ⟨by omega, by rw [hi.2]; exact (z_sel_t c_20).symm⟩ (by omega)
  exact lp_4 _ 0 _ ⟨by omega, rfl⟩ (Nat.lt_succ_self _)

theorem c_X6_yearnings (l : Launch) (G : qx_G) (σ : qx_Sg) (N : Nat) (v : Nat → Int32) (hI : qv_ok v N) : qx_Ct l G yX6_yearnings cX6_yearnings 3 (some .int) 3 64 [.ref (qx_ad G 53)] (va_up σ 54 v) (qx_pi (z_fo (z_Fye v) N) (va_up σ 54 v)) := by
  refine qx_of .int (lo := [(0, .ref (qx_ad G 53))]) (by decide +kernel) (Nat.le_of_ble_eq_true rfl) rfl (fun Δ (C : qx_C G Δ cX6_yearnings RX6 3 3 64) hret => ?_)
  have hN8 := hI.1
  have hN1 := hI.2.1
  refine qk_iconst C (0) dX6_yearnings_0 1 rfl rfl ?_
  refine qk_istoren C dX6_yearnings_1 2 rfl rfl (by decide) rfl ?_
  refine qk_iconst C (nI 0) dX6_yearnings_2 3 rfl rfl ?_
  refine qk_istoren C dX6_yearnings_3 4 rfl rfl (by decide) rfl ?_
  have lp_4 : ∀ (n_4 : Nat) (i : Nat) (a : Int32), (i ≤ N ∧ a = z_fo (z_Fye v) i) → N - i < n_4 → qx_K l G Δ (va_up σ 54 v) 4 [(2, .int (nI i)), (1, .int a), (0, .ref (qx_ad G 53))] [] := by
    intro n_4
    induction n_4 with
    | zero => intro _ _ _ h9; exact absurd h9 (Nat.not_lt_zero _)
    | succ n_4 ih_4 =>
      intro i a hi hm_4
      refine qk_iloadn C dX6_yearnings_4 5 rfl rfl 0 rfl ?_
      refine qk_aloadn C dX6_yearnings_5 6 rfl rfl 2 rfl ?_
      refine qk_get C dX6_yearnings_6 9 rfl qf_X6_9 53 (by decide) rfl rfl ?_
      refine qk_iconst C (1) dX6_yearnings_9 10 rfl rfl ?_
      refine qk_iald C dX6_yearnings_10 11 rfl 54 (by decide) (fun _ => rfl) 1 rfl (by omega) (by decide) ?_
      refine qk_cast (hN1) ?_
      refine qk_icmp_ge C dX6_yearnings_11 41 rfl 14 rfl (fun c_11 => ?_) (fun c_11 => ?_)
      · have hiN : N ≤ i := (nI_leI (by omega) (by omega)).mp c_11
        refine qk_iloadn C dX6_yearnings_41 42 rfl rfl 1 rfl ?_
        exact hret _ _ _ _ dX6_yearnings_42 ⟨congrArg (fun x => some (Value.int x)) (by rw [hi.2, show i = N by omega]), rfl⟩ rfl
      · have hiN : i < N := Nat.not_le.mp (fun q => c_11 (nI_le q (by omega)))
        refine qk_iloadn C dX6_yearnings_14 15 rfl rfl 1 rfl ?_
        refine qk_aloadn C dX6_yearnings_15 16 rfl rfl 2 rfl ?_
        refine qk_iloadn C dX6_yearnings_16 17 rfl rfl 0 rfl ?_
        refine qk_callV C dX6_yearnings_17 20 rfl ql_X6_149 qc_X6_isGone 53 (by decide) rfl rfl (c_X6_isGone l G σ v i (by omega)) rfl rfl (Nat.le_of_ble_eq_true rfl) ⟨(Nat.le_of_ble_eq_true rfl), (Nat.le_of_ble_eq_true rfl)⟩ (qx_Ki ?_)
        refine qk_if_eqB C dX6_yearnings_20 27 rfl 23 rfl (fun c_20 => ?_) (fun c_20 => ?_)
        · refine qk_aloadn C dX6_yearnings_27 28 rfl rfl 2 rfl ?_
          refine qk_iloadn C dX6_yearnings_28 29 rfl rfl 0 rfl ?_
          refine qk_iconst C (4) dX6_yearnings_29 30 rfl rfl ?_
          refine qk_callV C dX6_yearnings_30 33 rfl ql_X6_101 qc_X6_bustIs 53 (by decide) rfl rfl (c_X6_bustIs l G σ v i 4 (by omega) (by omega)) rfl rfl (Nat.le_of_ble_eq_true rfl) ⟨(Nat.le_of_ble_eq_true rfl), (Nat.le_of_ble_eq_true rfl)⟩ (qx_Ki ?_)
          refine qk_iadd C dX6_yearnings_33 34 rfl ?_
          refine qk_istoren C dX6_yearnings_34 35 rfl rfl (by decide) rfl ?_
          refine qk_iinc C (nI (i + 1)) dX6_yearnings_35 38 rfl 1 rfl (nI_1 i) (by decide) rfl ?_
          refine qk_goto C dX6_yearnings_38 4 rfl ?_
          exact ih_4 (i + 1) _ ⟨by omega, by rw [hi.2]; exact (z_sel_t ((hI.2.2.2.2.1 i (by omega)).2.2.resolve_right c_20)).symm⟩ (by omega)
        · refine qk_iconst C (0) dX6_yearnings_23 24 rfl rfl ?_
          refine qk_goto C dX6_yearnings_24 33 rfl ?_
          refine qk_iadd C dX6_yearnings_33 34 rfl ?_
          refine qk_istoren C dX6_yearnings_34 35 rfl rfl (by decide) rfl ?_
          refine qk_iinc C (nI (i + 1)) dX6_yearnings_35 38 rfl 1 rfl (nI_1 i) (by decide) rfl ?_
          refine qk_goto C dX6_yearnings_38 4 rfl ?_
          exact ih_4 (i + 1) _ ⟨by omega, by rw [hi.2]; exact (Int32.add_zero _).trans (z_sel_f (fun q => absurd (q.symm.trans c_20) (by decide))).symm⟩ (by omega)
  exact lp_4 _ 0 _ ⟨by omega, rfl⟩ (Nat.lt_succ_self _)

theorem c_X6_goneOnes (l : Launch) (G : qx_G) (σ : qx_Sg) (N : Nat) (v : Nat → Int32) (hI : qv_ok v N) : qx_Ct l G yX6_goneOnes cX6_goneOnes 3 (some .int) 2 43 [.ref (qx_ad G 53)] (va_up σ 54 v) (qx_pi (z_fo (z_Fgo v) N) (va_up σ 54 v)) := by
  refine qx_of .int (lo := [(0, .ref (qx_ad G 53))]) (by decide +kernel) (Nat.le_of_ble_eq_true rfl) rfl (fun Δ (C : qx_C G Δ cX6_goneOnes RX6 3 2 43) hret => ?_)
  have hN8 := hI.1
  have hN1 := hI.2.1
  refine qk_iconst C (0) dX6_goneOnes_0 1 rfl rfl ?_
  refine qk_istoren C dX6_goneOnes_1 2 rfl rfl (by decide) rfl ?_
  refine qk_iconst C (nI 0) dX6_goneOnes_2 3 rfl rfl ?_
  refine qk_istoren C dX6_goneOnes_3 4 rfl rfl (by decide) rfl ?_
  have lp_4 : ∀ (n_4 : Nat) (i : Nat) (a : Int32), (i ≤ N ∧ a = z_fo (z_Fgo v) i) → N - i < n_4 → qx_K l G Δ (va_up σ 54 v) 4 [(2, .int (nI i)), (1, .int a), (0, .ref (qx_ad G 53))] [] := by
    intro n_4
    induction n_4 with
    | zero => intro _ _ _ h9; exact absurd h9 (Nat.not_lt_zero _)
    | succ n_4 ih_4 =>
      intro i a hi hm_4
      refine qk_iloadn C dX6_goneOnes_4 5 rfl rfl 0 rfl ?_
      refine qk_aloadn C dX6_goneOnes_5 6 rfl rfl 2 rfl ?_
      refine qk_get C dX6_goneOnes_6 9 rfl qf_X6_9 53 (by decide) rfl rfl ?_
      refine qk_iconst C (1) dX6_goneOnes_9 10 rfl rfl ?_
      refine qk_iald C dX6_goneOnes_10 11 rfl 54 (by decide) (fun _ => rfl) 1 rfl (by omega) (by decide) ?_
      refine qk_cast (hN1) ?_
      refine qk_icmp_ge C dX6_goneOnes_11 32 rfl 14 rfl (fun c_11 => ?_) (fun c_11 => ?_)
      · have hiN : N ≤ i := (nI_leI (by omega) (by omega)).mp c_11
        refine qk_iloadn C dX6_goneOnes_32 33 rfl rfl 1 rfl ?_
        exact hret _ _ _ _ dX6_goneOnes_33 ⟨congrArg (fun x => some (Value.int x)) (by rw [hi.2, show i = N by omega]), rfl⟩ rfl
      · have hiN : i < N := Nat.not_le.mp (fun q => c_11 (nI_le q (by omega)))
        refine qk_iloadn C dX6_goneOnes_14 15 rfl rfl 1 rfl ?_
        refine qk_aloadn C dX6_goneOnes_15 16 rfl rfl 2 rfl ?_
        refine qk_iloadn C dX6_goneOnes_16 17 rfl rfl 0 rfl ?_
        refine qk_bipush C (6) dX6_goneOnes_17 19 rfl rfl ?_
        refine qk_callV C dX6_goneOnes_19 22 rfl ql_X6_101 qc_X6_bustIs 53 (by decide) rfl rfl (c_X6_bustIs l G σ v i 6 (by omega) (by omega)) rfl rfl (Nat.le_of_ble_eq_true rfl) ⟨(Nat.le_of_ble_eq_true rfl), (Nat.le_of_ble_eq_true rfl)⟩ (qx_Ki ?_)
        refine qk_iloadn C dX6_goneOnes_22 23 rfl rfl 0 rfl ?_
        refine qk_ishl C dX6_goneOnes_23 24 rfl ?_
        refine qk_ior C dX6_goneOnes_24 25 rfl ?_
        refine qk_istoren C dX6_goneOnes_25 26 rfl rfl (by decide) rfl ?_
        refine qk_iinc C (nI (i + 1)) dX6_goneOnes_26 29 rfl 1 rfl (nI_1 i) (by decide) rfl ?_
        refine qk_goto C dX6_goneOnes_29 4 rfl ?_
        exact ih_4 (i + 1) _ ⟨by omega, by rw [hi.2]; rcases (hI.2.2.2.2.1 i hiN).2.2 with e | e <;> rw [e]; (· rw [m_shl0 (by omega), m_or0]; exact (z_sel_f (fun q => absurd (e.symm.trans q) (by decide))).symm); (· exact (z_sel_t e).symm)⟩ (by omega)
  exact lp_4 _ 0 _ ⟨by omega, rfl⟩ (Nat.lt_succ_self _)

theorem c_X6_loudest (l : Launch) (G : qx_G) (σ : qx_Sg) (N : Nat) (v : Nat → Int32) (hI : qv_ok v N) : qx_Ct l G yX6_loudest cX6_loudest 3 (some .int) 5 110 [.ref (qx_ad G 53)] (va_up σ 54 v) (qx_pi (z_oi (z_lo v N)) (va_up σ 54 v)) := by
  refine qx_of .int (lo := [(0, .ref (qx_ad G 53))]) (by decide +kernel) (Nat.le_of_ble_eq_true rfl) rfl (fun Δ (C : qx_C G Δ cX6_loudest RX6 3 5 110) hret => ?_)
  have hN8 := hI.1
  have hN1 := hI.2.1
  refine qk_iconst C ((-1)) dX6_loudest_0 1 rfl rfl ?_
  refine qk_istoren C dX6_loudest_1 2 rfl rfl (by decide) rfl ?_
  refine qk_iconst C (nI 0) dX6_loudest_2 3 rfl rfl ?_
  refine qk_istoren C dX6_loudest_3 4 rfl rfl (by decide) rfl ?_
  have lp_4 : ∀ (n_4 : Nat) (i : Nat) (a : Int32), (i ≤ N ∧ a = z_oi (z_lo v i)) → N - i < n_4 → qx_K l G Δ (va_up σ 54 v) 4 [(2, .int (nI i)), (1, .int a), (0, .ref (qx_ad G 53))] [] := by
    intro n_4
    induction n_4 with
    | zero => intro _ _ _ h9; exact absurd h9 (Nat.not_lt_zero _)
    | succ n_4 ih_4 =>
      intro i a hi hm_4
      refine qk_iloadn C dX6_loudest_4 5 rfl rfl 0 rfl ?_
      refine qk_aloadn C dX6_loudest_5 6 rfl rfl 2 rfl ?_
      refine qk_get C dX6_loudest_6 9 rfl qf_X6_9 53 (by decide) rfl rfl ?_
      refine qk_iconst C (1) dX6_loudest_9 10 rfl rfl ?_
      refine qk_iald C dX6_loudest_10 11 rfl 54 (by decide) (fun _ => rfl) 1 rfl (by omega) (by decide) ?_
      refine qk_cast (hN1) ?_
      refine qk_icmp_ge C dX6_loudest_11 47 rfl 14 rfl (fun c_11 => ?_) (fun c_11 => ?_)
      · have hiN : N ≤ i := (nI_leI (by omega) (by omega)).mp c_11
        refine qk_iloadn C dX6_loudest_47 48 rfl rfl 1 rfl ?_
        exact hret _ _ _ _ dX6_loudest_48 ⟨congrArg (fun x => some (Value.int x)) (by rw [hi.2, show i = N by omega]), rfl⟩ rfl
      · have hiN : i < N := Nat.not_le.mp (fun q => c_11 (nI_le q (by omega)))
        refine qk_aloadn C dX6_loudest_14 15 rfl rfl 2 rfl ?_
        refine qk_iloadn C dX6_loudest_15 16 rfl rfl 0 rfl ?_
        refine qk_callV C dX6_loudest_16 19 rfl ql_X6_149 qc_X6_isGone 53 (by decide) rfl rfl (c_X6_isGone l G σ v i (by omega)) rfl rfl (Nat.le_of_ble_eq_true rfl) ⟨(Nat.le_of_ble_eq_true rfl), (Nat.le_of_ble_eq_true rfl)⟩ (qx_Ki ?_)
        refine qk_if_neB C dX6_loudest_19 41 rfl 22 rfl (fun c_19 => ?_) (fun c_19 => ?_)
        · refine qk_iinc C (nI (i + 1)) dX6_loudest_41 44 rfl 0 rfl (nI_1 i) (by decide) rfl ?_
          refine qk_goto C dX6_loudest_44 4 rfl ?_
          exact ih_4 (i + 1) _ ⟨by omega, by first | exact (congrArg z_oi (z_l1_f (fun q => absurd (q.1.symm.trans c_19) (by decide)))).symm | (rw [hi.2]; exact (congrArg z_oi (z_l1_f (fun q => absurd (q.1.symm.trans c_19) (by decide)))).symm) | (rw [show z_lo v (i + 1) = z_l1 v i (z_lo v i) from rfl, z_l1_f (fun q => absurd (q.1.symm.trans c_19) (by decide)), hq]; rfl)⟩ (by omega)
        · rcases hq : z_lo v i with _ | h
          · have ha : a = -1 := by rw [hi.2, hq]; rfl
            subst ha
            refine qk_iloadn C dX6_loudest_22 23 rfl rfl 1 rfl ?_
            refine qk_if_lt C dX6_loudest_23 39 rfl 26 rfl (fun _ => ?_) (fun c => absurd (by decide) c)
            refine qk_iloadn C dX6_loudest_39 40 rfl rfl 0 rfl ?_
            refine qk_istoren C dX6_loudest_40 41 rfl rfl (by decide) rfl ?_
            refine qk_iinc C (nI (i + 1)) dX6_loudest_41 44 rfl 1 rfl (nI_1 i) (by decide) rfl ?_
            refine qk_goto C dX6_loudest_44 4 rfl ?_
            exact ih_4 (i + 1) _ ⟨by omega, by first | exact (congrArg z_oi (z_l1_t ⟨((hI.2.2.2.2.1 i (by omega)).2.2.resolve_right c_19), fun h2 e2 => by rw [hq] at e2; cases e2⟩)).symm | (rw [hi.2]; exact (congrArg z_oi (z_l1_t ⟨((hI.2.2.2.2.1 i (by omega)).2.2.resolve_right c_19), fun h2 e2 => by rw [hq] at e2; cases e2⟩)).symm) | (rw [show z_lo v (i + 1) = z_l1 v i (z_lo v i) from rfl, z_l1_t ⟨((hI.2.2.2.2.1 i (by omega)).2.2.resolve_right c_19), fun h2 e2 => by rw [hq] at e2; cases e2⟩, hq]; rfl)⟩ (by omega)
          · have ha : a = nI h := by rw [hi.2, hq]; rfl
            subst ha
            have hh : h < i := z_lo_lt hq
            refine qk_iloadn C dX6_loudest_22 23 rfl rfl 1 rfl ?_
            refine qk_if_lt C dX6_loudest_23 39 rfl 26 rfl (fun c_23 => absurd c_23 (nI_pos (by omega))) (fun c_23 => ?_)
            refine qk_aloadn C dX6_loudest_26 27 rfl rfl 2 rfl ?_
            refine qk_iloadn C dX6_loudest_27 28 rfl rfl 0 rfl ?_
            refine qk_callV C dX6_loudest_28 31 rfl ql_X6_134 qc_X6_says 53 (by decide) rfl rfl (c_X6_says l G σ N v hI i hiN) rfl rfl (Nat.le_of_ble_eq_true rfl) ⟨(Nat.le_of_ble_eq_true rfl), (Nat.le_of_ble_eq_true rfl)⟩ (qx_Ki ?_)
            refine qk_aloadn C dX6_loudest_31 32 rfl rfl 2 rfl ?_
            refine qk_iloadn C dX6_loudest_32 33 rfl rfl 1 rfl ?_
            refine qk_callV C dX6_loudest_33 36 rfl ql_X6_134 qc_X6_says 53 (by decide) rfl rfl (c_X6_says l G σ N v hI h (by omega)) rfl rfl (Nat.le_of_ble_eq_true rfl) ⟨(Nat.le_of_ble_eq_true rfl), (Nat.le_of_ble_eq_true rfl)⟩ (qx_Ki ?_)
            refine qk_icmp_le C dX6_loudest_36 41 rfl 39 rfl (fun c_36 => ?_) (fun c_36 => ?_)
            · refine qk_iinc C (nI (i + 1)) dX6_loudest_41 44 rfl 0 rfl (nI_1 i) (by decide) rfl ?_
              refine qk_goto C dX6_loudest_44 4 rfl ?_
              exact ih_4 (i + 1) _ ⟨by omega, by first | exact (congrArg z_oi (z_l1_f (fun q => q.2 h hq c_36))).symm | (rw [hi.2]; exact (congrArg z_oi (z_l1_f (fun q => q.2 h hq c_36))).symm) | (rw [show z_lo v (i + 1) = z_l1 v i (z_lo v i) from rfl, z_l1_f (fun q => q.2 h hq c_36), hq]; rfl)⟩ (by omega)
            · refine qk_iloadn C dX6_loudest_39 40 rfl rfl 0 rfl ?_
              refine qk_istoren C dX6_loudest_40 41 rfl rfl (by decide) rfl ?_
              refine qk_iinc C (nI (i + 1)) dX6_loudest_41 44 rfl 1 rfl (nI_1 i) (by decide) rfl ?_
              refine qk_goto C dX6_loudest_44 4 rfl ?_
              exact ih_4 (i + 1) _ ⟨by omega, by first | exact (congrArg z_oi (z_l1_t ⟨((hI.2.2.2.2.1 i (by omega)).2.2.resolve_right c_19), fun h2 e2 => by rw [hq] at e2; cases e2; exact c_36⟩)).symm | (rw [hi.2]; exact (congrArg z_oi (z_l1_t ⟨((hI.2.2.2.2.1 i (by omega)).2.2.resolve_right c_19), fun h2 e2 => by rw [hq] at e2; cases e2; exact c_36⟩)).symm) | (rw [show z_lo v (i + 1) = z_l1 v i (z_lo v i) from rfl, z_l1_t ⟨((hI.2.2.2.2.1 i (by omega)).2.2.resolve_right c_19), fun h2 e2 => by rw [hq] at e2; cases e2; exact c_36⟩, hq]; rfl)⟩ (by omega)
  exact lp_4 _ 0 _ ⟨by omega, rfl⟩ (Nat.lt_succ_self _)

theorem c_X6_behind (l : Launch) (G : qx_G) (σ : qx_Sg) (N : Nat) (v : Nat → Int32) (hI : qv_ok v N) (j : Nat) (hj : j < 88) (n : Nat) (hn : n < 2 ^ 31) : qx_Ct l G yX6_behind cX6_behind 3 (some .int) 8 177 [.ref (qx_ad G 53), .int (nI j), .int (nI n)] (va_up σ 54 v) (qx_pi (z_dn v N n j) (va_up (va_up σ 56 v) 54 v)) := by
  refine qx_of .int (lo := [(0, .ref (qx_ad G 53)), (1, .int (nI j)), (2, .int (nI n))]) (by decide +kernel) (Nat.le_of_ble_eq_true rfl) rfl (fun Δ (C : qx_C G Δ cX6_behind RX6 3 8 177) hret => ?_)
  have hN8 := hI.1
  have hN1 := hI.2.1
  refine qk_aloadn C dX6_behind_0 1 rfl rfl 0 rfl ?_
  refine qk_get C dX6_behind_1 4 rfl qf_X6_9 53 (by decide) rfl rfl ?_
  refine qk_aloadn C dX6_behind_4 5 rfl rfl 0 rfl ?_
  refine qk_get C dX6_behind_5 8 rfl qf_X6_16 53 (by decide) rfl rfl ?_
  refine qk_callS C dX6_behind_8 11 rfl ql_X6_61 qc_X6_copyRow (c_X6_copyRow l G _ 54 56 (Or.inl rfl) (Or.inr (Or.inr rfl)) (by decide)) rfl rfl (Nat.le_of_ble_eq_true rfl) ⟨(Nat.le_of_ble_eq_true rfl), (Nat.le_of_ble_eq_true rfl)⟩ (qx_Kv ?_)
  refine qk_sg _ m_as ?_
  refine qk_aloadn C dX6_behind_11 12 rfl rfl 0 rfl ?_
  refine qk_iloadn C dX6_behind_12 13 rfl rfl 2 rfl ?_
  refine qk_callV C dX6_behind_13 16 rfl ql_X6_184 qc_X6_daysGo 53 (by decide) rfl rfl (c_X6_daysGo l G (va_up σ 56 v) N v hI n hn) rfl rfl (Nat.le_of_ble_eq_true rfl) ⟨(Nat.le_of_ble_eq_true rfl), (Nat.le_of_ble_eq_true rfl)⟩ (qx_Kv ?_)
  refine qk_aloadn C dX6_behind_16 17 rfl rfl 0 rfl ?_
  refine qk_aloadn C dX6_behind_17 18 rfl rfl 0 rfl ?_
  refine qk_get C dX6_behind_18 21 rfl qf_X6_9 53 (by decide) rfl rfl ?_
  refine qk_iloadn C dX6_behind_21 22 rfl rfl 1 rfl ?_
  refine qk_iald C dX6_behind_22 23 rfl 54 (by decide) (fun _ => rfl) (j) rfl (by omega) (by decide) ?_
  refine qk_cast (show _ = z_dn v N n (j) from rfl) ?_
  refine qk_callV C dX6_behind_23 26 rfl ql_X6_205 qc_X6_putBack 53 (by decide) rfl rfl (c_X6_putBack l G _ _) rfl rfl (Nat.le_of_ble_eq_true rfl) ⟨(Nat.le_of_ble_eq_true rfl), (Nat.le_of_ble_eq_true rfl)⟩ (qx_Ki ?_)
  refine qk_sg _ m_pb ?_
  exact hret _ _ _ _ dX6_behind_26 ⟨congrArg (fun x => some (Value.int x)) (by first | rfl | (simp []; done) | (simp []; decide) | (simp []; rfl) | (simp_all []; done)), rfl⟩ rfl

theorem c_X6_toldBehind (l : Launch) (G : qx_G) (σ : qx_Sg) (N : Nat) (v : Nat → Int32) (hI : qv_ok v N) (b : Nat) (hb : b < N) (x : Nat) (hx : x ≤ 10) (n : Nat) (hn : n < 2 ^ 31) : qx_Ct l G yX6_toldBehind cX6_toldBehind 4 (some .int) 8 177 [.ref (qx_ad G 53), .int (nI b), .int (nI x), .int (nI n)] (va_up σ 54 v) (qx_pi (z_tell (z_row (z_dn v N n) b) (nI x)) (va_up (va_up σ 56 v) 54 v)) := by
  refine qx_of .int (lo := [(0, .ref (qx_ad G 53)), (1, .int (nI b)), (2, .int (nI x)), (3, .int (nI n))]) (by decide +kernel) (Nat.le_of_ble_eq_true rfl) rfl (fun Δ (C : qx_C G Δ cX6_toldBehind RX6 4 8 177) hret => ?_)
  have hN8 := hI.1
  have hN1 := hI.2.1
  refine qk_aloadn C dX6_toldBehind_0 1 rfl rfl 0 rfl ?_
  refine qk_get C dX6_toldBehind_1 4 rfl qf_X6_9 53 (by decide) rfl rfl ?_
  refine qk_aloadn C dX6_toldBehind_4 5 rfl rfl 0 rfl ?_
  refine qk_get C dX6_toldBehind_5 8 rfl qf_X6_16 53 (by decide) rfl rfl ?_
  refine qk_callS C dX6_toldBehind_8 11 rfl ql_X6_61 qc_X6_copyRow (c_X6_copyRow l G _ 54 56 (Or.inl rfl) (Or.inr (Or.inr rfl)) (by decide)) rfl rfl (Nat.le_of_ble_eq_true rfl) ⟨(Nat.le_of_ble_eq_true rfl), (Nat.le_of_ble_eq_true rfl)⟩ (qx_Kv ?_)
  refine qk_sg _ m_as ?_
  refine qk_aloadn C dX6_toldBehind_11 12 rfl rfl 0 rfl ?_
  refine qk_iloadn C dX6_toldBehind_12 13 rfl rfl 3 rfl ?_
  refine qk_callV C dX6_toldBehind_13 16 rfl ql_X6_184 qc_X6_daysGo 53 (by decide) rfl rfl (c_X6_daysGo l G (va_up σ 56 v) N v hI n hn) rfl rfl (Nat.le_of_ble_eq_true rfl) ⟨(Nat.le_of_ble_eq_true rfl), (Nat.le_of_ble_eq_true rfl)⟩ (qx_Kv ?_)
  refine qk_aloadn C dX6_toldBehind_16 17 rfl rfl 0 rfl ?_
  refine qk_aloadn C dX6_toldBehind_17 18 rfl rfl 0 rfl ?_
  refine qk_iloadn C dX6_toldBehind_18 19 rfl rfl 1 rfl ?_
  refine qk_iloadn C dX6_toldBehind_19 20 rfl rfl 2 rfl ?_
  refine qk_callV C dX6_toldBehind_20 23 rfl ql_X6_140 qc_X6_told 53 (by decide) rfl rfl (c_X6_told l G _ N _ (qv_dn hI n) b hb x hx) rfl rfl (Nat.le_of_ble_eq_true rfl) ⟨(Nat.le_of_ble_eq_true rfl), (Nat.le_of_ble_eq_true rfl)⟩ (qx_Ki ?_)
  refine qk_callV C dX6_toldBehind_23 26 rfl ql_X6_205 qc_X6_putBack 53 (by decide) rfl rfl (c_X6_putBack l G _ _) rfl rfl (Nat.le_of_ble_eq_true rfl) ⟨(Nat.le_of_ble_eq_true rfl), (Nat.le_of_ble_eq_true rfl)⟩ (qx_Ki ?_)
  refine qk_sg _ m_pb ?_
  exact hret _ _ _ _ dX6_toldBehind_26 ⟨congrArg (fun x => some (Value.int x)) (by first | rfl | (simp []; done) | (simp []; decide) | (simp []; rfl) | (simp_all []; done)), rfl⟩ rfl

