/-! the model: sets of sealed ones, of parts; what a sheet tells -/
theorem qx_KF {l : Launch} {G : qx_G} {Δ : qx_T} {lo : List (Nat × Value)} {st : List Value} {pc' : Nat} {x : Int32} {σ : qx_Sg} {v : Nat → Int32} (K : ∀ ρ, mTr σ ρ → qx_K l G Δ (va_up ρ 54 v) pc' lo (.int x :: st)) : ∀ r σ', (r = some (.int x) ∧ ∃ ρ, mTr σ ρ ∧ σ' = va_up ρ 54 v) → qx_K l G Δ σ' pc' lo (r.toList ++ st) := by
  rintro r σ' ⟨rfl, ρ, h, rfl⟩; exact K ρ h
theorem c_X6_leadsTo (l : Launch) (G : qx_G) (σ : qx_Sg) (v : Nat → Int32) (b : Nat) (hb : b < 8) (set p : Int32) : qx_Ct l G yX6_leadsTo cX6_leadsTo 7 (some .boolean) 5 110 [.ref (qx_ad G 53), .int set, .int (nI b), .int p] (va_up σ 54 v) (qx_pi (qb (z_hs (m_lt (v (32 + 7 * b + 0)) set 12 (v (32 + 7 * b + 2))) p)) (va_up σ 54 v)) := by
  refine qx_of .boolean (lo := [(0, .ref (qx_ad G 53)), (1, .int set), (2, .int (nI b)), (3, .int p)]) (by decide +kernel) (Nat.le_of_ble_eq_true rfl) rfl (fun Δ (C : qx_C G Δ cX6_leadsTo RX6 7 5 110) hret => ?_)
  refine qk_iloadn C dX6_leadsTo_0 1 rfl rfl 2 rfl ?_
  refine qk_iconst C (2) dX6_leadsTo_1 2 rfl rfl ?_
  refine qk_callS C dX6_leadsTo_2 5 rfl ql_X6_88 qc_X6_bustAt (c_X6_bustAt l G _ b 2 (by omega) (by omega)) rfl rfl (Nat.le_of_ble_eq_true rfl) ⟨(Nat.le_of_ble_eq_true rfl), (Nat.le_of_ble_eq_true rfl)⟩ (qx_Ki ?_)
  refine qk_istore C dX6_leadsTo_5 7 rfl (by decide) rfl ?_
  refine qk_aloadn C dX6_leadsTo_7 8 rfl rfl 1 rfl ?_
  refine qk_get C dX6_leadsTo_8 11 rfl qf_X6_9 53 (by decide) rfl rfl ?_
  refine qk_iload C dX6_leadsTo_11 13 rfl 0 rfl ?_
  refine qk_iald C dX6_leadsTo_13 14 rfl 54 (by decide) (fun _ => rfl) (32 + 7 * b + 2) rfl (by omega) (by decide) ?_
  refine qk_cast (show _ = v (32 + 7 * b + 2) from rfl) ?_
  refine qk_istore C dX6_leadsTo_14 16 rfl (by decide) rfl ?_
  refine qk_iconst C (nI 0) dX6_leadsTo_16 17 rfl rfl ?_
  refine qk_istore C dX6_leadsTo_17 19 rfl (by decide) rfl ?_
  have lp_19 : ∀ (n_19 : Nat) (i : Nat), i ≤ 12 → 12 - i < n_19 → qx_K l G Δ (va_up σ 54 (upd v (32 + 7 * b + 2) (m_lt (v (32 + 7 * b + 0)) set i (v (32 + 7 * b + 2))))) 19 [(6, .int (nI i)), (0, .ref (qx_ad G 53)), (1, .int set), (2, .int (nI b)), (3, .int p), (4, .int (nI (32 + 7 * b + 2))), (5, .int (v (32 + 7 * b + 2)))] [] := by
    intro n_19
    induction n_19 with
    | zero => intro _ _ h9; exact absurd h9 (Nat.not_lt_zero _)
    | succ n_19 ih_19 =>
      intro i hi hm_19
      refine qk_iload C dX6_leadsTo_19 21 rfl 0 rfl ?_
      refine qk_bipush C (nI 12) dX6_leadsTo_21 23 rfl rfl ?_
      refine qk_icmp_ge C dX6_leadsTo_23 60 rfl 26 rfl (fun c_23 => ?_) (fun c_23 => ?_)
      · have h12 : 12 ≤ i := (nI_leI (by omega) (by omega)).mp c_23
        have hie : i = 12 := by omega
        subst hie
        refine qk_aloadn C dX6_leadsTo_60 61 rfl rfl 1 rfl ?_
        refine qk_iloadn C dX6_leadsTo_61 62 rfl rfl 3 rfl ?_
        refine qk_iloadn C dX6_leadsTo_62 63 rfl rfl 4 rfl ?_
        refine qk_callV C dX6_leadsTo_63 66 rfl ql_X6_104 qc_X6_has 53 (by decide) rfl rfl (c_X6_has l G σ _ b (by omega) _) rfl rfl (Nat.le_of_ble_eq_true rfl) ⟨(Nat.le_of_ble_eq_true rfl), (Nat.le_of_ble_eq_true rfl)⟩ (qx_Ki ?_)
        refine qk_cast (show _ = qb (z_hs (m_lt (v (32 + 7 * b + 0)) set 12 (v (32 + 7 * b + 2))) p) from by rw [upd_eq]) ?_
        refine qk_istore C dX6_leadsTo_66 68 rfl (by decide) rfl ?_
        refine qk_aloadn C dX6_leadsTo_68 69 rfl rfl 1 rfl ?_
        refine qk_get C dX6_leadsTo_69 72 rfl qf_X6_9 53 (by decide) rfl rfl ?_
        refine qk_iload C dX6_leadsTo_72 74 rfl 5 rfl ?_
        refine qk_iload C dX6_leadsTo_74 76 rfl 6 rfl ?_
        refine qk_iast C dX6_leadsTo_76 77 rfl 54 (by decide) (fun _ => rfl) (32 + 7 * b + 2) rfl (by omega) (by decide) ?_
        refine qk_sg _ (m_w.trans (congrArg (va_up σ 54) m_upr)) ?_
        refine qk_iload C dX6_leadsTo_77 79 rfl 0 rfl ?_
        exact hret _ _ _ _ dX6_leadsTo_79 ⟨congrArg (fun x => some (Value.int x)) (rfl), rfl⟩ (qb_nar _)
      · have h12 : i < 12 := Nat.not_le.mp (fun q => c_23 (nI_le q (by omega)))
        refine qk_iloadn C dX6_leadsTo_26 27 rfl rfl 2 rfl ?_
        refine qk_iload C dX6_leadsTo_27 29 rfl 0 rfl ?_
        refine qk_ishr C dX6_leadsTo_29 30 rfl ?_
        refine qk_iconst C (1) dX6_leadsTo_30 31 rfl rfl ?_
        refine qk_iand C dX6_leadsTo_31 32 rfl ?_
        refine qk_iconst C (1) dX6_leadsTo_32 33 rfl rfl ?_
        refine qk_icmp_ne C dX6_leadsTo_33 54 rfl 36 rfl (fun c_33 => ?_) (fun c_33 => ?_)
        · refine qk_sg (va_up σ 54 (upd v (32 + 7 * b + 2) (m_lt (v (32 + 7 * b + 0)) set (i + 1) (v (32 + 7 * b + 2))))) (congrArg (fun x => va_up σ 54 (upd v (32 + 7 * b + 2) x)) (z_sel_f (fun q => c_33 q.1)).symm) ?_
          refine qk_iinc C (nI (i + 1)) dX6_leadsTo_54 57 rfl 0 rfl (nI_1 i) (by decide) rfl ?_
          refine qk_goto C dX6_leadsTo_57 19 rfl ?_
          exact ih_19 (i + 1) (by omega) (by omega)
        · refine qk_aloadn C dX6_leadsTo_36 37 rfl rfl 1 rfl ?_
          refine qk_iloadn C dX6_leadsTo_37 38 rfl rfl 3 rfl ?_
          refine qk_iload C dX6_leadsTo_38 40 rfl 0 rfl ?_
          refine qk_callV C dX6_leadsTo_40 43 rfl ql_X6_146 qc_X6_takes 53 (by decide) rfl rfl (c_X6_takes l G σ _ b (by omega) _) rfl rfl (Nat.le_of_ble_eq_true rfl) ⟨(Nat.le_of_ble_eq_true rfl), (Nat.le_of_ble_eq_true rfl)⟩ (qx_Ki ?_)
          refine qk_cast (show _ = qb (z_tk (v (32 + 7 * b + 0)) (m_lt (v (32 + 7 * b + 0)) set i (v (32 + 7 * b + 2))) (nI i)) from by rw [upd_ne (by omega), upd_eq]) ?_
          refine qk_if_eqB C dX6_leadsTo_43 54 rfl 46 rfl (fun c_43 => ?_) (fun c_43 => ?_)
          · refine qk_sg (va_up σ 54 (upd v (32 + 7 * b + 2) (m_lt (v (32 + 7 * b + 0)) set (i + 1) (v (32 + 7 * b + 2))))) (congrArg (fun x => va_up σ 54 (upd v (32 + 7 * b + 2) x)) (z_sel_f (fun q => c_43 q.2)).symm) ?_
            refine qk_iinc C (nI (i + 1)) dX6_leadsTo_54 57 rfl 0 rfl (nI_1 i) (by decide) rfl ?_
            refine qk_goto C dX6_leadsTo_57 19 rfl ?_
            exact ih_19 (i + 1) (by omega) (by omega)
          · refine qk_aloadn C dX6_leadsTo_46 47 rfl rfl 1 rfl ?_
            refine qk_iloadn C dX6_leadsTo_47 48 rfl rfl 3 rfl ?_
            refine qk_iload C dX6_leadsTo_48 50 rfl 0 rfl ?_
            refine qk_callV C dX6_leadsTo_50 53 rfl ql_X6_159 qc_X6_gets 53 (by decide) rfl rfl (c_X6_gets l G σ _ b (by omega) _) rfl rfl (Nat.le_of_ble_eq_true rfl) ⟨(Nat.le_of_ble_eq_true rfl), (Nat.le_of_ble_eq_true rfl)⟩ (qx_Ki ?_)
            refine qk_sg (va_up σ 54 (upd v (32 + 7 * b + 2) (m_lt (v (32 + 7 * b + 0)) set (i + 1) (v (32 + 7 * b + 2))))) (by rw [upd_eq, m_upu]; exact congrArg (fun x => va_up σ 54 (upd v (32 + 7 * b + 2) x)) (z_sel_t ⟨c_33, c_43⟩).symm) ?_
            refine qk_pop C dX6_leadsTo_53 54 rfl rfl ?_
            refine qk_iinc C (nI (i + 1)) dX6_leadsTo_54 57 rfl 0 rfl (nI_1 i) (by decide) rfl ?_
            refine qk_goto C dX6_leadsTo_57 19 rfl ?_
            exact ih_19 (i + 1) (by omega) (by omega)
  refine qk_sg (va_up σ 54 (upd v (32 + 7 * b + 2) (m_lt (v (32 + 7 * b + 0)) set 0 (v (32 + 7 * b + 2))))) (congrArg (va_up σ 54) m_ups.symm) ?_
  exact qk_lo [0, 3, 4, 5, 6, 2, 1] rfl (lp_19 _ 0 (by omega) (Nat.lt_succ_self _))

theorem c_X6_isSo (l : Launch) (G : qx_G) (σ : qx_Sg) (N : Nat) (v : Nat → Int32) (hI : qv_ok v N) (b : Nat) (hb : b < N) (s : Nat) (hs : s < 4) (n : Nat) (hn : n ≤ 40) (en : σ 62 s = nI n) : qx_Ct l G yX6_isSo cX6_isSo 6 (some .boolean) 7 155 [.ref (qx_ad G 53), .int (nI s), .int (nI b)] (va_up σ 54 v) (qx_pi (qb (z_vs N v (fun i => σ 63 (40 * s + i)) n b)) (va_up (va_up σ 56 v) 54 v)) := by
  refine qx_of .boolean (lo := [(0, .ref (qx_ad G 53)), (1, .int (nI s)), (2, .int (nI b))]) (by decide +kernel) (Nat.le_of_ble_eq_true rfl) rfl (fun Δ (C : qx_C G Δ cX6_isSo RX6 6 7 155) hret => ?_)
  have hN8 := hI.1
  have hN1 := hI.2.1
  refine qk_aloadn C dX6_isSo_0 1 rfl rfl 0 rfl ?_
  refine qk_get C dX6_isSo_1 4 rfl qf_X6_9 53 (by decide) rfl rfl ?_
  refine qk_aloadn C dX6_isSo_4 5 rfl rfl 0 rfl ?_
  refine qk_get C dX6_isSo_5 8 rfl qf_X6_16 53 (by decide) rfl rfl ?_
  refine qk_callS C dX6_isSo_8 11 rfl ql_X6_61 qc_X6_copyRow (c_X6_copyRow l G _ 54 56 (Or.inl rfl) (Or.inr (Or.inr rfl)) (by decide)) rfl rfl (Nat.le_of_ble_eq_true rfl) ⟨(Nat.le_of_ble_eq_true rfl), (Nat.le_of_ble_eq_true rfl)⟩ (qx_Kv ?_)
  refine qk_sg _ m_as ?_
  refine qk_iconst C (1) dX6_isSo_11 12 rfl rfl ?_
  refine qk_istoren C dX6_isSo_12 13 rfl rfl (by decide) rfl ?_
  refine qk_iconst C (nI 0) dX6_isSo_13 14 rfl rfl ?_
  refine qk_istore C dX6_isSo_14 16 rfl (by decide) rfl ?_
  have lp_16 : ∀ (n_16 : Nat) (k : Nat) (a : Int32), (k ≤ n ∧ ((a = 1 ∧ ∀ c, c < k → ((fun i => σ 63 (40 * s + i)) c = -1 ∨ (fun i => σ 63 (40 * s + i)) c = z_say (z_row (z_dn v N c) b))) ∨ (a = 0 ∧ ¬ z_vs N v (fun i => σ 63 (40 * s + i)) n b))) → n - k < n_16 → qx_K l G Δ (va_up (va_up σ 56 v) 54 (z_dn v N k)) 16 [(4, .int (nI k)), (3, .int a), (0, .ref (qx_ad G 53)), (1, .int (nI s)), (2, .int (nI b))] [] := by
    intro n_16
    induction n_16 with
    | zero => intro _ _ _ h9; exact absurd h9 (Nat.not_lt_zero _)
    | succ n_16 ih_16 =>
      intro k a hi hm_16
      rcases hi.2 with ⟨rfl, hi2⟩ | ⟨rfl, hi2⟩
      · refine qk_iload C dX6_isSo_16 18 rfl 0 rfl ?_
        refine qk_aloadn C dX6_isSo_18 19 rfl rfl 2 rfl ?_
        refine qk_get C dX6_isSo_19 22 rfl qf_X6_51 53 (by decide) rfl rfl ?_
        refine qk_iloadn C dX6_isSo_22 23 rfl rfl 3 rfl ?_
        refine qk_iald C dX6_isSo_23 24 rfl 62 (by decide) (fun _ => rfl) s rfl hs (by decide) ?_
        refine qk_cast (en) ?_
        refine qk_icmp_ge C dX6_isSo_24 77 rfl 27 rfl (fun c_24 => ?_) (fun c_24 => ?_)
        · have hkn : n ≤ k := (nI_leI (by omega) (by omega)).mp c_24
          have hke : n = k := by omega
          subst hke
          refine qk_aloadn C dX6_isSo_77 78 rfl rfl 2 rfl ?_
          refine qk_get C dX6_isSo_78 81 rfl qf_X6_16 53 (by decide) rfl rfl ?_
          refine qk_aloadn C dX6_isSo_81 82 rfl rfl 2 rfl ?_
          refine qk_get C dX6_isSo_82 85 rfl qf_X6_9 53 (by decide) rfl rfl ?_
          refine qk_callS C dX6_isSo_85 88 rfl ql_X6_61 qc_X6_copyRow (c_X6_copyRow l G _ 56 54 (Or.inr (Or.inr rfl)) (Or.inl rfl) (by decide)) rfl rfl (Nat.le_of_ble_eq_true rfl) ⟨(Nat.le_of_ble_eq_true rfl), (Nat.le_of_ble_eq_true rfl)⟩ (qx_Kv ?_)
          refine qk_sg _ m_pb ?_
          refine qk_iloadn C dX6_isSo_88 89 rfl rfl 1 rfl ?_
          exact hret _ _ _ _ dX6_isSo_89 ⟨congrArg (fun x => some (Value.int x)) ((qb_t (fun c hc => hi2 c hc)).symm), rfl⟩ rfl
        · have hkn : k < n := Nat.not_le.mp (fun q => c_24 (nI_le q (by omega)))
          refine qk_iloadn C dX6_isSo_27 28 rfl rfl 1 rfl ?_
          refine qk_if_eq C dX6_isSo_28 77 rfl 31 rfl (fun c => absurd c (by decide)) (fun _ => ?_)
          refine qk_aloadn C dX6_isSo_31 32 rfl rfl 2 rfl ?_
          refine qk_get C dX6_isSo_32 35 rfl qf_X6_54 53 (by decide) rfl rfl ?_
          refine qk_bipush C (40) dX6_isSo_35 37 rfl rfl ?_
          refine qk_iloadn C dX6_isSo_37 38 rfl rfl 3 rfl ?_
          refine qk_imul C dX6_isSo_38 39 rfl ?_
          refine qk_cast (m_40 hs) ?_
          refine qk_iload C dX6_isSo_39 41 rfl 0 rfl ?_
          refine qk_iadd C dX6_isSo_41 42 rfl ?_
          refine qk_cast (nI_add _ _) ?_
          refine qk_iald C dX6_isSo_42 43 rfl 63 (by decide) (fun _ => rfl) (40 * s + k) rfl (by omega) (by decide) ?_
          refine qk_cast (show _ = σ 63 (40 * s + k) from rfl) ?_
          refine qk_istore C dX6_isSo_43 45 rfl (by decide) rfl ?_
          refine qk_iload C dX6_isSo_45 47 rfl 0 rfl ?_
          refine qk_iconst C ((-1)) dX6_isSo_47 48 rfl rfl ?_
          refine qk_icmp_eq C dX6_isSo_48 61 rfl 51 rfl (fun c_48 => ?_) (fun c_48 => ?_)
          · refine qk_iconst C (1) dX6_isSo_61 62 rfl rfl ?_
            refine qk_goto C dX6_isSo_62 66 rfl ?_
            refine qk_istoren C dX6_isSo_66 67 rfl rfl (by decide) rfl ?_
            refine qk_aloadn C dX6_isSo_67 68 rfl rfl 3 rfl ?_
            refine qk_callV C dX6_isSo_68 71 rfl ql_X6_181 qc_X6_day 53 (by decide) rfl rfl (c_X6_day l G _ N _ (qv_dn hI k)) rfl rfl (Nat.le_of_ble_eq_true rfl) ⟨(Nat.le_of_ble_eq_true rfl), (Nat.le_of_ble_eq_true rfl)⟩ (qx_Kv ?_)
            refine qk_iinc C (nI (k + 1)) dX6_isSo_71 74 rfl 2 rfl (nI_1 k) (by decide) rfl ?_
            refine qk_goto C dX6_isSo_74 16 rfl ?_
            exact qk_lo [0, 1, 3, 4, 5] rfl (ih_16 (k + 1) _ ⟨by omega, Or.inl ⟨rfl, lt_s hi2 (by first | exact Or.inl c_48 | exact Or.inr c_58)⟩⟩ (by omega))
          · refine qk_iload C dX6_isSo_51 53 rfl 0 rfl ?_
            refine qk_aloadn C dX6_isSo_53 54 rfl rfl 3 rfl ?_
            refine qk_iloadn C dX6_isSo_54 55 rfl rfl 5 rfl ?_
            refine qk_callV C dX6_isSo_55 58 rfl ql_X6_134 qc_X6_says 53 (by decide) rfl rfl (c_X6_says l G _ N _ (qv_dn hI k) b hb) rfl rfl (Nat.le_of_ble_eq_true rfl) ⟨(Nat.le_of_ble_eq_true rfl), (Nat.le_of_ble_eq_true rfl)⟩ (qx_Ki ?_)
            refine qk_icmp_ne C dX6_isSo_58 65 rfl 61 rfl (fun c_58 => ?_) (fun c_58 => ?_)
            · refine qk_iconst C (0) dX6_isSo_65 66 rfl rfl ?_
              refine qk_istoren C dX6_isSo_66 67 rfl rfl (by decide) rfl ?_
              refine qk_aloadn C dX6_isSo_67 68 rfl rfl 3 rfl ?_
              refine qk_callV C dX6_isSo_68 71 rfl ql_X6_181 qc_X6_day 53 (by decide) rfl rfl (c_X6_day l G _ N _ (qv_dn hI k)) rfl rfl (Nat.le_of_ble_eq_true rfl) ⟨(Nat.le_of_ble_eq_true rfl), (Nat.le_of_ble_eq_true rfl)⟩ (qx_Kv ?_)
              refine qk_iinc C (nI (k + 1)) dX6_isSo_71 74 rfl 2 rfl (nI_1 k) (by decide) rfl ?_
              refine qk_goto C dX6_isSo_74 16 rfl ?_
              exact qk_lo [0, 1, 3, 4, 5] rfl (ih_16 (k + 1) _ ⟨by omega, Or.inr ⟨rfl, fun q => (q k hkn).elim c_48 c_58⟩⟩ (by omega))
            · refine qk_iconst C (1) dX6_isSo_61 62 rfl rfl ?_
              refine qk_goto C dX6_isSo_62 66 rfl ?_
              refine qk_istoren C dX6_isSo_66 67 rfl rfl (by decide) rfl ?_
              refine qk_aloadn C dX6_isSo_67 68 rfl rfl 3 rfl ?_
              refine qk_callV C dX6_isSo_68 71 rfl ql_X6_181 qc_X6_day 53 (by decide) rfl rfl (c_X6_day l G _ N _ (qv_dn hI k)) rfl rfl (Nat.le_of_ble_eq_true rfl) ⟨(Nat.le_of_ble_eq_true rfl), (Nat.le_of_ble_eq_true rfl)⟩ (qx_Kv ?_)
              refine qk_iinc C (nI (k + 1)) dX6_isSo_71 74 rfl 2 rfl (nI_1 k) (by decide) rfl ?_
              refine qk_goto C dX6_isSo_74 16 rfl ?_
              exact qk_lo [0, 1, 3, 4, 5] rfl (ih_16 (k + 1) _ ⟨by omega, Or.inl ⟨rfl, lt_s hi2 (by first | exact Or.inl c_48 | exact Or.inr c_58)⟩⟩ (by omega))
      · refine qk_iload C dX6_isSo_16 18 rfl 0 rfl ?_
        refine qk_aloadn C dX6_isSo_18 19 rfl rfl 2 rfl ?_
        refine qk_get C dX6_isSo_19 22 rfl qf_X6_51 53 (by decide) rfl rfl ?_
        refine qk_iloadn C dX6_isSo_22 23 rfl rfl 3 rfl ?_
        refine qk_iald C dX6_isSo_23 24 rfl 62 (by decide) (fun _ => rfl) s rfl hs (by decide) ?_
        refine qk_cast (en) ?_
        refine qk_icmp_ge C dX6_isSo_24 77 rfl 27 rfl (fun c_24 => ?_) (fun c_24 => ?_)
        · have hkn : n ≤ k := (nI_leI (by omega) (by omega)).mp c_24
          have hke : n = k := by omega
          subst hke
          refine qk_aloadn C dX6_isSo_77 78 rfl rfl 2 rfl ?_
          refine qk_get C dX6_isSo_78 81 rfl qf_X6_16 53 (by decide) rfl rfl ?_
          refine qk_aloadn C dX6_isSo_81 82 rfl rfl 2 rfl ?_
          refine qk_get C dX6_isSo_82 85 rfl qf_X6_9 53 (by decide) rfl rfl ?_
          refine qk_callS C dX6_isSo_85 88 rfl ql_X6_61 qc_X6_copyRow (c_X6_copyRow l G _ 56 54 (Or.inr (Or.inr rfl)) (Or.inl rfl) (by decide)) rfl rfl (Nat.le_of_ble_eq_true rfl) ⟨(Nat.le_of_ble_eq_true rfl), (Nat.le_of_ble_eq_true rfl)⟩ (qx_Kv ?_)
          refine qk_sg _ m_pb ?_
          refine qk_iloadn C dX6_isSo_88 89 rfl rfl 1 rfl ?_
          exact hret _ _ _ _ dX6_isSo_89 ⟨congrArg (fun x => some (Value.int x)) ((qb_f (hi2)).symm), rfl⟩ rfl
        · have hkn : k < n := Nat.not_le.mp (fun q => c_24 (nI_le q (by omega)))
          refine qk_iloadn C dX6_isSo_27 28 rfl rfl 1 rfl ?_
          refine qk_if_eq C dX6_isSo_28 77 rfl 31 rfl (fun _ => ?_) (fun c => absurd rfl c)
          refine qk_aloadn C dX6_isSo_77 78 rfl rfl 2 rfl ?_
          refine qk_get C dX6_isSo_78 81 rfl qf_X6_16 53 (by decide) rfl rfl ?_
          refine qk_aloadn C dX6_isSo_81 82 rfl rfl 2 rfl ?_
          refine qk_get C dX6_isSo_82 85 rfl qf_X6_9 53 (by decide) rfl rfl ?_
          refine qk_callS C dX6_isSo_85 88 rfl ql_X6_61 qc_X6_copyRow (c_X6_copyRow l G _ 56 54 (Or.inr (Or.inr rfl)) (Or.inl rfl) (by decide)) rfl rfl (Nat.le_of_ble_eq_true rfl) ⟨(Nat.le_of_ble_eq_true rfl), (Nat.le_of_ble_eq_true rfl)⟩ (qx_Kv ?_)
          refine qk_sg _ m_pb ?_
          refine qk_iloadn C dX6_isSo_88 89 rfl rfl 1 rfl ?_
          exact hret _ _ _ _ dX6_isSo_89 ⟨congrArg (fun x => some (Value.int x)) ((qb_f (hi2)).symm), rfl⟩ rfl
  exact lp_16 _ 0 1 ⟨by omega, Or.inl ⟨rfl, lt_0⟩⟩ (Nat.lt_succ_self _)

theorem c_X6_fitting (l : Launch) (G : qx_G) (σ : qx_Sg) (N : Nat) (v : Nat → Int32) (hI : qv_ok v N) (b : Nat) (hb : b < N) (s : Nat) (hs : s < 4) (n : Nat) (hn : n ≤ 40) (en : σ 62 s = nI n) (j : Nat) (hj : j < 88) (m : Nat) (hm : m ≤ 13) (hq : ∀ t, t < m → qv_ok (upd v j (nI t)) N) : qx_Ct l G yX6_fitting cX6_fitting 8 (some .int) 8 180 [.ref (qx_ad G 53), .int (nI s), .int (nI b), .int (nI j), .int (nI m)] (va_up σ 54 v) (fun r σ' => r = some (.int (z_fo (fun t a => z_sel (z_vs N (upd v j (nI t)) (fun i => σ 63 (40 * s + i)) n b) (z_rc a (nI t)) a) m)) ∧ ∃ ρ, mTr σ ρ ∧ σ' = va_up ρ 54 v) := by
  refine qx_of .int (lo := [(0, .ref (qx_ad G 53)), (1, .int (nI s)), (2, .int (nI b)), (3, .int (nI j)), (4, .int (nI m))]) (by decide +kernel) (Nat.le_of_ble_eq_true rfl) rfl (fun Δ (C : qx_C G Δ cX6_fitting RX6 8 8 180) hret => ?_)
  have hN8 := hI.1
  have hN1 := hI.2.1
  refine qk_aloadn C dX6_fitting_0 1 rfl rfl 0 rfl ?_
  refine qk_get C dX6_fitting_1 4 rfl qf_X6_9 53 (by decide) rfl rfl ?_
  refine qk_iloadn C dX6_fitting_4 5 rfl rfl 3 rfl ?_
  refine qk_iald C dX6_fitting_5 6 rfl 54 (by decide) (fun _ => rfl) (j) rfl (by omega) (by decide) ?_
  refine qk_cast (show _ = v (j) from rfl) ?_
  refine qk_istore C dX6_fitting_6 8 rfl (by decide) rfl ?_
  refine qk_iconst C (0) dX6_fitting_8 9 rfl rfl ?_
  refine qk_istore C dX6_fitting_9 11 rfl (by decide) rfl ?_
  refine qk_iconst C (nI 0) dX6_fitting_11 12 rfl rfl ?_
  refine qk_istore C dX6_fitting_12 14 rfl (by decide) rfl ?_
  have lp_14 : ∀ (n_14 : Nat) (t : Nat) (ρ : qx_Sg) (x a : Int32), (t ≤ m ∧ mTr σ ρ ∧ a = z_fo (fun t a => z_sel (z_vs N (upd v j (nI t)) (fun i => σ 63 (40 * s + i)) n b) (z_rc a (nI t)) a) t) → m - t < n_14 → qx_K l G Δ (va_up ρ 54 (upd v j x)) 14 [(7, .int (nI t)), (6, .int a), (0, .ref (qx_ad G 53)), (1, .int (nI s)), (2, .int (nI b)), (3, .int (nI j)), (4, .int (nI m)), (5, .int (v j))] [] := by
    intro n_14
    induction n_14 with
    | zero => intro _ _ _ _ _ h9; exact absurd h9 (Nat.not_lt_zero _)
    | succ n_14 ih_14 =>
      intro t ρ x a hi hm_14
      have h62 := hi.2.1 62 (by omega) (by omega) (by omega)
      have h63 := hi.2.1 63 (by omega) (by omega) (by omega)
      refine qk_iload C dX6_fitting_14 16 rfl 0 rfl ?_
      refine qk_iload C dX6_fitting_16 18 rfl 6 rfl ?_
      refine qk_icmp_ge C dX6_fitting_18 57 rfl 21 rfl (fun c_18 => ?_) (fun c_18 => ?_)
      · have htm : m ≤ t := (nI_leI (by omega) (by omega)).mp c_18
        have hte : m = t := by omega
        subst hte
        refine qk_aloadn C dX6_fitting_57 58 rfl rfl 2 rfl ?_
        refine qk_get C dX6_fitting_58 61 rfl qf_X6_9 53 (by decide) rfl rfl ?_
        refine qk_iloadn C dX6_fitting_61 62 rfl rfl 5 rfl ?_
        refine qk_iload C dX6_fitting_62 64 rfl 7 rfl ?_
        refine qk_iast C dX6_fitting_64 65 rfl 54 (by decide) (fun _ => rfl) (j) rfl (by omega) (by decide) ?_
        refine qk_sg _ (m_w.trans (congrArg (va_up ρ 54) m_upr)) ?_
        refine qk_iload C dX6_fitting_65 67 rfl 1 rfl ?_
        exact hret _ _ _ _ dX6_fitting_67 (⟨by rw [hi.2.2], ρ, hi.2.1, rfl⟩) rfl
      · have htm : t < m := Nat.not_le.mp (fun q => c_18 (nI_le q (by omega)))
        refine qk_aloadn C dX6_fitting_21 22 rfl rfl 2 rfl ?_
        refine qk_get C dX6_fitting_22 25 rfl qf_X6_9 53 (by decide) rfl rfl ?_
        refine qk_iloadn C dX6_fitting_25 26 rfl rfl 5 rfl ?_
        refine qk_iload C dX6_fitting_26 28 rfl 0 rfl ?_
        refine qk_iast C dX6_fitting_28 29 rfl 54 (by decide) (fun _ => rfl) (j) rfl (by omega) (by decide) ?_
        refine qk_sg _ (m_w.trans (congrArg (va_up ρ 54) m_upu)) ?_
        refine qk_iload C dX6_fitting_29 31 rfl 1 rfl ?_
        refine qk_aloadn C dX6_fitting_31 32 rfl rfl 2 rfl ?_
        refine qk_iloadn C dX6_fitting_32 33 rfl rfl 3 rfl ?_
        refine qk_iloadn C dX6_fitting_33 34 rfl rfl 4 rfl ?_
        refine qk_callV C dX6_fitting_34 37 rfl ql_X6_228 qc_X6_isSo 53 (by decide) rfl rfl (c_X6_isSo l G ρ N (upd v j (nI t)) (hq t htm) b hb s hs n hn (by rw [h62]; exact en)) rfl rfl (Nat.le_of_ble_eq_true rfl) ⟨(Nat.le_of_ble_eq_true rfl), (Nat.le_of_ble_eq_true rfl)⟩ (qx_Ki ?_)
        refine qk_if_eqB C dX6_fitting_37 47 rfl 40 rfl (fun c_37 => ?_) (fun c_37 => ?_)
        · refine qk_iconst C (0) dX6_fitting_47 48 rfl rfl ?_
          refine qk_ior C dX6_fitting_48 49 rfl ?_
          refine qk_istore C dX6_fitting_49 51 rfl (by decide) rfl ?_
          refine qk_iinc C (nI (t + 1)) dX6_fitting_51 54 rfl 1 rfl (nI_1 t) (by decide) rfl ?_
          refine qk_goto C dX6_fitting_54 14 rfl ?_
          exact ih_14 (t + 1) _ _ _ ⟨by omega, hi.2.1.ua, by rw [hi.2.2]; exact m_or0.trans (z_sel_f (by rw [h63] at c_37; exact c_37)).symm⟩ (by omega)
        · refine qk_iconst C (1) dX6_fitting_40 41 rfl rfl ?_
          refine qk_iload C dX6_fitting_41 43 rfl 0 rfl ?_
          refine qk_ishl C dX6_fitting_43 44 rfl ?_
          refine qk_goto C dX6_fitting_44 48 rfl ?_
          refine qk_ior C dX6_fitting_48 49 rfl ?_
          refine qk_istore C dX6_fitting_49 51 rfl (by decide) rfl ?_
          refine qk_iinc C (nI (t + 1)) dX6_fitting_51 54 rfl 1 rfl (nI_1 t) (by decide) rfl ?_
          refine qk_goto C dX6_fitting_54 14 rfl ?_
          exact ih_14 (t + 1) _ _ _ ⟨by omega, hi.2.1.ua, by rw [hi.2.2]; exact (z_sel_t (by rw [h63] at c_37; exact c_37)).symm⟩ (by omega)
  refine qk_sg (va_up σ 54 (upd v j (v j))) (congrArg (va_up σ 54) m_ups.symm) ?_
  exact qk_lo [0, 1, 3, 4, 5, 6, 7, 2] rfl (lp_14 _ 0 σ _ _ ⟨by omega, mTr.rf, rfl⟩ (Nat.lt_succ_self _))

