/-! words -/
def t_iw (r : Nat → Int32) (k : Int32) (s e i : Nat) : Prop := k = 1 ∧ e - s = qx_len.getD i 0 ∧ ∀ j, j < qx_len.getD i 0 → r (s + j) = (qx_byt.getD i []).getD j 0
theorem c_X3_isWord (l : Launch) (G : qx_G) (σ : qx_Sg) (i : Nat) (hi : i < 12) (s e : Nat) (hse : s ≤ e) (he : e ≤ 120) (es : σ 40 3 = nI s) (ee : σ 40 4 = nI e) : qx_Ct l G yX3_isWord cX3_isWord 3 (some .boolean) 4 85 [.ref (qx_ad G 40), .ref (qx_ad G (100 + i))] (σ) (qx_pi (qb (t_iw (σ 41) (σ 40 2) s e i)) (σ)) := by
  refine qx_of .boolean (lo := [(0, .ref (qx_ad G 40)), (1, .ref (qx_ad G (100 + i)))]) (by decide +kernel) (Nat.le_of_ble_eq_true rfl) rfl (fun Δ (C : qx_C G Δ cX3_isWord RX3 3 4 85) hret => ?_)
  have h8 := t_len8 hi
  refine qk_aloadn C dX3_isWord_0 1 rfl rfl 0 rfl ?_
  refine qk_get C dX3_isWord_1 4 rfl qf_X3_19 40 (by decide) rfl rfl ?_
  refine qk_iconst C (1) dX3_isWord_4 5 rfl rfl ?_
  refine qk_icmp_ne C dX3_isWord_5 24 rfl 8 rfl (fun c_5 => ?_) (fun c_5 => ?_)
  · refine qk_iconst C (0) dX3_isWord_24 25 rfl rfl ?_
    exact hret _ _ _ _ dX3_isWord_25 ⟨congrArg (fun x => some (Value.int x)) ((qb_f (by first | exact fun q => c_5 q.1 | exact fun q => hl q.2.1)).symm), rfl⟩ rfl
  · refine qk_aloadn C dX3_isWord_8 9 rfl rfl 0 rfl ?_
    refine qk_get C dX3_isWord_9 12 rfl qf_X3_25 40 (by decide) rfl rfl ?_
    refine qk_cast (ee) ?_
    refine qk_aloadn C dX3_isWord_12 13 rfl rfl 0 rfl ?_
    refine qk_get C dX3_isWord_13 16 rfl qf_X3_22 40 (by decide) rfl rfl ?_
    refine qk_cast (es) ?_
    refine qk_isub C dX3_isWord_16 17 rfl ?_
    refine qk_cast (pk_sub hse) ?_
    refine qk_aloadn C dX3_isWord_17 18 rfl rfl 1 rfl ?_
    refine qk_callR C (fun H locs hP hS => qk_recvS C hi H locs hS) dX3_isWord_18 21 rfl ql_X3_47 qc_J0_length_8abf5 (c_J0_length_8abf5 l G _ i hi) rfl rfl (Nat.le_of_ble_eq_true rfl) ⟨(Nat.le_of_ble_eq_true rfl), (Nat.le_of_ble_eq_true rfl)⟩ (qx_Ki ?_)
    refine qk_icmp_eq C dX3_isWord_21 26 rfl 24 rfl (fun c_21 => ?_) (fun c_21 => ?_)
    · have hl : e - s = qx_len.getD i 0 := (nI_eq (by omega) (by omega)).mp c_21
      refine qk_iconst C (nI 0) dX3_isWord_26 27 rfl rfl ?_
      refine qk_istoren C dX3_isWord_27 28 rfl rfl (by decide) rfl ?_
      have lp_28 : ∀ (n_28 : Nat) (j : Nat), (j ≤ qx_len.getD i 0 ∧ ∀ c, c < j → σ 41 (s + c) = (qx_byt.getD i []).getD c 0) → qx_len.getD i 0 - j < n_28 → qx_K l G Δ (σ) 28 [(2, .int (nI j)), (0, .ref (qx_ad G 40)), (1, .ref (qx_ad G (100 + i)))] [] := by
        intro n_28
        induction n_28 with
        | zero => intro _ _ h9; exact absurd h9 (Nat.not_lt_zero _)
        | succ n_28 ih_28 =>
          intro j hj hm_28
          refine qk_iloadn C dX3_isWord_28 29 rfl rfl 0 rfl ?_
          refine qk_aloadn C dX3_isWord_29 30 rfl rfl 2 rfl ?_
          refine qk_callR C (fun H locs hP hS => qk_recvS C hi H locs hS) dX3_isWord_30 33 rfl ql_X3_47 qc_J0_length_8abf5 (c_J0_length_8abf5 l G _ i hi) rfl rfl (Nat.le_of_ble_eq_true rfl) ⟨(Nat.le_of_ble_eq_true rfl), (Nat.le_of_ble_eq_true rfl)⟩ (qx_Ki ?_)
          refine qk_icmp_ge C dX3_isWord_33 63 rfl 36 rfl (fun c_33 => ?_) (fun c_33 => ?_)
          · have hjl : qx_len.getD i 0 ≤ j := (nI_leI (by omega) (by omega)).mp c_33
            refine qk_iconst C (1) dX3_isWord_63 64 rfl rfl ?_
            exact hret _ _ _ _ dX3_isWord_64 ⟨congrArg (fun x => some (Value.int x)) ((qb_t (⟨c_5, hl, fun c hc => hj.2 c (by omega)⟩)).symm), rfl⟩ rfl
          · have hjl : j < qx_len.getD i 0 := Nat.not_le.mp (fun q => c_33 (nI_le q (by omega)))
            refine qk_aloadn C dX3_isWord_36 37 rfl rfl 1 rfl ?_
            refine qk_get C dX3_isWord_37 40 rfl qf_X3_9 40 (by decide) rfl rfl ?_
            refine qk_aloadn C dX3_isWord_40 41 rfl rfl 1 rfl ?_
            refine qk_get C dX3_isWord_41 44 rfl qf_X3_22 40 (by decide) rfl rfl ?_
            refine qk_cast (es) ?_
            refine qk_iloadn C dX3_isWord_44 45 rfl rfl 0 rfl ?_
            refine qk_iadd C dX3_isWord_45 46 rfl ?_
            refine qk_cast (nI_add _ _) ?_
            refine qk_iald C dX3_isWord_46 47 rfl 41 (by decide) (fun _ => rfl) (s + j) rfl (by omega) (by decide) ?_
            refine qk_cast (show _ = σ 41 (s + j) from rfl) ?_
            refine qk_aloadn C dX3_isWord_47 48 rfl rfl 2 rfl ?_
            refine qk_iloadn C dX3_isWord_48 49 rfl rfl 0 rfl ?_
            refine qk_callR C (fun H locs hP hS => qk_recvS C hi H locs hS) dX3_isWord_49 52 rfl ql_X3_52 qc_J0_charAt_5068e (c_J0_charAt_5068e l G _ i hi j hjl) rfl rfl (Nat.le_of_ble_eq_true rfl) ⟨(Nat.le_of_ble_eq_true rfl), (Nat.le_of_ble_eq_true rfl)⟩ (qx_Ki ?_)
            refine qk_icmp_eq C dX3_isWord_52 57 rfl 55 rfl (fun c_52 => ?_) (fun c_52 => ?_)
            · refine qk_iinc C (nI (j + 1)) dX3_isWord_57 60 rfl 0 rfl (nI_1 j) (by decide) rfl ?_
              refine qk_goto C dX3_isWord_60 28 rfl ?_
              exact ih_28 (j + 1) ⟨by omega, lt_s hj.2 c_52⟩ (by omega)
            · refine qk_iconst C (0) dX3_isWord_55 56 rfl rfl ?_
              exact hret _ _ _ _ dX3_isWord_56 ⟨congrArg (fun x => some (Value.int x)) ((qb_f (fun q => c_52 (q.2.2 j hjl))).symm), rfl⟩ rfl
      exact lp_28 _ 0 ⟨by omega, lt_0⟩ (Nat.lt_succ_self _)
    · have hl : ¬ e - s = qx_len.getD i 0 := fun q => c_21 (congrArg nI q)
      refine qk_iconst C (0) dX3_isWord_24 25 rfl rfl ?_
      exact hret _ _ _ _ dX3_isWord_25 ⟨congrArg (fun x => some (Value.int x)) ((qb_f (by first | exact fun q => c_5 q.1 | exact fun q => hl q.2.1)).symm), rfl⟩ rfl

theorem c_X6_isWord (l : Launch) (G : qx_G) (σ : qx_Sg) (i : Nat) (hi : i < 12) (s e : Nat) (hse : s ≤ e) (he : e ≤ 120) (es : σ 53 7 = nI s) (ee : σ 53 8 = nI e) : qx_Ct l G yX6_isWord cX6_isWord 4 (some .boolean) 4 85 [.ref (qx_ad G 53), .ref (qx_ad G (100 + i))] (σ) (qx_pi (qb (t_iw (σ 58) (σ 53 9) s e i)) (σ)) := by
  refine qx_of .boolean (lo := [(0, .ref (qx_ad G 53)), (1, .ref (qx_ad G (100 + i)))]) (by decide +kernel) (Nat.le_of_ble_eq_true rfl) rfl (fun Δ (C : qx_C G Δ cX6_isWord RX6 4 4 85) hret => ?_)
  have h8 := t_len8 hi
  refine qk_aloadn C dX6_isWord_0 1 rfl rfl 0 rfl ?_
  refine qk_get C dX6_isWord_1 4 rfl qf_X6_259 53 (by decide) rfl rfl ?_
  refine qk_iconst C (1) dX6_isWord_4 5 rfl rfl ?_
  refine qk_icmp_ne C dX6_isWord_5 28 rfl 8 rfl (fun c_5 => ?_) (fun c_5 => ?_)
  · refine qk_iconst C (0) dX6_isWord_28 29 rfl rfl ?_
    refine qk_istoren C dX6_isWord_29 30 rfl rfl (by decide) rfl ?_
    refine qk_iconst C (nI 0) dX6_isWord_30 31 rfl rfl ?_
    refine qk_istoren C dX6_isWord_31 32 rfl rfl (by decide) rfl ?_
    have lp_32 : ∀ (n_32 : Nat) (j : Nat) (a : Int32), (j ≤ qx_len.getD i 0 ∧ ((a = 1 ∧ σ 53 9 = 1 ∧ e - s = qx_len.getD i 0 ∧ ∀ c, c < j → σ 58 (s + c) = (qx_byt.getD i []).getD c 0) ∨ (a = 0 ∧ ¬ t_iw (σ 58) (σ 53 9) s e i))) → qx_len.getD i 0 - j < n_32 → qx_K l G Δ (σ) 32 [(3, .int (nI j)), (2, .int a), (0, .ref (qx_ad G 53)), (1, .ref (qx_ad G (100 + i)))] [] := by
      intro n_32
      induction n_32 with
      | zero => intro _ _ _ h9; exact absurd h9 (Nat.not_lt_zero _)
      | succ n_32 ih_32 =>
        intro j a hj hm_32
        rcases hj.2 with ⟨rfl, h1, h2, h3⟩ | ⟨rfl, h1⟩
        · refine qk_iloadn C dX6_isWord_32 33 rfl rfl 0 rfl ?_
          refine qk_aloadn C dX6_isWord_33 34 rfl rfl 3 rfl ?_
          refine qk_callR C (fun H locs hP hS => qk_recvS C hi H locs hS) dX6_isWord_34 37 rfl ql_X6_262 qc_J0_length_8abf5 (c_J0_length_8abf5 l G _ i hi) rfl rfl (Nat.le_of_ble_eq_true rfl) ⟨(Nat.le_of_ble_eq_true rfl), (Nat.le_of_ble_eq_true rfl)⟩ (qx_Ki ?_)
          refine qk_icmp_ge C dX6_isWord_37 75 rfl 40 rfl (fun c_37 => ?_) (fun c_37 => ?_)
          · have hjl : qx_len.getD i 0 ≤ j := (nI_leI (by omega) (by omega)).mp c_37
            refine qk_iloadn C dX6_isWord_75 76 rfl rfl 1 rfl ?_
            exact hret _ _ _ _ dX6_isWord_76 ⟨congrArg (fun x => some (Value.int x)) ((qb_t (⟨h1, h2, fun c hc => h3 c (by omega)⟩)).symm), rfl⟩ rfl
          · have hjl : j < qx_len.getD i 0 := Nat.not_le.mp (fun q => c_37 (nI_le q (by omega)))
            refine qk_iloadn C dX6_isWord_40 41 rfl rfl 1 rfl ?_
            refine qk_if_eq C dX6_isWord_41 75 rfl 44 rfl (fun c => absurd c (by decide)) (fun _ => ?_)
            refine qk_aloadn C dX6_isWord_44 45 rfl rfl 2 rfl ?_
            refine qk_get C dX6_isWord_45 48 rfl qf_X6_22 53 (by decide) rfl rfl ?_
            refine qk_aloadn C dX6_isWord_48 49 rfl rfl 2 rfl ?_
            refine qk_get C dX6_isWord_49 52 rfl qf_X6_250 53 (by decide) rfl rfl ?_
            refine qk_cast (es) ?_
            refine qk_iloadn C dX6_isWord_52 53 rfl rfl 0 rfl ?_
            refine qk_iadd C dX6_isWord_53 54 rfl ?_
            refine qk_cast (nI_add _ _) ?_
            refine qk_iald C dX6_isWord_54 55 rfl 58 (by decide) (fun _ => rfl) (s + j) rfl (by omega) (by decide) ?_
            refine qk_cast (show _ = σ 58 (s + j) from rfl) ?_
            refine qk_aloadn C dX6_isWord_55 56 rfl rfl 3 rfl ?_
            refine qk_iloadn C dX6_isWord_56 57 rfl rfl 0 rfl ?_
            refine qk_callR C (fun H locs hP hS => qk_recvS C hi H locs hS) dX6_isWord_57 60 rfl ql_X6_265 qc_J0_charAt_5068e (c_J0_charAt_5068e l G _ i hi j hjl) rfl rfl (Nat.le_of_ble_eq_true rfl) ⟨(Nat.le_of_ble_eq_true rfl), (Nat.le_of_ble_eq_true rfl)⟩ (qx_Ki ?_)
            refine qk_icmp_ne C dX6_isWord_60 67 rfl 63 rfl (fun c_60 => ?_) (fun c_60 => ?_)
            · refine qk_iconst C (0) dX6_isWord_67 68 rfl rfl ?_
              refine qk_istoren C dX6_isWord_68 69 rfl rfl (by decide) rfl ?_
              refine qk_iinc C (nI (j + 1)) dX6_isWord_69 72 rfl 1 rfl (nI_1 j) (by decide) rfl ?_
              refine qk_goto C dX6_isWord_72 32 rfl ?_
              exact ih_32 (j + 1) _ ⟨by omega, Or.inr ⟨rfl, fun q => c_60 (q.2.2 j hjl)⟩⟩ (by omega)
            · refine qk_iconst C (1) dX6_isWord_63 64 rfl rfl ?_
              refine qk_goto C dX6_isWord_64 68 rfl ?_
              refine qk_istoren C dX6_isWord_68 69 rfl rfl (by decide) rfl ?_
              refine qk_iinc C (nI (j + 1)) dX6_isWord_69 72 rfl 1 rfl (nI_1 j) (by decide) rfl ?_
              refine qk_goto C dX6_isWord_72 32 rfl ?_
              exact ih_32 (j + 1) _ ⟨by omega, Or.inl ⟨rfl, h1, h2, lt_s h3 c_60⟩⟩ (by omega)
        · refine qk_iloadn C dX6_isWord_32 33 rfl rfl 0 rfl ?_
          refine qk_aloadn C dX6_isWord_33 34 rfl rfl 3 rfl ?_
          refine qk_callR C (fun H locs hP hS => qk_recvS C hi H locs hS) dX6_isWord_34 37 rfl ql_X6_262 qc_J0_length_8abf5 (c_J0_length_8abf5 l G _ i hi) rfl rfl (Nat.le_of_ble_eq_true rfl) ⟨(Nat.le_of_ble_eq_true rfl), (Nat.le_of_ble_eq_true rfl)⟩ (qx_Ki ?_)
          refine qk_icmp_ge C dX6_isWord_37 75 rfl 40 rfl (fun c_37 => ?_) (fun c_37 => ?_)
          · have hjl : qx_len.getD i 0 ≤ j := (nI_leI (by omega) (by omega)).mp c_37
            refine qk_iloadn C dX6_isWord_75 76 rfl rfl 1 rfl ?_
            exact hret _ _ _ _ dX6_isWord_76 ⟨congrArg (fun x => some (Value.int x)) ((qb_f (h1)).symm), rfl⟩ rfl
          · have hjl : j < qx_len.getD i 0 := Nat.not_le.mp (fun q => c_37 (nI_le q (by omega)))
            refine qk_iloadn C dX6_isWord_40 41 rfl rfl 1 rfl ?_
            refine qk_if_eq C dX6_isWord_41 75 rfl 44 rfl (fun _ => ?_) (fun c => absurd rfl c)
            refine qk_iloadn C dX6_isWord_75 76 rfl rfl 1 rfl ?_
            exact hret _ _ _ _ dX6_isWord_76 ⟨congrArg (fun x => some (Value.int x)) ((qb_f (h1)).symm), rfl⟩ rfl
    exact lp_32 _ 0 _ ⟨by omega, Or.inr ⟨rfl, by first | exact fun q => c_5 q.1 | exact fun q => hl q.2.1⟩⟩ (Nat.lt_succ_self _)
  · refine qk_aloadn C dX6_isWord_8 9 rfl rfl 0 rfl ?_
    refine qk_get C dX6_isWord_9 12 rfl qf_X6_247 53 (by decide) rfl rfl ?_
    refine qk_cast (ee) ?_
    refine qk_aloadn C dX6_isWord_12 13 rfl rfl 0 rfl ?_
    refine qk_get C dX6_isWord_13 16 rfl qf_X6_250 53 (by decide) rfl rfl ?_
    refine qk_cast (es) ?_
    refine qk_isub C dX6_isWord_16 17 rfl ?_
    refine qk_cast (pk_sub hse) ?_
    refine qk_aloadn C dX6_isWord_17 18 rfl rfl 1 rfl ?_
    refine qk_callR C (fun H locs hP hS => qk_recvS C hi H locs hS) dX6_isWord_18 21 rfl ql_X6_262 qc_J0_length_8abf5 (c_J0_length_8abf5 l G _ i hi) rfl rfl (Nat.le_of_ble_eq_true rfl) ⟨(Nat.le_of_ble_eq_true rfl), (Nat.le_of_ble_eq_true rfl)⟩ (qx_Ki ?_)
    refine qk_icmp_ne C dX6_isWord_21 28 rfl 24 rfl (fun c_21 => ?_) (fun c_21 => ?_)
    · have hl : ¬ e - s = qx_len.getD i 0 := fun q => c_21 (congrArg nI q)
      refine qk_iconst C (0) dX6_isWord_28 29 rfl rfl ?_
      refine qk_istoren C dX6_isWord_29 30 rfl rfl (by decide) rfl ?_
      refine qk_iconst C (nI 0) dX6_isWord_30 31 rfl rfl ?_
      refine qk_istoren C dX6_isWord_31 32 rfl rfl (by decide) rfl ?_
      have lp_32 : ∀ (n_32 : Nat) (j : Nat) (a : Int32), (j ≤ qx_len.getD i 0 ∧ ((a = 1 ∧ σ 53 9 = 1 ∧ e - s = qx_len.getD i 0 ∧ ∀ c, c < j → σ 58 (s + c) = (qx_byt.getD i []).getD c 0) ∨ (a = 0 ∧ ¬ t_iw (σ 58) (σ 53 9) s e i))) → qx_len.getD i 0 - j < n_32 → qx_K l G Δ (σ) 32 [(3, .int (nI j)), (2, .int a), (0, .ref (qx_ad G 53)), (1, .ref (qx_ad G (100 + i)))] [] := by
        intro n_32
        induction n_32 with
        | zero => intro _ _ _ h9; exact absurd h9 (Nat.not_lt_zero _)
        | succ n_32 ih_32 =>
          intro j a hj hm_32
          rcases hj.2 with ⟨rfl, h1, h2, h3⟩ | ⟨rfl, h1⟩
          · refine qk_iloadn C dX6_isWord_32 33 rfl rfl 0 rfl ?_
            refine qk_aloadn C dX6_isWord_33 34 rfl rfl 3 rfl ?_
            refine qk_callR C (fun H locs hP hS => qk_recvS C hi H locs hS) dX6_isWord_34 37 rfl ql_X6_262 qc_J0_length_8abf5 (c_J0_length_8abf5 l G _ i hi) rfl rfl (Nat.le_of_ble_eq_true rfl) ⟨(Nat.le_of_ble_eq_true rfl), (Nat.le_of_ble_eq_true rfl)⟩ (qx_Ki ?_)
            refine qk_icmp_ge C dX6_isWord_37 75 rfl 40 rfl (fun c_37 => ?_) (fun c_37 => ?_)
            · have hjl : qx_len.getD i 0 ≤ j := (nI_leI (by omega) (by omega)).mp c_37
              refine qk_iloadn C dX6_isWord_75 76 rfl rfl 1 rfl ?_
              exact hret _ _ _ _ dX6_isWord_76 ⟨congrArg (fun x => some (Value.int x)) ((qb_t (⟨h1, h2, fun c hc => h3 c (by omega)⟩)).symm), rfl⟩ rfl
            · have hjl : j < qx_len.getD i 0 := Nat.not_le.mp (fun q => c_37 (nI_le q (by omega)))
              refine qk_iloadn C dX6_isWord_40 41 rfl rfl 1 rfl ?_
              refine qk_if_eq C dX6_isWord_41 75 rfl 44 rfl (fun c => absurd c (by decide)) (fun _ => ?_)
              refine qk_aloadn C dX6_isWord_44 45 rfl rfl 2 rfl ?_
              refine qk_get C dX6_isWord_45 48 rfl qf_X6_22 53 (by decide) rfl rfl ?_
              refine qk_aloadn C dX6_isWord_48 49 rfl rfl 2 rfl ?_
              refine qk_get C dX6_isWord_49 52 rfl qf_X6_250 53 (by decide) rfl rfl ?_
              refine qk_cast (es) ?_
              refine qk_iloadn C dX6_isWord_52 53 rfl rfl 0 rfl ?_
              refine qk_iadd C dX6_isWord_53 54 rfl ?_
              refine qk_cast (nI_add _ _) ?_
              refine qk_iald C dX6_isWord_54 55 rfl 58 (by decide) (fun _ => rfl) (s + j) rfl (by omega) (by decide) ?_
              refine qk_cast (show _ = σ 58 (s + j) from rfl) ?_
              refine qk_aloadn C dX6_isWord_55 56 rfl rfl 3 rfl ?_
              refine qk_iloadn C dX6_isWord_56 57 rfl rfl 0 rfl ?_
              refine qk_callR C (fun H locs hP hS => qk_recvS C hi H locs hS) dX6_isWord_57 60 rfl ql_X6_265 qc_J0_charAt_5068e (c_J0_charAt_5068e l G _ i hi j hjl) rfl rfl (Nat.le_of_ble_eq_true rfl) ⟨(Nat.le_of_ble_eq_true rfl), (Nat.le_of_ble_eq_true rfl)⟩ (qx_Ki ?_)
              refine qk_icmp_ne C dX6_isWord_60 67 rfl 63 rfl (fun c_60 => ?_) (fun c_60 => ?_)
              · refine qk_iconst C (0) dX6_isWord_67 68 rfl rfl ?_
                refine qk_istoren C dX6_isWord_68 69 rfl rfl (by decide) rfl ?_
                refine qk_iinc C (nI (j + 1)) dX6_isWord_69 72 rfl 1 rfl (nI_1 j) (by decide) rfl ?_
                refine qk_goto C dX6_isWord_72 32 rfl ?_
                exact ih_32 (j + 1) _ ⟨by omega, Or.inr ⟨rfl, fun q => c_60 (q.2.2 j hjl)⟩⟩ (by omega)
              · refine qk_iconst C (1) dX6_isWord_63 64 rfl rfl ?_
                refine qk_goto C dX6_isWord_64 68 rfl ?_
                refine qk_istoren C dX6_isWord_68 69 rfl rfl (by decide) rfl ?_
                refine qk_iinc C (nI (j + 1)) dX6_isWord_69 72 rfl 1 rfl (nI_1 j) (by decide) rfl ?_
                refine qk_goto C dX6_isWord_72 32 rfl ?_
                exact ih_32 (j + 1) _ ⟨by omega, Or.inl ⟨rfl, h1, h2, lt_s h3 c_60⟩⟩ (by omega)
          · refine qk_iloadn C dX6_isWord_32 33 rfl rfl 0 rfl ?_
            refine qk_aloadn C dX6_isWord_33 34 rfl rfl 3 rfl ?_
            refine qk_callR C (fun H locs hP hS => qk_recvS C hi H locs hS) dX6_isWord_34 37 rfl ql_X6_262 qc_J0_length_8abf5 (c_J0_length_8abf5 l G _ i hi) rfl rfl (Nat.le_of_ble_eq_true rfl) ⟨(Nat.le_of_ble_eq_true rfl), (Nat.le_of_ble_eq_true rfl)⟩ (qx_Ki ?_)
            refine qk_icmp_ge C dX6_isWord_37 75 rfl 40 rfl (fun c_37 => ?_) (fun c_37 => ?_)
            · have hjl : qx_len.getD i 0 ≤ j := (nI_leI (by omega) (by omega)).mp c_37
              refine qk_iloadn C dX6_isWord_75 76 rfl rfl 1 rfl ?_
              exact hret _ _ _ _ dX6_isWord_76 ⟨congrArg (fun x => some (Value.int x)) ((qb_f (h1)).symm), rfl⟩ rfl
            · have hjl : j < qx_len.getD i 0 := Nat.not_le.mp (fun q => c_37 (nI_le q (by omega)))
              refine qk_iloadn C dX6_isWord_40 41 rfl rfl 1 rfl ?_
              refine qk_if_eq C dX6_isWord_41 75 rfl 44 rfl (fun _ => ?_) (fun c => absurd rfl c)
              refine qk_iloadn C dX6_isWord_75 76 rfl rfl 1 rfl ?_
              exact hret _ _ _ _ dX6_isWord_76 ⟨congrArg (fun x => some (Value.int x)) ((qb_f (h1)).symm), rfl⟩ rfl
      exact lp_32 _ 0 _ ⟨by omega, Or.inr ⟨rfl, by first | exact fun q => c_5 q.1 | exact fun q => hl q.2.1⟩⟩ (Nat.lt_succ_self _)
    · have hl : e - s = qx_len.getD i 0 := (nI_eq (by omega) (by omega)).mp c_21
      refine qk_iconst C (1) dX6_isWord_24 25 rfl rfl ?_
      refine qk_goto C dX6_isWord_25 29 rfl ?_
      refine qk_istoren C dX6_isWord_29 30 rfl rfl (by decide) rfl ?_
      refine qk_iconst C (nI 0) dX6_isWord_30 31 rfl rfl ?_
      refine qk_istoren C dX6_isWord_31 32 rfl rfl (by decide) rfl ?_
      have lp_32 : ∀ (n_32 : Nat) (j : Nat) (a : Int32), (j ≤ qx_len.getD i 0 ∧ ((a = 1 ∧ σ 53 9 = 1 ∧ e - s = qx_len.getD i 0 ∧ ∀ c, c < j → σ 58 (s + c) = (qx_byt.getD i []).getD c 0) ∨ (a = 0 ∧ ¬ t_iw (σ 58) (σ 53 9) s e i))) → qx_len.getD i 0 - j < n_32 → qx_K l G Δ (σ) 32 [(3, .int (nI j)), (2, .int a), (0, .ref (qx_ad G 53)), (1, .ref (qx_ad G (100 + i)))] [] := by
        intro n_32
        induction n_32 with
        | zero => intro _ _ _ h9; exact absurd h9 (Nat.not_lt_zero _)
        | succ n_32 ih_32 =>
          intro j a hj hm_32
          rcases hj.2 with ⟨rfl, h1, h2, h3⟩ | ⟨rfl, h1⟩
          · refine qk_iloadn C dX6_isWord_32 33 rfl rfl 0 rfl ?_
            refine qk_aloadn C dX6_isWord_33 34 rfl rfl 3 rfl ?_
            refine qk_callR C (fun H locs hP hS => qk_recvS C hi H locs hS) dX6_isWord_34 37 rfl ql_X6_262 qc_J0_length_8abf5 (c_J0_length_8abf5 l G _ i hi) rfl rfl (Nat.le_of_ble_eq_true rfl) ⟨(Nat.le_of_ble_eq_true rfl), (Nat.le_of_ble_eq_true rfl)⟩ (qx_Ki ?_)
            refine qk_icmp_ge C dX6_isWord_37 75 rfl 40 rfl (fun c_37 => ?_) (fun c_37 => ?_)
            · have hjl : qx_len.getD i 0 ≤ j := (nI_leI (by omega) (by omega)).mp c_37
              refine qk_iloadn C dX6_isWord_75 76 rfl rfl 1 rfl ?_
              exact hret _ _ _ _ dX6_isWord_76 ⟨congrArg (fun x => some (Value.int x)) ((qb_t (⟨h1, h2, fun c hc => h3 c (by omega)⟩)).symm), rfl⟩ rfl
            · have hjl : j < qx_len.getD i 0 := Nat.not_le.mp (fun q => c_37 (nI_le q (by omega)))
              refine qk_iloadn C dX6_isWord_40 41 rfl rfl 1 rfl ?_
              refine qk_if_eq C dX6_isWord_41 75 rfl 44 rfl (fun c => absurd c (by decide)) (fun _ => ?_)
              refine qk_aloadn C dX6_isWord_44 45 rfl rfl 2 rfl ?_
              refine qk_get C dX6_isWord_45 48 rfl qf_X6_22 53 (by decide) rfl rfl ?_
              refine qk_aloadn C dX6_isWord_48 49 rfl rfl 2 rfl ?_
              refine qk_get C dX6_isWord_49 52 rfl qf_X6_250 53 (by decide) rfl rfl ?_
              refine qk_cast (es) ?_
              refine qk_iloadn C dX6_isWord_52 53 rfl rfl 0 rfl ?_
              refine qk_iadd C dX6_isWord_53 54 rfl ?_
              refine qk_cast (nI_add _ _) ?_
              refine qk_iald C dX6_isWord_54 55 rfl 58 (by decide) (fun _ => rfl) (s + j) rfl (by omega) (by decide) ?_
              refine qk_cast (show _ = σ 58 (s + j) from rfl) ?_
              refine qk_aloadn C dX6_isWord_55 56 rfl rfl 3 rfl ?_
              refine qk_iloadn C dX6_isWord_56 57 rfl rfl 0 rfl ?_
              refine qk_callR C (fun H locs hP hS => qk_recvS C hi H locs hS) dX6_isWord_57 60 rfl ql_X6_265 qc_J0_charAt_5068e (c_J0_charAt_5068e l G _ i hi j hjl) rfl rfl (Nat.le_of_ble_eq_true rfl) ⟨(Nat.le_of_ble_eq_true rfl), (Nat.le_of_ble_eq_true rfl)⟩ (qx_Ki ?_)
              refine qk_icmp_ne C dX6_isWord_60 67 rfl 63 rfl (fun c_60 => ?_) (fun c_60 => ?_)
              · refine qk_iconst C (0) dX6_isWord_67 68 rfl rfl ?_
                refine qk_istoren C dX6_isWord_68 69 rfl rfl (by decide) rfl ?_
                refine qk_iinc C (nI (j + 1)) dX6_isWord_69 72 rfl 1 rfl (nI_1 j) (by decide) rfl ?_
                refine qk_goto C dX6_isWord_72 32 rfl ?_
                exact ih_32 (j + 1) _ ⟨by omega, Or.inr ⟨rfl, fun q => c_60 (q.2.2 j hjl)⟩⟩ (by omega)
              · refine qk_iconst C (1) dX6_isWord_63 64 rfl rfl ?_
                refine qk_goto C dX6_isWord_64 68 rfl ?_
                refine qk_istoren C dX6_isWord_68 69 rfl rfl (by decide) rfl ?_
                refine qk_iinc C (nI (j + 1)) dX6_isWord_69 72 rfl 1 rfl (nI_1 j) (by decide) rfl ?_
                refine qk_goto C dX6_isWord_72 32 rfl ?_
                exact ih_32 (j + 1) _ ⟨by omega, Or.inl ⟨rfl, h1, h2, lt_s h3 c_60⟩⟩ (by omega)
          · refine qk_iloadn C dX6_isWord_32 33 rfl rfl 0 rfl ?_
            refine qk_aloadn C dX6_isWord_33 34 rfl rfl 3 rfl ?_
            refine qk_callR C (fun H locs hP hS => qk_recvS C hi H locs hS) dX6_isWord_34 37 rfl ql_X6_262 qc_J0_length_8abf5 (c_J0_length_8abf5 l G _ i hi) rfl rfl (Nat.le_of_ble_eq_true rfl) ⟨(Nat.le_of_ble_eq_true rfl), (Nat.le_of_ble_eq_true rfl)⟩ (qx_Ki ?_)
            refine qk_icmp_ge C dX6_isWord_37 75 rfl 40 rfl (fun c_37 => ?_) (fun c_37 => ?_)
            · have hjl : qx_len.getD i 0 ≤ j := (nI_leI (by omega) (by omega)).mp c_37
              refine qk_iloadn C dX6_isWord_75 76 rfl rfl 1 rfl ?_
              exact hret _ _ _ _ dX6_isWord_76 ⟨congrArg (fun x => some (Value.int x)) ((qb_f (h1)).symm), rfl⟩ rfl
            · have hjl : j < qx_len.getD i 0 := Nat.not_le.mp (fun q => c_37 (nI_le q (by omega)))
              refine qk_iloadn C dX6_isWord_40 41 rfl rfl 1 rfl ?_
              refine qk_if_eq C dX6_isWord_41 75 rfl 44 rfl (fun _ => ?_) (fun c => absurd rfl c)
              refine qk_iloadn C dX6_isWord_75 76 rfl rfl 1 rfl ?_
              exact hret _ _ _ _ dX6_isWord_76 ⟨congrArg (fun x => some (Value.int x)) ((qb_f (h1)).symm), rfl⟩ rfl
      exact lp_32 _ 0 _ ⟨by omega, Or.inl ⟨rfl, c_5, hl, lt_0⟩⟩ (Nat.lt_succ_self _)

