/-! the methods of BustRest: what they share, and those that are about the library's row -/
theorem z_in_6 {k : Nat} (hk : k < 7) : z_in (nI k) 6 := z_in_nI (n := 6) (by omega) (by omega)
theorem c_X5_within (l : Launch) (G : qx_G) (σ : qx_Sg) (v m : Int32) : qx_Ct l G yX5_within cX5_within 2 (some .boolean) 0 0 [.int v, .int m] (σ) (qx_pi (qb (z_in v m)) (σ)) := by
  refine qx_of .boolean (lo := [(0, .int v), (1, .int m)]) (by decide +kernel) (Nat.le_of_ble_eq_true rfl) rfl (fun Δ (C : qx_C G Δ cX5_within RX5 2 0 0) hret => ?_)
  refine qk_iloadn C dX5_within_0 1 rfl rfl 0 rfl ?_
  refine qk_if_lt C dX5_within_1 13 rfl 4 rfl (fun c_1 => ?_) (fun c_1 => ?_)
  · refine qk_iconst C (0) dX5_within_13 14 rfl rfl ?_
    exact hret _ _ _ _ dX5_within_14 ⟨congrArg (fun x => some (Value.int x)) ((qb_f (by first | exact ⟨c_1, c_6⟩ | exact fun q => q.1 c_1 | exact fun q => q.2 c_6)).symm), rfl⟩ rfl
  · refine qk_iloadn C dX5_within_4 5 rfl rfl 0 rfl ?_
    refine qk_iloadn C dX5_within_5 6 rfl rfl 1 rfl ?_
    refine qk_icmp_gt C dX5_within_6 13 rfl 9 rfl (fun c_6 => ?_) (fun c_6 => ?_)
    · refine qk_iconst C (0) dX5_within_13 14 rfl rfl ?_
      exact hret _ _ _ _ dX5_within_14 ⟨congrArg (fun x => some (Value.int x)) ((qb_f (by first | exact ⟨c_1, c_6⟩ | exact fun q => q.1 c_1 | exact fun q => q.2 c_6)).symm), rfl⟩ rfl
    · refine qk_iconst C (1) dX5_within_9 10 rfl rfl ?_
      refine qk_goto C dX5_within_10 14 rfl ?_
      exact hret _ _ _ _ dX5_within_14 ⟨congrArg (fun x => some (Value.int x)) ((qb_t (by first | exact ⟨c_1, c_6⟩ | exact fun q => q.1 c_1 | exact fun q => q.2 c_6)).symm), rfl⟩ rfl

theorem c_X5_found (l : Launch) (G : qx_G) (σ : qx_Sg) (x : Int32) (k : Nat) (hk : k < 7) (hx : -1000001 - x = nI k) : qx_Ct l G yX5_found cX5_found 3 (some .int) 1 21 [.ref (qx_ad G 0), .int x] (σ) (qx_pi (x) (va_up σ 52 (upd (σ 52) k (σ 52 k + 1)))) := by
  refine qx_of .int (lo := [(0, .ref (qx_ad G 0)), (1, .int x)]) (by decide +kernel) (Nat.le_of_ble_eq_true rfl) rfl (fun Δ (C : qx_C G Δ cX5_found RX5 3 1 21) hret => ?_)
  refine qk_ldc C dX5_found_0 2 rfl qw_321 ?_
  refine qk_iloadn C dX5_found_2 3 rfl rfl 1 rfl ?_
  refine qk_isub C dX5_found_3 4 rfl ?_
  refine qk_cast (hx) ?_
  refine qk_istoren C dX5_found_4 5 rfl rfl (by decide) rfl ?_
  refine qk_iloadn C dX5_found_5 6 rfl rfl 0 rfl ?_
  refine qk_bipush C (6) dX5_found_6 8 rfl rfl ?_
  refine qk_callS C dX5_found_8 11 rfl ql_X5_53 qc_X5_within (c_X5_within l G _ _ _) rfl rfl (Nat.le_of_ble_eq_true rfl) ⟨(Nat.le_of_ble_eq_true rfl), (Nat.le_of_ble_eq_true rfl)⟩ (qx_Ki ?_)
  refine qk_if_eqB C dX5_found_11 24 rfl 14 rfl (fun c_11 => False.elim (absurd (z_in_6 hk) c_11)) (fun c_11 => ?_)
  refine qk_aloadn C dX5_found_14 15 rfl rfl 1 rfl ?_
  refine qk_get C dX5_found_15 18 rfl qf_X5_48 0 (by decide) rfl rfl ?_
  refine qk_iloadn C dX5_found_18 19 rfl rfl 0 rfl ?_
  refine qk_dup2 C dX5_found_19 20 rfl rfl rfl ?_
  refine qk_iald C dX5_found_20 21 rfl 52 (by decide) (fun _ => rfl) k rfl hk (by decide) ?_
  refine qk_iconst C (1) dX5_found_21 22 rfl rfl ?_
  refine qk_iadd C dX5_found_22 23 rfl ?_
  refine qk_iast C dX5_found_23 24 rfl 52 (by decide) (fun _ => rfl) k rfl hk (by decide) ?_
  refine qk_iloadn C dX5_found_24 25 rfl rfl 2 rfl ?_
  exact hret _ _ _ _ dX5_found_25 ⟨congrArg (fun x => some (Value.int x)) (by first | rfl | (simp [c_11]; done) | (simp [c_11]; decide) | (simp [c_11]; rfl) | (simp_all []; done)), rfl⟩ rfl

theorem c_X5_isBust (l : Launch) (G : qx_G) (σ : qx_Sg) (N : Nat) (w : Nat → Int32) (hI : qv_ok w N) (b : Int32) : qx_Ct l G yX5_isBust cX5_isBust 2 (some .boolean) 0 0 [.ref (qx_ad G 0), .int b] (qL σ 1 N w) (qx_pi (qb (z_ib N b)) (qL σ 1 N w)) := by
  refine qx_of .boolean (lo := [(0, .ref (qx_ad G 0)), (1, .int b)]) (by decide +kernel) (Nat.le_of_ble_eq_true rfl) rfl (fun Δ (C : qx_C G Δ cX5_isBust RX5 2 0 0) hret => ?_)
  have hL : qx_isL 1 := Or.inl rfl
  have hM : qx_isL 14 := Or.inr (Or.inl rfl)
  have hN8 := hI.1
  have hN1 := hI.2.1
  refine qk_iloadn C dX5_isBust_0 1 rfl rfl 1 rfl ?_
  refine qk_if_lt C dX5_isBust_1 19 rfl 4 rfl (fun c_1 => ?_) (fun c_1 => ?_)
  · refine qk_iconst C (0) dX5_isBust_19 20 rfl rfl ?_
    exact hret _ _ _ _ dX5_isBust_20 ⟨congrArg (fun x => some (Value.int x)) ((qb_f (by first | exact ⟨c_1, c_12⟩ | exact fun q => q.1 c_1 | exact fun q => q.2 c_12)).symm), rfl⟩ rfl
  · refine qk_iloadn C dX5_isBust_4 5 rfl rfl 1 rfl ?_
    refine qk_aloadn C dX5_isBust_5 6 rfl rfl 0 rfl ?_
    refine qk_get C dX5_isBust_6 9 rfl qf_X5_12 0 (by decide) rfl rfl ?_
    refine qk_get C dX5_isBust_9 12 rfl qf_X5_175 _ hL.l65 (qx_Fl hL _) rfl ?_
    refine qk_cast qL_j3 ?_
    refine qk_cast hN1 ?_
    refine qk_icmp_ge C dX5_isBust_12 19 rfl 15 rfl (fun c_12 => ?_) (fun c_12 => ?_)
    · refine qk_iconst C (0) dX5_isBust_19 20 rfl rfl ?_
      exact hret _ _ _ _ dX5_isBust_20 ⟨congrArg (fun x => some (Value.int x)) ((qb_f (by first | exact ⟨c_1, c_12⟩ | exact fun q => q.1 c_1 | exact fun q => q.2 c_12)).symm), rfl⟩ rfl
    · refine qk_iconst C (1) dX5_isBust_15 16 rfl rfl ?_
      refine qk_goto C dX5_isBust_16 20 rfl ?_
      exact hret _ _ _ _ dX5_isBust_20 ⟨congrArg (fun x => some (Value.int x)) ((qb_t (by first | exact ⟨c_1, c_12⟩ | exact fun q => q.1 c_1 | exact fun q => q.2 c_12)).symm), rfl⟩ rfl

theorem c_X5_beginTrial (l : Launch) (G : qx_G) (τ : qx_Sg) (N : Nat) (w : Nat → Int32) (hI : qv_ok w N) (hH : qH τ 1 N w) : qx_Ct l G yX5_beginTrial cX5_beginTrial 1 none 2 82 [.ref (qx_ad G 0)] (τ) (qx_pv (qL τ 14 N w)) := by
  refine qx_ofV (lo := [(0, .ref (qx_ad G 0))]) (by decide +kernel) (Nat.le_of_ble_eq_true rfl) rfl (fun Δ (C : qx_C G Δ cX5_beginTrial RX5 1 2 82) hret => ?_)
  have hL : qx_isL 1 := Or.inl rfl
  have hM : qx_isL 14 := Or.inr (Or.inl rfl)
  have hN8 := hI.1
  have hN1 := hI.2.1
  refine qk_aloadn C dX5_beginTrial_0 1 rfl rfl 0 rfl ?_
  refine qk_get C dX5_beginTrial_1 4 rfl qf_X5_16 0 (by decide) rfl rfl ?_
  refine qk_aloadn C dX5_beginTrial_4 5 rfl rfl 0 rfl ?_
  refine qk_get C dX5_beginTrial_5 8 rfl qf_X5_12 0 (by decide) rfl rfl ?_
  refine qk_callV C dX5_beginTrial_8 11 rfl ql_X5_210 qc_X1_copyFrom _ hM.l65 (qx_Fl hM _) rfl (c_X1_copyFrom l G 14 1 N hM hL (by decide) τ w hI hH) rfl rfl (Nat.le_of_ble_eq_true rfl) ⟨(Nat.le_of_ble_eq_true rfl), (Nat.le_of_ble_eq_true rfl)⟩ (qx_Kv ?_)
  exact hret _ _ _ dX5_beginTrial_11 ⟨rfl, rfl⟩

theorem c_X5_bequest (l : Launch) (G : qx_G) (σ : qx_Sg) (N : Nat) (w : Nat → Int32) (hI : qv_ok w N) (hH : qH σ 1 N w) (i p : Int32) : qx_Ct l G yX5_bequest cX5_bequest 4 (some .int) 2 43 [.ref (qx_ad G 0), .int i, .int p] (σ) (qPx σ (S_bequest N w i p)) := by
  refine qx_of .int (lo := [(0, .ref (qx_ad G 0)), (1, .int i), (2, .int p)]) (by decide +kernel) (Nat.le_of_ble_eq_true rfl) rfl (fun Δ (C : qx_C G Δ cX5_bequest RX5 4 2 43) hret => ?_)
  have hL : qx_isL 1 := Or.inl rfl
  have hM : qx_isL 14 := Or.inr (Or.inl rfl)
  have hN8 := hI.1
  have hN1 := hI.2.1
  have hT : qTr σ (qL σ 1 N w) := qTr.rf.li hN8
  have hW : qH (qL σ 1 N w) 1 N w := qH_qL
  refine qk_cg (qL σ 1 N w) (qH_w hH hL hN8) ?_
  refine qk_iloadn C dX5_bequest_0 1 rfl rfl 1 rfl ?_
  refine qk_iconst C (5) dX5_bequest_1 2 rfl rfl ?_
  refine qk_callS C dX5_bequest_2 5 rfl ql_X5_53 qc_X5_within (c_X5_within l G _ _ _) rfl rfl (Nat.le_of_ble_eq_true rfl) ⟨(Nat.le_of_ble_eq_true rfl), (Nat.le_of_ble_eq_true rfl)⟩ (qx_Ki ?_)
  refine qk_if_eqB C dX5_bequest_5 17 rfl 8 rfl (fun c_5 => ?_) (fun c_5 => ?_)
  · refine qk_aloadn C dX5_bequest_17 18 rfl rfl 0 rfl ?_
    refine qk_ldc C dX5_bequest_18 20 rfl qw_321 ?_
    refine qk_callV C dX5_bequest_20 23 rfl ql_X5_58 qc_X5_found 0 (by decide) rfl rfl (c_X5_found l G _ _ 0 (by decide) (by decide)) rfl rfl (Nat.le_of_ble_eq_true rfl) ⟨(Nat.le_of_ble_eq_true rfl), (Nat.le_of_ble_eq_true rfl)⟩ (qx_Ki ?_)
    exact hret _ _ _ _ dX5_bequest_23 (qPx_bad 0 hN8 ((zif_f (by first | exact fun q => c_5 q.1 | exact fun q => c_14 q.2))) rfl hT hW) rfl
  · refine qk_iloadn C dX5_bequest_8 9 rfl rfl 2 rfl ?_
    refine qk_bipush C (12) dX5_bequest_9 11 rfl rfl ?_
    refine qk_callS C dX5_bequest_11 14 rfl ql_X5_53 qc_X5_within (c_X5_within l G _ _ _) rfl rfl (Nat.le_of_ble_eq_true rfl) ⟨(Nat.le_of_ble_eq_true rfl), (Nat.le_of_ble_eq_true rfl)⟩ (qx_Ki ?_)
    refine qk_if_neB C dX5_bequest_14 24 rfl 17 rfl (fun c_14 => ?_) (fun c_14 => ?_)
    · obtain ⟨ji, hji, rfl⟩ := z_in_ex 5 rfl (by omega) c_5
      obtain ⟨jp, hjp, rfl⟩ := z_in_ex 12 rfl (by omega) c_14
      refine qk_aloadn C dX5_bequest_24 25 rfl rfl 0 rfl ?_
      refine qk_get C dX5_bequest_25 28 rfl qf_X5_12 0 (by decide) rfl rfl ?_
      refine qk_get C dX5_bequest_28 31 rfl qf_X5_62 _ hL.l65 (qx_Fl hL _) rfl ?_
      refine qk_iloadn C dX5_bequest_31 32 rfl rfl 1 rfl ?_
      refine qk_iald C dX5_bequest_32 33 rfl (1 + 1) hL.l1 (qx_Fl1 hL) (ji) rfl (by omega) (by decide) ?_
      refine qk_cast (qL_a1 (ji)) ?_
      refine qk_istoren C dX5_bequest_33 34 rfl rfl (by decide) rfl ?_
      refine qk_aloadn C dX5_bequest_34 35 rfl rfl 1 rfl ?_
      refine qk_get C dX5_bequest_35 38 rfl qf_X5_12 0 (by decide) rfl rfl ?_
      refine qk_get C dX5_bequest_38 41 rfl qf_X5_62 _ hL.l65 (qx_Fl hL _) rfl ?_
      refine qk_iloadn C dX5_bequest_41 42 rfl rfl 2 rfl ?_
      refine qk_iloadn C dX5_bequest_42 43 rfl rfl 3 rfl ?_
      refine qk_iast C dX5_bequest_43 44 rfl (1 + 1) hL.l1 (qx_Fl1 hL) (ji) rfl (by omega) (by decide) ?_
      refine qk_cg _ (qL_w1 hL hN8 (ji) (by omega) _) ?_
      refine qk_iloadn C dX5_bequest_44 45 rfl rfl 0 rfl ?_
      exact hret _ _ _ _ dX5_bequest_45 (qPx_ok ((zif_t ⟨c_5, c_14⟩).trans (by rw [zn_nI (show ji < 2 ^ 31 by omega)])) rfl (qTr.rf.li hN8) qH_qL) rfl
    · refine qk_aloadn C dX5_bequest_17 18 rfl rfl 0 rfl ?_
      refine qk_ldc C dX5_bequest_18 20 rfl qw_321 ?_
      refine qk_callV C dX5_bequest_20 23 rfl ql_X5_58 qc_X5_found 0 (by decide) rfl rfl (c_X5_found l G _ _ 0 (by decide) (by decide)) rfl rfl (Nat.le_of_ble_eq_true rfl) ⟨(Nat.le_of_ble_eq_true rfl), (Nat.le_of_ble_eq_true rfl)⟩ (qx_Ki ?_)
      exact hret _ _ _ _ dX5_bequest_23 (qPx_bad 0 hN8 ((zif_f (by first | exact fun q => c_5 q.1 | exact fun q => c_14 q.2))) rfl hT hW) rfl

theorem c_X5_listed (l : Launch) (G : qx_G) (σ : qx_Sg) (N : Nat) (w : Nat → Int32) (hI : qv_ok w N) (hH : qH σ 1 N w) (i : Int32) : qx_Ct l G yX5_listed cX5_listed 2 (some .int) 2 43 [.ref (qx_ad G 0), .int i] (σ) (qPx σ (S_listed N w i)) := by
  refine qx_of .int (lo := [(0, .ref (qx_ad G 0)), (1, .int i)]) (by decide +kernel) (Nat.le_of_ble_eq_true rfl) rfl (fun Δ (C : qx_C G Δ cX5_listed RX5 2 2 43) hret => ?_)
  have hL : qx_isL 1 := Or.inl rfl
  have hM : qx_isL 14 := Or.inr (Or.inl rfl)
  have hN8 := hI.1
  have hN1 := hI.2.1
  have hT : qTr σ (qL σ 1 N w) := qTr.rf.li hN8
  have hW : qH (qL σ 1 N w) 1 N w := qH_qL
  refine qk_cg (qL σ 1 N w) (qH_w hH hL hN8) ?_
  refine qk_iloadn C dX5_listed_0 1 rfl rfl 1 rfl ?_
  refine qk_iconst C (5) dX5_listed_1 2 rfl rfl ?_
  refine qk_callS C dX5_listed_2 5 rfl ql_X5_53 qc_X5_within (c_X5_within l G _ _ _) rfl rfl (Nat.le_of_ble_eq_true rfl) ⟨(Nat.le_of_ble_eq_true rfl), (Nat.le_of_ble_eq_true rfl)⟩ (qx_Ki ?_)
  refine qk_if_eqB C dX5_listed_5 20 rfl 8 rfl (fun c_5 => ?_) (fun c_5 => ?_)
  · refine qk_aloadn C dX5_listed_20 21 rfl rfl 0 rfl ?_
    refine qk_ldc C dX5_listed_21 23 rfl qw_321 ?_
    refine qk_callV C dX5_listed_23 26 rfl ql_X5_58 qc_X5_found 0 (by decide) rfl rfl (c_X5_found l G _ _ 0 (by decide) (by decide)) rfl rfl (Nat.le_of_ble_eq_true rfl) ⟨(Nat.le_of_ble_eq_true rfl), (Nat.le_of_ble_eq_true rfl)⟩ (qx_Ki ?_)
    exact hret _ _ _ _ dX5_listed_26 (qPx_bad 0 hN8 (zif_f c_5) rfl hT hW) rfl
  · obtain ⟨ji, hji, rfl⟩ := z_in_ex 5 rfl (by omega) c_5
    refine qk_aloadn C dX5_listed_8 9 rfl rfl 0 rfl ?_
    refine qk_get C dX5_listed_9 12 rfl qf_X5_12 0 (by decide) rfl rfl ?_
    refine qk_get C dX5_listed_12 15 rfl qf_X5_62 _ hL.l65 (qx_Fl hL _) rfl ?_
    refine qk_iloadn C dX5_listed_15 16 rfl rfl 1 rfl ?_
    refine qk_iald C dX5_listed_16 17 rfl (1 + 1) hL.l1 (qx_Fl1 hL) (ji) rfl (by omega) (by decide) ?_
    refine qk_cast (qL_a1 (ji)) ?_
    refine qk_goto C dX5_listed_17 26 rfl ?_
    exact hret _ _ _ _ dX5_listed_26 (qPx_ok ((zif_t c_5).trans (by rw [zn_nI (show ji < 2 ^ 31 by omega)])) rfl hT hW) rfl

theorem c_X5_stored (l : Launch) (G : qx_G) (σ : qx_Sg) (N : Nat) (w : Nat → Int32) (hI : qv_ok w N) (hH : qH σ 1 N w) (p : Int32) : qx_Ct l G yX5_stored cX5_stored 2 (some .int) 2 43 [.ref (qx_ad G 0), .int p] (σ) (qPx σ (S_stored N w p)) := by
  refine qx_of .int (lo := [(0, .ref (qx_ad G 0)), (1, .int p)]) (by decide +kernel) (Nat.le_of_ble_eq_true rfl) rfl (fun Δ (C : qx_C G Δ cX5_stored RX5 2 2 43) hret => ?_)
  have hL : qx_isL 1 := Or.inl rfl
  have hM : qx_isL 14 := Or.inr (Or.inl rfl)
  have hN8 := hI.1
  have hN1 := hI.2.1
  have hT : qTr σ (qL σ 1 N w) := qTr.rf.li hN8
  have hW : qH (qL σ 1 N w) 1 N w := qH_qL
  refine qk_cg (qL σ 1 N w) (qH_w hH hL hN8) ?_
  refine qk_iloadn C dX5_stored_0 1 rfl rfl 1 rfl ?_
  refine qk_bipush C (11) dX5_stored_1 3 rfl rfl ?_
  refine qk_callS C dX5_stored_3 6 rfl ql_X5_53 qc_X5_within (c_X5_within l G _ _ _) rfl rfl (Nat.le_of_ble_eq_true rfl) ⟨(Nat.le_of_ble_eq_true rfl), (Nat.le_of_ble_eq_true rfl)⟩ (qx_Ki ?_)
  refine qk_if_eqB C dX5_stored_6 21 rfl 9 rfl (fun c_6 => ?_) (fun c_6 => ?_)
  · refine qk_aloadn C dX5_stored_21 22 rfl rfl 0 rfl ?_
    refine qk_ldc C dX5_stored_22 24 rfl qw_321 ?_
    refine qk_callV C dX5_stored_24 27 rfl ql_X5_58 qc_X5_found 0 (by decide) rfl rfl (c_X5_found l G _ _ 0 (by decide) (by decide)) rfl rfl (Nat.le_of_ble_eq_true rfl) ⟨(Nat.le_of_ble_eq_true rfl), (Nat.le_of_ble_eq_true rfl)⟩ (qx_Ki ?_)
    exact hret _ _ _ _ dX5_stored_27 (qPx_bad 0 hN8 (zif_f c_6) rfl hT hW) rfl
  · obtain ⟨jp, hjp, rfl⟩ := z_in_ex 11 rfl (by omega) c_6
    refine qk_aloadn C dX5_stored_9 10 rfl rfl 0 rfl ?_
    refine qk_get C dX5_stored_10 13 rfl qf_X5_12 0 (by decide) rfl rfl ?_
    refine qk_get C dX5_stored_13 16 rfl qf_X5_65 _ hL.l65 (qx_Fl hL _) rfl ?_
    refine qk_iloadn C dX5_stored_16 17 rfl rfl 1 rfl ?_
    refine qk_iald C dX5_stored_17 18 rfl (1 + 2) hL.l2 (qx_Fl2 hL) (jp) rfl (by omega) (by decide) ?_
    refine qk_cast (qL_a2 (jp)) ?_
    refine qk_goto C dX5_stored_18 27 rfl ?_
    exact hret _ _ _ _ dX5_stored_27 (qPx_ok ((zif_t c_6).trans (by rw [zn_nI (show jp < 2 ^ 31 by omega)])) rfl hT hW) rfl

theorem c_X5_bust (l : Launch) (G : qx_G) (σ : qx_Sg) (N : Nat) (w : Nat → Int32) (hI : qv_ok w N) (hH : qH σ 1 N w) (k d : Int32) : qx_Ct l G yX5_bust cX5_bust 4 (some .int) 2 44 [.ref (qx_ad G 0), .int k, .int d] (σ) (qPx σ (S_bust N w k d)) := by
  refine qx_of .int (lo := [(0, .ref (qx_ad G 0)), (1, .int k), (2, .int d)]) (by decide +kernel) (Nat.le_of_ble_eq_true rfl) rfl (fun Δ (C : qx_C G Δ cX5_bust RX5 4 2 44) hret => ?_)
  have hL : qx_isL 1 := Or.inl rfl
  have hM : qx_isL 14 := Or.inr (Or.inl rfl)
  have hN8 := hI.1
  have hN1 := hI.2.1
  have hT : qTr σ (qL σ 1 N w) := qTr.rf.li hN8
  have hW : qH (qL σ 1 N w) 1 N w := qH_qL
  refine qk_cg (qL σ 1 N w) (qH_w hH hL hN8) ?_
  refine qk_iloadn C dX5_bust_0 1 rfl rfl 1 rfl ?_
  refine qk_bipush C (6) dX5_bust_1 3 rfl rfl ?_
  refine qk_callS C dX5_bust_3 6 rfl ql_X5_53 qc_X5_within (c_X5_within l G _ _ _) rfl rfl (Nat.le_of_ble_eq_true rfl) ⟨(Nat.le_of_ble_eq_true rfl), (Nat.le_of_ble_eq_true rfl)⟩ (qx_Ki ?_)
  refine qk_if_eqB C dX5_bust_6 19 rfl 9 rfl (fun c_6 => ?_) (fun c_6 => ?_)
  · refine qk_aloadn C dX5_bust_19 20 rfl rfl 0 rfl ?_
    refine qk_ldc C dX5_bust_20 22 rfl qw_321 ?_
    refine qk_callV C dX5_bust_22 25 rfl ql_X5_58 qc_X5_found 0 (by decide) rfl rfl (c_X5_found l G _ _ 0 (by decide) (by decide)) rfl rfl (Nat.le_of_ble_eq_true rfl) ⟨(Nat.le_of_ble_eq_true rfl), (Nat.le_of_ble_eq_true rfl)⟩ (qx_Ki ?_)
    exact hret _ _ _ _ dX5_bust_25 (qPx_bad 0 hN8 ((zif_f (by first | exact fun q => c_6 q.1 | exact fun q => c_16 q.2))) rfl hT hW) rfl
  · refine qk_iloadn C dX5_bust_9 10 rfl rfl 2 rfl ?_
    refine qk_sipush C (999) dX5_bust_10 13 rfl rfl ?_
    refine qk_callS C dX5_bust_13 16 rfl ql_X5_53 qc_X5_within (c_X5_within l G _ _ _) rfl rfl (Nat.le_of_ble_eq_true rfl) ⟨(Nat.le_of_ble_eq_true rfl), (Nat.le_of_ble_eq_true rfl)⟩ (qx_Ki ?_)
    refine qk_if_neB C dX5_bust_16 26 rfl 19 rfl (fun c_16 => ?_) (fun c_16 => ?_)
    · rcases Nat.lt_or_ge N 8 with h8 | h8
      · refine qk_aloadn C dX5_bust_26 27 rfl rfl 0 rfl ?_
        refine qk_get C dX5_bust_27 30 rfl qf_X5_12 0 (by decide) rfl rfl ?_
        refine qk_iloadn C dX5_bust_30 31 rfl rfl 1 rfl ?_
        refine qk_iloadn C dX5_bust_31 32 rfl rfl 2 rfl ?_
        refine qk_callV C dX5_bust_32 35 rfl ql_X5_68 qc_X1_addBust _ hL.l65 (qx_Fl hL _) rfl (c_X1_addBust l G 1 N hL σ w hI h8 _ _) rfl rfl (Nat.le_of_ble_eq_true rfl) ⟨(Nat.le_of_ble_eq_true rfl), (Nat.le_of_ble_eq_true rfl)⟩ (qx_Ki ?_)
        refine qk_istoren C dX5_bust_35 36 rfl rfl (by decide) rfl ?_
        refine qk_iloadn C dX5_bust_36 37 rfl rfl 0 rfl ?_
        refine qk_if_ge C dX5_bust_37 49 rfl 40 rfl (fun c_37 => ?_) (fun c_37 => absurd (nI_pos' (by omega)) c_37)
        refine qk_iloadn C dX5_bust_49 50 rfl rfl 0 rfl ?_
        exact hret _ _ _ _ dX5_bust_50 (qPx_ok ((zif_t ⟨c_6, c_16⟩).trans (zif_f (Nat.not_le.mpr h8))) rfl (qTr.rf.li h8) qH_qL) rfl
      · refine qk_aloadn C dX5_bust_26 27 rfl rfl 0 rfl ?_
        refine qk_get C dX5_bust_27 30 rfl qf_X5_12 0 (by decide) rfl rfl ?_
        refine qk_iloadn C dX5_bust_30 31 rfl rfl 1 rfl ?_
        refine qk_iloadn C dX5_bust_31 32 rfl rfl 2 rfl ?_
        refine qk_callV C dX5_bust_32 35 rfl ql_X5_68 qc_X1_addBust _ hL.l65 (qx_Fl hL _) rfl (c_X1_addBustF l G 1 N hL σ w hI h8 _ _) rfl rfl (Nat.le_of_ble_eq_true rfl) ⟨(Nat.le_of_ble_eq_true rfl), (Nat.le_of_ble_eq_true rfl)⟩ (qx_Ki ?_)
        refine qk_istoren C dX5_bust_35 36 rfl rfl (by decide) rfl ?_
        refine qk_iloadn C dX5_bust_36 37 rfl rfl 0 rfl ?_
        refine qk_if_ge C dX5_bust_37 49 rfl 40 rfl (fun c => absurd c (by decide)) (fun _ => ?_)
        refine qk_aloadn C dX5_bust_40 41 rfl rfl 1 rfl ?_
        refine qk_ldc C dX5_bust_41 43 rfl qw_346 ?_
        refine qk_callV C dX5_bust_43 46 rfl ql_X5_58 qc_X5_found 0 (by decide) rfl rfl (c_X5_found l G _ _ 1 (by decide) (by decide)) rfl rfl (Nat.le_of_ble_eq_true rfl) ⟨(Nat.le_of_ble_eq_true rfl), (Nat.le_of_ble_eq_true rfl)⟩ (qx_Ki ?_)
        refine qk_goto C dX5_bust_46 50 rfl ?_
        exact hret _ _ _ _ dX5_bust_50 (qPx_bad 1 hN8 ((zif_t ⟨c_6, c_16⟩).trans (zif_t h8)) rfl hT hW) rfl
    · refine qk_aloadn C dX5_bust_19 20 rfl rfl 0 rfl ?_
      refine qk_ldc C dX5_bust_20 22 rfl qw_321 ?_
      refine qk_callV C dX5_bust_22 25 rfl ql_X5_58 qc_X5_found 0 (by decide) rfl rfl (c_X5_found l G _ _ 0 (by decide) (by decide)) rfl rfl (Nat.le_of_ble_eq_true rfl) ⟨(Nat.le_of_ble_eq_true rfl), (Nat.le_of_ble_eq_true rfl)⟩ (qx_Ki ?_)
      exact hret _ _ _ _ dX5_bust_25 (qPx_bad 0 hN8 ((zif_f (by first | exact fun q => c_6 q.1 | exact fun q => c_16 q.2))) rfl hT hW) rfl

theorem c_X5_of (l : Launch) (G : qx_G) (σ : qx_Sg) (N : Nat) (w : Nat → Int32) (hI : qv_ok w N) (hH : qH σ 1 N w) (b x : Int32) : qx_Ct l G yX5_of cX5_of 3 (some .int) 4 87 [.ref (qx_ad G 0), .int b, .int x] (σ) (qPx σ (S_of N w b x)) := by
  refine qx_of .int (lo := [(0, .ref (qx_ad G 0)), (1, .int b), (2, .int x)]) (by decide +kernel) (Nat.le_of_ble_eq_true rfl) rfl (fun Δ (C : qx_C G Δ cX5_of RX5 3 4 87) hret => ?_)
  have hL : qx_isL 1 := Or.inl rfl
  have hM : qx_isL 14 := Or.inr (Or.inl rfl)
  have hN8 := hI.1
  have hN1 := hI.2.1
  have hT : qTr σ (qL σ 1 N w) := qTr.rf.li hN8
  have hW : qH (qL σ 1 N w) 1 N w := qH_qL
  refine qk_cg (qL σ 1 N w) (qH_w hH hL hN8) ?_
  refine qk_aloadn C dX5_of_0 1 rfl rfl 0 rfl ?_
  refine qk_iloadn C dX5_of_1 2 rfl rfl 1 rfl ?_
  refine qk_callV C dX5_of_2 5 rfl ql_X5_73 qc_X5_isBust 0 (by decide) rfl rfl (c_X5_isBust l G σ N w hI _) rfl rfl (Nat.le_of_ble_eq_true rfl) ⟨(Nat.le_of_ble_eq_true rfl), (Nat.le_of_ble_eq_true rfl)⟩ (qx_Ki ?_)
  refine qk_if_eqB C dX5_of_5 17 rfl 8 rfl (fun c_5 => ?_) (fun c_5 => ?_)
  · refine qk_aloadn C dX5_of_17 18 rfl rfl 0 rfl ?_
    refine qk_ldc C dX5_of_18 20 rfl qw_321 ?_
    refine qk_callV C dX5_of_20 23 rfl ql_X5_58 qc_X5_found 0 (by decide) rfl rfl (c_X5_found l G _ _ 0 (by decide) (by decide)) rfl rfl (Nat.le_of_ble_eq_true rfl) ⟨(Nat.le_of_ble_eq_true rfl), (Nat.le_of_ble_eq_true rfl)⟩ (qx_Ki ?_)
    exact hret _ _ _ _ dX5_of_23 (qPx_bad 0 hN8 ((zif_f (by first | exact fun q => c_5 q.1 | exact fun q => c_14 q.2))) rfl hT hW) rfl
  · refine qk_iloadn C dX5_of_8 9 rfl rfl 2 rfl ?_
    refine qk_bipush C (10) dX5_of_9 11 rfl rfl ?_
    refine qk_callS C dX5_of_11 14 rfl ql_X5_53 qc_X5_within (c_X5_within l G _ _ _) rfl rfl (Nat.le_of_ble_eq_true rfl) ⟨(Nat.le_of_ble_eq_true rfl), (Nat.le_of_ble_eq_true rfl)⟩ (qx_Ki ?_)
    refine qk_if_neB C dX5_of_14 24 rfl 17 rfl (fun c_14 => ?_) (fun c_14 => ?_)
    · obtain ⟨jb, hjb, rfl⟩ := z_ib_ex c_5 hN8
      refine qk_aloadn C dX5_of_24 25 rfl rfl 0 rfl ?_
      refine qk_get C dX5_of_25 28 rfl qf_X5_12 0 (by decide) rfl rfl ?_
      refine qk_get C dX5_of_28 31 rfl qf_X5_77 _ hL.l65 (qx_Fl hL _) rfl ?_
      refine qk_iloadn C dX5_of_31 32 rfl rfl 1 rfl ?_
      refine qk_aald C dX5_of_32 33 rfl (1 + 4) hL.l4 1 (qx_Fl4 hL _) rfl (jb) rfl (by omega) (by decide) rfl ?_
      refine qk_iloadn C dX5_of_33 34 rfl rfl 2 rfl ?_
      refine qk_callV C dX5_of_34 37 rfl ql_X5_81 qc_X0_told _ (qx_isB.of hL (show jb < 8 by omega)).lt (qx_Fb (qx_isB.of hL (show jb < 8 by omega)) _) rfl (cL_X0_told l G 1 N jb hL hN8 hjb σ w _) rfl rfl (Nat.le_of_ble_eq_true rfl) ⟨(Nat.le_of_ble_eq_true rfl), (Nat.le_of_ble_eq_true rfl)⟩ (qx_Ki ?_)
      exact hret _ _ _ _ dX5_of_37 (qPx_ok ((zif_t ⟨c_5, c_14⟩).trans (by rw [zn_nI (show jb < 2 ^ 31 by omega)])) rfl hT hW) rfl
    · refine qk_aloadn C dX5_of_17 18 rfl rfl 0 rfl ?_
      refine qk_ldc C dX5_of_18 20 rfl qw_321 ?_
      refine qk_callV C dX5_of_20 23 rfl ql_X5_58 qc_X5_found 0 (by decide) rfl rfl (c_X5_found l G _ _ 0 (by decide) (by decide)) rfl rfl (Nat.le_of_ble_eq_true rfl) ⟨(Nat.le_of_ble_eq_true rfl), (Nat.le_of_ble_eq_true rfl)⟩ (qx_Ki ?_)
      exact hret _ _ _ _ dX5_of_23 (qPx_bad 0 hN8 ((zif_f (by first | exact fun q => c_5 q.1 | exact fun q => c_14 q.2))) rfl hT hW) rfl

theorem z_tell_w {r : Nat → Int32} {j : Nat} (hj : j < 7) : z_tell r (nI j) = r j := by
  have : j = 0 ∨ j = 1 ∨ j = 2 ∨ j = 3 ∨ j = 4 ∨ j = 5 ∨ j = 6 := by omega
  rcases this with rfl | rfl | rfl | rfl | rfl | rfl | rfl <;> rfl
theorem c_X5_change (l : Launch) (G : qx_G) (σ : qx_Sg) (N : Nat) (w : Nat → Int32) (hI : qv_ok w N) (hH : qH σ 1 N w) (b x v : Int32) : qx_Ct l G yX5_change cX5_change 5 (some .int) 4 87 [.ref (qx_ad G 0), .int b, .int x, .int v] (σ) (qPx σ (S_change N w b x v)) := by
  refine qx_of .int (lo := [(0, .ref (qx_ad G 0)), (1, .int b), (2, .int x), (3, .int v)]) (by decide +kernel) (Nat.le_of_ble_eq_true rfl) rfl (fun Δ (C : qx_C G Δ cX5_change RX5 5 4 87) hret => ?_)
  have hL : qx_isL 1 := Or.inl rfl
  have hM : qx_isL 14 := Or.inr (Or.inl rfl)
  have hN8 := hI.1
  have hN1 := hI.2.1
  have hT : qTr σ (qL σ 1 N w) := qTr.rf.li hN8
  have hW : qH (qL σ 1 N w) 1 N w := qH_qL
  refine qk_cg (qL σ 1 N w) (qH_w hH hL hN8) ?_
  refine qk_aloadn C dX5_change_0 1 rfl rfl 0 rfl ?_
  refine qk_iloadn C dX5_change_1 2 rfl rfl 1 rfl ?_
  refine qk_callV C dX5_change_2 5 rfl ql_X5_73 qc_X5_isBust 0 (by decide) rfl rfl (c_X5_isBust l G σ N w hI _) rfl rfl (Nat.le_of_ble_eq_true rfl) ⟨(Nat.le_of_ble_eq_true rfl), (Nat.le_of_ble_eq_true rfl)⟩ (qx_Ki ?_)
  refine qk_if_eqB C dX5_change_5 29 rfl 8 rfl (fun c_5 => ?_) (fun c_5 => ?_)
  · refine qk_aloadn C dX5_change_29 30 rfl rfl 0 rfl ?_
    refine qk_ldc C dX5_change_30 32 rfl qw_321 ?_
    refine qk_callV C dX5_change_32 35 rfl ql_X5_58 qc_X5_found 0 (by decide) rfl rfl (c_X5_found l G _ _ 0 (by decide) (by decide)) rfl rfl (Nat.le_of_ble_eq_true rfl) ⟨(Nat.le_of_ble_eq_true rfl), (Nat.le_of_ble_eq_true rfl)⟩ (qx_Ki ?_)
    exact hret _ _ _ _ dX5_change_35 (qPx_bad 0 hN8 ((zif_f (by first | exact fun q => c_5 q.1 | exact fun q => c_14 q.2.1 | exact fun q => c_26 (by have := q.2.2; rw [zn_nI (show jx < 2 ^ 31 by omega)] at this; exact this)))) rfl hT hW) rfl
  · refine qk_iloadn C dX5_change_8 9 rfl rfl 2 rfl ?_
    refine qk_bipush C (6) dX5_change_9 11 rfl rfl ?_
    refine qk_callS C dX5_change_11 14 rfl ql_X5_53 qc_X5_within (c_X5_within l G _ _ _) rfl rfl (Nat.le_of_ble_eq_true rfl) ⟨(Nat.le_of_ble_eq_true rfl), (Nat.le_of_ble_eq_true rfl)⟩ (qx_Ki ?_)
    refine qk_if_eqB C dX5_change_14 29 rfl 17 rfl (fun c_14 => ?_) (fun c_14 => ?_)
    · refine qk_aloadn C dX5_change_29 30 rfl rfl 0 rfl ?_
      refine qk_ldc C dX5_change_30 32 rfl qw_321 ?_
      refine qk_callV C dX5_change_32 35 rfl ql_X5_58 qc_X5_found 0 (by decide) rfl rfl (c_X5_found l G _ _ 0 (by decide) (by decide)) rfl rfl (Nat.le_of_ble_eq_true rfl) ⟨(Nat.le_of_ble_eq_true rfl), (Nat.le_of_ble_eq_true rfl)⟩ (qx_Ki ?_)
      exact hret _ _ _ _ dX5_change_35 (qPx_bad 0 hN8 ((zif_f (by first | exact fun q => c_5 q.1 | exact fun q => c_14 q.2.1 | exact fun q => c_26 (by have := q.2.2; rw [zn_nI (show jx < 2 ^ 31 by omega)] at this; exact this)))) rfl hT hW) rfl
    · obtain ⟨jx, hjx, rfl⟩ := z_in_ex 6 rfl (by omega) c_14
      refine qk_iloadn C dX5_change_17 18 rfl rfl 3 rfl ?_
      refine qk_gMost C dX5_change_18 21 rfl (Or.inl qw_396) ?_
      refine qk_iloadn C dX5_change_21 22 rfl rfl 2 rfl ?_
      refine qk_tMost C dX5_change_22 23 rfl jx rfl (by omega) ?_
      refine qk_callS C dX5_change_23 26 rfl ql_X5_53 qc_X5_within (c_X5_within l G _ _ _) rfl rfl (Nat.le_of_ble_eq_true rfl) ⟨(Nat.le_of_ble_eq_true rfl), (Nat.le_of_ble_eq_true rfl)⟩ (qx_Ki ?_)
      refine qk_if_neB C dX5_change_26 36 rfl 29 rfl (fun c_26 => ?_) (fun c_26 => ?_)
      · obtain ⟨jb, hjb, rfl⟩ := z_ib_ex c_5 hN8
        refine qk_aloadn C dX5_change_36 37 rfl rfl 0 rfl ?_
        refine qk_get C dX5_change_37 40 rfl qf_X5_12 0 (by decide) rfl rfl ?_
        refine qk_get C dX5_change_40 43 rfl qf_X5_77 _ hL.l65 (qx_Fl hL _) rfl ?_
        refine qk_iloadn C dX5_change_43 44 rfl rfl 1 rfl ?_
        refine qk_aald C dX5_change_44 45 rfl (1 + 4) hL.l4 1 (qx_Fl4 hL _) rfl (jb) rfl (by omega) (by decide) rfl ?_
        refine qk_iloadn C dX5_change_45 46 rfl rfl 2 rfl ?_
        refine qk_callV C dX5_change_46 49 rfl ql_X5_81 qc_X0_told _ (qx_isB.of hL (show jb < 8 by omega)).lt (qx_Fb (qx_isB.of hL (show jb < 8 by omega)) _) rfl (cL_X0_told l G 1 N jb hL hN8 hjb σ w _) rfl rfl (Nat.le_of_ble_eq_true rfl) ⟨(Nat.le_of_ble_eq_true rfl), (Nat.le_of_ble_eq_true rfl)⟩ (qx_Ki ?_)
        refine qk_istore C dX5_change_49 51 rfl (by decide) rfl ?_
        refine qk_aloadn C dX5_change_51 52 rfl rfl 1 rfl ?_
        refine qk_get C dX5_change_52 55 rfl qf_X5_12 0 (by decide) rfl rfl ?_
        refine qk_get C dX5_change_55 58 rfl qf_X5_77 _ hL.l65 (qx_Fl hL _) rfl ?_
        refine qk_iloadn C dX5_change_58 59 rfl rfl 2 rfl ?_
        refine qk_aald C dX5_change_59 60 rfl (1 + 4) hL.l4 1 (qx_Fl4 hL _) rfl (jb) rfl (by omega) (by decide) rfl ?_
        refine qk_iloadn C dX5_change_60 61 rfl rfl 3 rfl ?_
        refine qk_iloadn C dX5_change_61 62 rfl rfl 4 rfl ?_
        refine qk_callV C dX5_change_62 65 rfl ql_X5_89 qc_X0_become _ (qx_isB.of hL (show jb < 8 by omega)).lt (qx_Fb (qx_isB.of hL (show jb < 8 by omega)) _) rfl (cL_X0_become l G 1 N jb hL hN8 hjb σ w jx (by omega) _) rfl rfl (Nat.le_of_ble_eq_true rfl) ⟨(Nat.le_of_ble_eq_true rfl), (Nat.le_of_ble_eq_true rfl)⟩ (qx_Kv ?_)
        refine qk_iload C dX5_change_65 67 rfl 0 rfl ?_
        exact hret _ _ _ _ dX5_change_67 (qPx_ok ((zif_t ⟨c_5, c_14, by rw [zn_nI (show jx < 2 ^ 31 by omega)]; exact c_26⟩).trans (by rw [zn_nI (show jb < 2 ^ 31 by omega), zn_nI (show jx < 2 ^ 31 by omega)]; rfl)) (z_tell_w (by omega)) (qTr.rf.li hN8) qH_qL) rfl
      · refine qk_aloadn C dX5_change_29 30 rfl rfl 0 rfl ?_
        refine qk_ldc C dX5_change_30 32 rfl qw_321 ?_
        refine qk_callV C dX5_change_32 35 rfl ql_X5_58 qc_X5_found 0 (by decide) rfl rfl (c_X5_found l G _ _ 0 (by decide) (by decide)) rfl rfl (Nat.le_of_ble_eq_true rfl) ⟨(Nat.le_of_ble_eq_true rfl), (Nat.le_of_ble_eq_true rfl)⟩ (qx_Ki ?_)
        exact hret _ _ _ _ dX5_change_35 (qPx_bad 0 hN8 ((zif_f (by first | exact fun q => c_5 q.1 | exact fun q => c_14 q.2.1 | exact fun q => c_26 (by have := q.2.2; rw [zn_nI (show jx < 2 ^ 31 by omega)] at this; exact this)))) rfl hT hW) rfl

theorem c_X5_accepts (l : Launch) (G : qx_G) (σ : qx_Sg) (N : Nat) (w : Nat → Int32) (hI : qv_ok w N) (hH : qH σ 1 N w) (b p : Int32) : qx_Ct l G yX5_accepts cX5_accepts 3 (some .int) 2 45 [.ref (qx_ad G 0), .int b, .int p] (σ) (qPx σ (S_accepts N w b p)) := by
  refine qx_of .int (lo := [(0, .ref (qx_ad G 0)), (1, .int b), (2, .int p)]) (by decide +kernel) (Nat.le_of_ble_eq_true rfl) rfl (fun Δ (C : qx_C G Δ cX5_accepts RX5 3 2 45) hret => ?_)
  have hL : qx_isL 1 := Or.inl rfl
  have hM : qx_isL 14 := Or.inr (Or.inl rfl)
  have hN8 := hI.1
  have hN1 := hI.2.1
  have hT : qTr σ (qL σ 1 N w) := qTr.rf.li hN8
  have hW : qH (qL σ 1 N w) 1 N w := qH_qL
  refine qk_cg (qL σ 1 N w) (qH_w hH hL hN8) ?_
  refine qk_aloadn C dX5_accepts_0 1 rfl rfl 0 rfl ?_
  refine qk_iloadn C dX5_accepts_1 2 rfl rfl 1 rfl ?_
  refine qk_callV C dX5_accepts_2 5 rfl ql_X5_73 qc_X5_isBust 0 (by decide) rfl rfl (c_X5_isBust l G σ N w hI _) rfl rfl (Nat.le_of_ble_eq_true rfl) ⟨(Nat.le_of_ble_eq_true rfl), (Nat.le_of_ble_eq_true rfl)⟩ (qx_Ki ?_)
  refine qk_if_eqB C dX5_accepts_5 17 rfl 8 rfl (fun c_5 => ?_) (fun c_5 => ?_)
  · refine qk_aloadn C dX5_accepts_17 18 rfl rfl 0 rfl ?_
    refine qk_ldc C dX5_accepts_18 20 rfl qw_321 ?_
    refine qk_callV C dX5_accepts_20 23 rfl ql_X5_58 qc_X5_found 0 (by decide) rfl rfl (c_X5_found l G _ _ 0 (by decide) (by decide)) rfl rfl (Nat.le_of_ble_eq_true rfl) ⟨(Nat.le_of_ble_eq_true rfl), (Nat.le_of_ble_eq_true rfl)⟩ (qx_Ki ?_)
    exact hret _ _ _ _ dX5_accepts_23 (qPx_bad 0 hN8 ((zif_f (by first | exact fun q => c_5 q.1 | exact fun q => c_14 q.2))) rfl hT hW) rfl
  · refine qk_iloadn C dX5_accepts_8 9 rfl rfl 2 rfl ?_
    refine qk_bipush C (11) dX5_accepts_9 11 rfl rfl ?_
    refine qk_callS C dX5_accepts_11 14 rfl ql_X5_53 qc_X5_within (c_X5_within l G _ _ _) rfl rfl (Nat.le_of_ble_eq_true rfl) ⟨(Nat.le_of_ble_eq_true rfl), (Nat.le_of_ble_eq_true rfl)⟩ (qx_Ki ?_)
    refine qk_if_neB C dX5_accepts_14 24 rfl 17 rfl (fun c_14 => ?_) (fun c_14 => ?_)
    · obtain ⟨jb, hjb, rfl⟩ := z_ib_ex c_5 hN8
      refine qk_aloadn C dX5_accepts_24 25 rfl rfl 0 rfl ?_
      refine qk_get C dX5_accepts_25 28 rfl qf_X5_12 0 (by decide) rfl rfl ?_
      refine qk_get C dX5_accepts_28 31 rfl qf_X5_77 _ hL.l65 (qx_Fl hL _) rfl ?_
      refine qk_iloadn C dX5_accepts_31 32 rfl rfl 1 rfl ?_
      refine qk_aald C dX5_accepts_32 33 rfl (1 + 4) hL.l4 1 (qx_Fl4 hL _) rfl (jb) rfl (by omega) (by decide) rfl ?_
      refine qk_iloadn C dX5_accepts_33 34 rfl rfl 2 rfl ?_
      refine qk_callV C dX5_accepts_34 37 rfl ql_X5_93 qc_X0_takes _ (qx_isB.of hL (show jb < 8 by omega)).lt (qx_Fb (qx_isB.of hL (show jb < 8 by omega)) _) rfl (cL_X0_takes l G 1 N jb hL hN8 hjb σ w _) rfl rfl (Nat.le_of_ble_eq_true rfl) ⟨(Nat.le_of_ble_eq_true rfl), (Nat.le_of_ble_eq_true rfl)⟩ (qx_Ki ?_)
      refine qk_if_eqB C dX5_accepts_37 44 rfl 40 rfl (fun c_37 => ?_) (fun c_37 => ?_)
      · refine qk_iconst C (0) dX5_accepts_44 45 rfl rfl ?_
        exact hret _ _ _ _ dX5_accepts_45 (qPx_ok ((zif_t ⟨c_5, c_14⟩).trans (by rw [zn_nI (show jb < 2 ^ 31 by omega)])) (by first | exact (qb_t c_37).symm | exact (qb_f c_37).symm) hT hW) rfl
      · refine qk_iconst C (1) dX5_accepts_40 41 rfl rfl ?_
        refine qk_goto C dX5_accepts_41 45 rfl ?_
        exact hret _ _ _ _ dX5_accepts_45 (qPx_ok ((zif_t ⟨c_5, c_14⟩).trans (by rw [zn_nI (show jb < 2 ^ 31 by omega)])) (by first | exact (qb_t c_37).symm | exact (qb_f c_37).symm) hT hW) rfl
    · refine qk_aloadn C dX5_accepts_17 18 rfl rfl 0 rfl ?_
      refine qk_ldc C dX5_accepts_18 20 rfl qw_321 ?_
      refine qk_callV C dX5_accepts_20 23 rfl ql_X5_58 qc_X5_found 0 (by decide) rfl rfl (c_X5_found l G _ _ 0 (by decide) (by decide)) rfl rfl (Nat.le_of_ble_eq_true rfl) ⟨(Nat.le_of_ble_eq_true rfl), (Nat.le_of_ble_eq_true rfl)⟩ (qx_Ki ?_)
      exact hret _ _ _ _ dX5_accepts_23 (qPx_bad 0 hN8 ((zif_f (by first | exact fun q => c_5 q.1 | exact fun q => c_14 q.2))) rfl hT hW) rfl

theorem c_X5_heir (l : Launch) (G : qx_G) (σ : qx_Sg) (N : Nat) (w : Nat → Int32) (hI : qv_ok w N) (hH : qH σ 1 N w) (p : Int32) : qx_Ct l G yX5_heir cX5_heir 3 (some .int) 3 69 [.ref (qx_ad G 0), .int p] (σ) (qPx σ (S_heir N w p)) := by
  refine qx_of .int (lo := [(0, .ref (qx_ad G 0)), (1, .int p)]) (by decide +kernel) (Nat.le_of_ble_eq_true rfl) rfl (fun Δ (C : qx_C G Δ cX5_heir RX5 3 3 69) hret => ?_)
  have hL : qx_isL 1 := Or.inl rfl
  have hM : qx_isL 14 := Or.inr (Or.inl rfl)
  have hN8 := hI.1
  have hN1 := hI.2.1
  have hT : qTr σ (qL σ 1 N w) := qTr.rf.li hN8
  have hW : qH (qL σ 1 N w) 1 N w := qH_qL
  refine qk_cg (qL σ 1 N w) (qH_w hH hL hN8) ?_
  refine qk_iloadn C dX5_heir_0 1 rfl rfl 1 rfl ?_
  refine qk_bipush C (11) dX5_heir_1 3 rfl rfl ?_
  refine qk_callS C dX5_heir_3 6 rfl ql_X5_53 qc_X5_within (c_X5_within l G _ _ _) rfl rfl (Nat.le_of_ble_eq_true rfl) ⟨(Nat.le_of_ble_eq_true rfl), (Nat.le_of_ble_eq_true rfl)⟩ (qx_Ki ?_)
  refine qk_if_neB C dX5_heir_6 16 rfl 9 rfl (fun c_6 => ?_) (fun c_6 => ?_)
  · refine qk_aloadn C dX5_heir_16 17 rfl rfl 0 rfl ?_
    refine qk_get C dX5_heir_17 20 rfl qf_X5_12 0 (by decide) rfl rfl ?_
    refine qk_iloadn C dX5_heir_20 21 rfl rfl 1 rfl ?_
    refine qk_callV C dX5_heir_21 24 rfl ql_X5_96 qc_X1_heirOf _ hL.l65 (qx_Fl hL _) rfl (c_X1_heirOf l G 1 N hL σ w hI _) rfl rfl (Nat.le_of_ble_eq_true rfl) ⟨(Nat.le_of_ble_eq_true rfl), (Nat.le_of_ble_eq_true rfl)⟩ (qx_Ki ?_)
    generalize hq : z_hr w p N = o
    refine qk_istoren C dX5_heir_24 25 rfl rfl (by decide) rfl ?_
    rcases o with _ | h
    · refine qk_iloadn C dX5_heir_25 26 rfl rfl 0 rfl ?_
      refine qk_if_ge C dX5_heir_26 38 rfl 29 rfl (fun c => absurd c (by decide)) (fun _ => ?_)
      refine qk_aloadn C dX5_heir_29 30 rfl rfl 1 rfl ?_
      refine qk_ldc C dX5_heir_30 32 rfl qw_419 ?_
      refine qk_callV C dX5_heir_32 35 rfl ql_X5_58 qc_X5_found 0 (by decide) rfl rfl (c_X5_found l G _ _ 3 (by decide) (by decide)) rfl rfl (Nat.le_of_ble_eq_true rfl) ⟨(Nat.le_of_ble_eq_true rfl), (Nat.le_of_ble_eq_true rfl)⟩ (qx_Ki ?_)
      refine qk_goto C dX5_heir_35 39 rfl ?_
      exact hret _ _ _ _ dX5_heir_39 (qPx_bad 3 hN8 ((zif_t c_6).trans (by rw [hq]; rfl)) rfl hT hW) rfl
    · have hh : h < N := z_hr_lt hq
      refine qk_iloadn C dX5_heir_25 26 rfl rfl 0 rfl ?_
      refine qk_if_ge C dX5_heir_26 38 rfl 29 rfl (fun c_26 => ?_) (fun c_26 => absurd (nI_pos' (by omega)) c_26)
      refine qk_iloadn C dX5_heir_38 39 rfl rfl 0 rfl ?_
      exact hret _ _ _ _ dX5_heir_39 (qPx_ok ((zif_t c_6).trans (by rw [hq]; rfl)) rfl hT hW) rfl
  · refine qk_aloadn C dX5_heir_9 10 rfl rfl 0 rfl ?_
    refine qk_ldc C dX5_heir_10 12 rfl qw_321 ?_
    refine qk_callV C dX5_heir_12 15 rfl ql_X5_58 qc_X5_found 0 (by decide) rfl rfl (c_X5_found l G _ _ 0 (by decide) (by decide)) rfl rfl (Nat.le_of_ble_eq_true rfl) ⟨(Nat.le_of_ble_eq_true rfl), (Nat.le_of_ble_eq_true rfl)⟩ (qx_Ki ?_)
    exact hret _ _ _ _ dX5_heir_15 (qPx_bad 0 hN8 ((zif_f (by first | exact fun q => c_6 q))) rfl hT hW) rfl

theorem c_X5_give (l : Launch) (G : qx_G) (σ : qx_Sg) (N : Nat) (w : Nat → Int32) (hI : qv_ok w N) (hH : qH σ 1 N w) (b p : Int32) : qx_Ct l G yX5_give cX5_give 4 (some .int) 2 43 [.ref (qx_ad G 0), .int b, .int p] (σ) (qPx σ (S_give N w b p)) := by
  refine qx_of .int (lo := [(0, .ref (qx_ad G 0)), (1, .int b), (2, .int p)]) (by decide +kernel) (Nat.le_of_ble_eq_true rfl) rfl (fun Δ (C : qx_C G Δ cX5_give RX5 4 2 43) hret => ?_)
  have hL : qx_isL 1 := Or.inl rfl
  have hM : qx_isL 14 := Or.inr (Or.inl rfl)
  have hN8 := hI.1
  have hN1 := hI.2.1
  have hT : qTr σ (qL σ 1 N w) := qTr.rf.li hN8
  have hW : qH (qL σ 1 N w) 1 N w := qH_qL
  refine qk_cg (qL σ 1 N w) (qH_w hH hL hN8) ?_
  refine qk_aloadn C dX5_give_0 1 rfl rfl 0 rfl ?_
  refine qk_iloadn C dX5_give_1 2 rfl rfl 1 rfl ?_
  refine qk_callV C dX5_give_2 5 rfl ql_X5_73 qc_X5_isBust 0 (by decide) rfl rfl (c_X5_isBust l G σ N w hI _) rfl rfl (Nat.le_of_ble_eq_true rfl) ⟨(Nat.le_of_ble_eq_true rfl), (Nat.le_of_ble_eq_true rfl)⟩ (qx_Ki ?_)
  refine qk_if_eqB C dX5_give_5 17 rfl 8 rfl (fun c_5 => ?_) (fun c_5 => ?_)
  · refine qk_aloadn C dX5_give_17 18 rfl rfl 0 rfl ?_
    refine qk_ldc C dX5_give_18 20 rfl qw_321 ?_
    refine qk_callV C dX5_give_20 23 rfl ql_X5_58 qc_X5_found 0 (by decide) rfl rfl (c_X5_found l G _ _ 0 (by decide) (by decide)) rfl rfl (Nat.le_of_ble_eq_true rfl) ⟨(Nat.le_of_ble_eq_true rfl), (Nat.le_of_ble_eq_true rfl)⟩ (qx_Ki ?_)
    exact hret _ _ _ _ dX5_give_23 (qPx_bad 0 hN8 ((zif_f (by first | exact fun q => c_5 q.1 | exact fun q => c_14 q.2))) rfl hT hW) rfl
  · refine qk_iloadn C dX5_give_8 9 rfl rfl 2 rfl ?_
    refine qk_bipush C (11) dX5_give_9 11 rfl rfl ?_
    refine qk_callS C dX5_give_11 14 rfl ql_X5_53 qc_X5_within (c_X5_within l G _ _ _) rfl rfl (Nat.le_of_ble_eq_true rfl) ⟨(Nat.le_of_ble_eq_true rfl), (Nat.le_of_ble_eq_true rfl)⟩ (qx_Ki ?_)
    refine qk_if_neB C dX5_give_14 24 rfl 17 rfl (fun c_14 => ?_) (fun c_14 => ?_)
    · obtain ⟨jb, hjb, rfl⟩ := z_ib_ex c_5 hN8
      obtain ⟨jp, hjp, rfl⟩ := z_in_ex 11 rfl (by omega) c_14
      refine qk_aloadn C dX5_give_24 25 rfl rfl 0 rfl ?_
      refine qk_get C dX5_give_25 28 rfl qf_X5_12 0 (by decide) rfl rfl ?_
      refine qk_get C dX5_give_28 31 rfl qf_X5_77 _ hL.l65 (qx_Fl hL _) rfl ?_
      refine qk_iloadn C dX5_give_31 32 rfl rfl 1 rfl ?_
      refine qk_aald C dX5_give_32 33 rfl (1 + 4) hL.l4 1 (qx_Fl4 hL _) rfl (jb) rfl (by omega) (by decide) rfl ?_
      refine qk_astoren C dX5_give_33 34 rfl rfl (by decide) rfl ?_
      refine qk_aloadn C dX5_give_34 35 rfl rfl 0 rfl ?_
      refine qk_iloadn C dX5_give_35 36 rfl rfl 3 rfl ?_
      refine qk_callV C dX5_give_36 39 rfl ql_X5_100 qc_X0_hasPart _ (qx_isB.of hL (show jb < 8 by omega)).lt (qx_Fb (qx_isB.of hL (show jb < 8 by omega)) _) rfl (cL_X0_hasPart l G 1 N jb hL hN8 hjb σ w _) rfl rfl (Nat.le_of_ble_eq_true rfl) ⟨(Nat.le_of_ble_eq_true rfl), (Nat.le_of_ble_eq_true rfl)⟩ (qx_Ki ?_)
      refine qk_if_neB C dX5_give_39 62 rfl 42 rfl (fun c_39 => ?_) (fun c_39 => ?_)
      · refine qk_aloadn C dX5_give_62 63 rfl rfl 1 rfl ?_
        refine qk_ldc C dX5_give_63 65 rfl qw_425 ?_
        refine qk_callV C dX5_give_65 68 rfl ql_X5_58 qc_X5_found 0 (by decide) rfl rfl (c_X5_found l G _ _ 4 (by decide) (by decide)) rfl rfl (Nat.le_of_ble_eq_true rfl) ⟨(Nat.le_of_ble_eq_true rfl), (Nat.le_of_ble_eq_true rfl)⟩ (qx_Ki ?_)
        exact hret _ _ _ _ dX5_give_68 (qPx_bad 4 hN8 ((zif_t ⟨c_5, c_14⟩).trans (zif_t (by rw [zn_nI (show jb < 2 ^ 31 by omega), zn_nI (show jp < 2 ^ 31 by omega)]; first | exact Or.inl c_39 | exact Or.inr (Or.inl c_47) | exact Or.inr (Or.inr c_59)))) rfl hT hW) rfl
      · refine qk_aloadn C dX5_give_42 43 rfl rfl 0 rfl ?_
        refine qk_get C dX5_give_43 46 rfl qf_X5_103 _ (qx_isB.of hL (show jb < 8 by omega)).lt (qx_Fb (qx_isB.of hL (show jb < 8 by omega)) _) rfl ?_
        refine qk_cast (qL_bf hjb _) ?_
        refine qk_iconst C (1) dX5_give_46 47 rfl rfl ?_
        refine qk_icmp_eq C dX5_give_47 62 rfl 50 rfl (fun c_47 => ?_) (fun c_47 => ?_)
        · refine qk_aloadn C dX5_give_62 63 rfl rfl 1 rfl ?_
          refine qk_ldc C dX5_give_63 65 rfl qw_425 ?_
          refine qk_callV C dX5_give_65 68 rfl ql_X5_58 qc_X5_found 0 (by decide) rfl rfl (c_X5_found l G _ _ 4 (by decide) (by decide)) rfl rfl (Nat.le_of_ble_eq_true rfl) ⟨(Nat.le_of_ble_eq_true rfl), (Nat.le_of_ble_eq_true rfl)⟩ (qx_Ki ?_)
          exact hret _ _ _ _ dX5_give_68 (qPx_bad 4 hN8 ((zif_t ⟨c_5, c_14⟩).trans (zif_t (by rw [zn_nI (show jb < 2 ^ 31 by omega), zn_nI (show jp < 2 ^ 31 by omega)]; first | exact Or.inl c_39 | exact Or.inr (Or.inl c_47) | exact Or.inr (Or.inr c_59)))) rfl hT hW) rfl
        · refine qk_aloadn C dX5_give_50 51 rfl rfl 1 rfl ?_
          refine qk_get C dX5_give_51 54 rfl qf_X5_12 0 (by decide) rfl rfl ?_
          refine qk_get C dX5_give_54 57 rfl qf_X5_65 _ hL.l65 (qx_Fl hL _) rfl ?_
          refine qk_iloadn C dX5_give_57 58 rfl rfl 3 rfl ?_
          refine qk_iald C dX5_give_58 59 rfl (1 + 2) hL.l2 (qx_Fl2 hL) (jp) rfl (by omega) (by decide) ?_
          refine qk_cast (qL_a2 (jp)) ?_
          refine qk_if_ne C dX5_give_59 69 rfl 62 rfl (fun c_59 => ?_) (fun c_59 => ?_)
          · refine qk_aloadn C dX5_give_69 70 rfl rfl 1 rfl ?_
            refine qk_get C dX5_give_70 73 rfl qf_X5_12 0 (by decide) rfl rfl ?_
            refine qk_get C dX5_give_73 76 rfl qf_X5_65 _ hL.l65 (qx_Fl hL _) rfl ?_
            refine qk_iloadn C dX5_give_76 77 rfl rfl 3 rfl ?_
            refine qk_dup2 C dX5_give_77 78 rfl rfl rfl ?_
            refine qk_iald C dX5_give_78 79 rfl (1 + 2) hL.l2 (qx_Fl2 hL) (jp) rfl (by omega) (by decide) ?_
            refine qk_cast (qL_a2 (jp)) ?_
            refine qk_iconst C (1) dX5_give_79 80 rfl rfl ?_
            refine qk_isub C dX5_give_80 81 rfl ?_
            refine qk_iast C dX5_give_81 82 rfl (1 + 2) hL.l2 (qx_Fl2 hL) (jp) rfl (by omega) (by decide) ?_
            refine qk_cg _ (qL_w2 hL hN8 (jp) (by omega) _) ?_
            refine qk_aloadn C dX5_give_82 83 rfl rfl 0 rfl ?_
            refine qk_iloadn C dX5_give_83 84 rfl rfl 3 rfl ?_
            refine qk_callV C dX5_give_84 87 rfl ql_X5_108 qc_X0_receive _ (qx_isB.of hL (show jb < 8 by omega)).lt (qx_Fb (qx_isB.of hL (show jb < 8 by omega)) _) rfl (cL_X0_receive l G 1 N jb hL hN8 hjb σ _ _) rfl rfl (Nat.le_of_ble_eq_true rfl) ⟨(Nat.le_of_ble_eq_true rfl), (Nat.le_of_ble_eq_true rfl)⟩ (qx_Kv ?_)
            refine qk_aloadn C dX5_give_87 88 rfl rfl 0 rfl ?_
            refine qk_get C dX5_give_88 91 rfl qf_X5_112 _ (qx_isB.of hL (show jb < 8 by omega)).lt (qx_Fb (qx_isB.of hL (show jb < 8 by omega)) _) rfl ?_
            refine qk_cast ((qL_bf hjb _).trans upd_eq) ?_
            exact hret _ _ _ _ dX5_give_91 (qPx_ok ((zif_t ⟨c_5, c_14⟩).trans ((zif_f (by rw [zn_nI (show jb < 2 ^ 31 by omega), zn_nI (show jp < 2 ^ 31 by omega)]; exact fun q => q.elim c_39 (fun q => q.elim c_47 c_59))).trans (by rw [zn_nI (show jb < 2 ^ 31 by omega), zn_nI (show jp < 2 ^ 31 by omega), ← show upd w (10 + jp) (w (10 + jp) - 1) (32 + 7 * jb + 2) = w (32 + 7 * jb + 2) from upd_ne (by omega)]))) rfl (qTr.rf.li hN8) qH_qL) rfl
          · refine qk_aloadn C dX5_give_62 63 rfl rfl 1 rfl ?_
            refine qk_ldc C dX5_give_63 65 rfl qw_425 ?_
            refine qk_callV C dX5_give_65 68 rfl ql_X5_58 qc_X5_found 0 (by decide) rfl rfl (c_X5_found l G _ _ 4 (by decide) (by decide)) rfl rfl (Nat.le_of_ble_eq_true rfl) ⟨(Nat.le_of_ble_eq_true rfl), (Nat.le_of_ble_eq_true rfl)⟩ (qx_Ki ?_)
            exact hret _ _ _ _ dX5_give_68 (qPx_bad 4 hN8 ((zif_t ⟨c_5, c_14⟩).trans (zif_t (by rw [zn_nI (show jb < 2 ^ 31 by omega), zn_nI (show jp < 2 ^ 31 by omega)]; first | exact Or.inl c_39 | exact Or.inr (Or.inl c_47) | exact Or.inr (Or.inr c_59)))) rfl hT hW) rfl
    · refine qk_aloadn C dX5_give_17 18 rfl rfl 0 rfl ?_
      refine qk_ldc C dX5_give_18 20 rfl qw_321 ?_
      refine qk_callV C dX5_give_20 23 rfl ql_X5_58 qc_X5_found 0 (by decide) rfl rfl (c_X5_found l G _ _ 0 (by decide) (by decide)) rfl rfl (Nat.le_of_ble_eq_true rfl) ⟨(Nat.le_of_ble_eq_true rfl), (Nat.le_of_ble_eq_true rfl)⟩ (qx_Ki ?_)
      exact hret _ _ _ _ dX5_give_23 (qPx_bad 0 hN8 ((zif_f (by first | exact fun q => c_5 q.1 | exact fun q => c_14 q.2))) rfl hT hW) rfl

theorem c_X5_go (l : Launch) (G : qx_G) (σ : qx_Sg) (N : Nat) (w : Nat → Int32) (hI : qv_ok w N) (hH : qH σ 1 N w) (n : Int32) : qx_Ct l G yX5_go cX5_go 2 (some .int) 5 113 [.ref (qx_ad G 0), .int n] (σ) (qPx σ (S_go N w n)) := by
  refine qx_of .int (lo := [(0, .ref (qx_ad G 0)), (1, .int n)]) (by decide +kernel) (Nat.le_of_ble_eq_true rfl) rfl (fun Δ (C : qx_C G Δ cX5_go RX5 2 5 113) hret => ?_)
  have hL : qx_isL 1 := Or.inl rfl
  have hM : qx_isL 14 := Or.inr (Or.inl rfl)
  have hN8 := hI.1
  have hN1 := hI.2.1
  have hT : qTr σ (qL σ 1 N w) := qTr.rf.li hN8
  have hW : qH (qL σ 1 N w) 1 N w := qH_qL
  refine qk_cg (qL σ 1 N w) (qH_w hH hL hN8) ?_
  refine qk_iloadn C dX5_go_0 1 rfl rfl 1 rfl ?_
  refine qk_iconst C (1) dX5_go_1 2 rfl rfl ?_
  refine qk_icmp_lt C dX5_go_2 11 rfl 5 rfl (fun c_2 => ?_) (fun c_2 => ?_)
  · refine qk_aloadn C dX5_go_11 12 rfl rfl 0 rfl ?_
    refine qk_ldc C dX5_go_12 14 rfl qw_321 ?_
    refine qk_callV C dX5_go_14 17 rfl ql_X5_58 qc_X5_found 0 (by decide) rfl rfl (c_X5_found l G _ _ 0 (by decide) (by decide)) rfl rfl (Nat.le_of_ble_eq_true rfl) ⟨(Nat.le_of_ble_eq_true rfl), (Nat.le_of_ble_eq_true rfl)⟩ (qx_Ki ?_)
    exact hret _ _ _ _ dX5_go_17 (qPx_bad 0 hN8 ((zif_f (by first | exact fun q => q.1 c_2 | exact fun q => c_8 q.2))) rfl hT hW) rfl
  · refine qk_iloadn C dX5_go_5 6 rfl rfl 1 rfl ?_
    refine qk_bipush C (60) dX5_go_6 8 rfl rfl ?_
    refine qk_icmp_le C dX5_go_8 18 rfl 11 rfl (fun c_8 => ?_) (fun c_8 => ?_)
    · refine qk_aloadn C dX5_go_18 19 rfl rfl 0 rfl ?_
      refine qk_get C dX5_go_19 22 rfl qf_X5_12 0 (by decide) rfl rfl ?_
      refine qk_get C dX5_go_22 25 rfl qf_X5_115 _ hL.l65 (qx_Fl hL _) rfl ?_
      refine qk_cast qL_j0 ?_
      refine qk_iloadn C dX5_go_25 26 rfl rfl 1 rfl ?_
      refine qk_iadd C dX5_go_26 27 rfl ?_
      refine qk_ldc C dX5_go_27 29 rfl qw_434 ?_
      refine qk_icmp_le C dX5_go_29 39 rfl 32 rfl (fun c_29 => ?_) (fun c_29 => ?_)
      · obtain ⟨jn, hjn, rfl⟩ := nI_of2 (M := 60) (n := 60) rfl (fun q => c_2 (Int32.lt_of_lt_of_le q (by decide))) c_8
        refine qk_aloadn C dX5_go_39 40 rfl rfl 0 rfl ?_
        refine qk_get C dX5_go_40 43 rfl qf_X5_12 0 (by decide) rfl rfl ?_
        refine qk_iloadn C dX5_go_43 44 rfl rfl 1 rfl ?_
        refine qk_callV C dX5_go_44 47 rfl ql_X5_119 qc_X1_passDays _ hL.l65 (qx_Fl hL _) rfl (c_X1_passDays l G 1 N hL σ w hI jn (by omega)) rfl rfl (Nat.le_of_ble_eq_true rfl) ⟨(Nat.le_of_ble_eq_true rfl), (Nat.le_of_ble_eq_true rfl)⟩ (qx_Kv ?_)
        refine qk_aloadn C dX5_go_47 48 rfl rfl 0 rfl ?_
        refine qk_get C dX5_go_48 51 rfl qf_X5_12 0 (by decide) rfl rfl ?_
        refine qk_get C dX5_go_51 54 rfl qf_X5_122 _ hL.l65 (qx_Fl hL _) rfl ?_
        refine qk_cast qL_j1 ?_
        exact hret _ _ _ _ dX5_go_54 (qPx_ok ((zif_t ⟨c_2, c_8⟩).trans ((zif_t c_29).trans (by rw [zn_nI (show jn < 2 ^ 31 by omega)]))) rfl (qTr.rf.li hN8) qH_qL) rfl
      · refine qk_aloadn C dX5_go_32 33 rfl rfl 0 rfl ?_
        refine qk_ldc C dX5_go_33 35 rfl qw_425 ?_
        refine qk_callV C dX5_go_35 38 rfl ql_X5_58 qc_X5_found 0 (by decide) rfl rfl (c_X5_found l G _ _ 4 (by decide) (by decide)) rfl rfl (Nat.le_of_ble_eq_true rfl) ⟨(Nat.le_of_ble_eq_true rfl), (Nat.le_of_ble_eq_true rfl)⟩ (qx_Ki ?_)
        exact hret _ _ _ _ dX5_go_38 (qPx_bad 4 hN8 ((zif_t ⟨c_2, c_8⟩).trans (zif_f c_29)) rfl hT hW) rfl
    · refine qk_aloadn C dX5_go_11 12 rfl rfl 0 rfl ?_
      refine qk_ldc C dX5_go_12 14 rfl qw_321 ?_
      refine qk_callV C dX5_go_14 17 rfl ql_X5_58 qc_X5_found 0 (by decide) rfl rfl (c_X5_found l G _ _ 0 (by decide) (by decide)) rfl rfl (Nat.le_of_ble_eq_true rfl) ⟨(Nat.le_of_ble_eq_true rfl), (Nat.le_of_ble_eq_true rfl)⟩ (qx_Ki ?_)
      exact hret _ _ _ _ dX5_go_17 (qPx_bad 0 hN8 ((zif_f (by first | exact fun q => q.1 c_2 | exact fun q => c_8 q.2))) rfl hT hW) rfl

theorem c_X5_now (l : Launch) (G : qx_G) (σ : qx_Sg) (N : Nat) (w : Nat → Int32) (hI : qv_ok w N) (hH : qH σ 1 N w) (x : Int32) : qx_Ct l G yX5_now cX5_now 2 (some .int) 4 89 [.ref (qx_ad G 0), .int x] (σ) (qPx σ (S_now N w x)) := by
  refine qx_of .int (lo := [(0, .ref (qx_ad G 0)), (1, .int x)]) (by decide +kernel) (Nat.le_of_ble_eq_true rfl) rfl (fun Δ (C : qx_C G Δ cX5_now RX5 2 4 89) hret => ?_)
  have hL : qx_isL 1 := Or.inl rfl
  have hM : qx_isL 14 := Or.inr (Or.inl rfl)
  have hN8 := hI.1
  have hN1 := hI.2.1
  have hT : qTr σ (qL σ 1 N w) := qTr.rf.li hN8
  have hW : qH (qL σ 1 N w) 1 N w := qH_qL
  refine qk_cg (qL σ 1 N w) (qH_w hH hL hN8) ?_
  refine qk_iloadn C dX5_now_0 1 rfl rfl 1 rfl ?_
  refine qk_eqc (0) (fun c_1_0 => ?_) (fun c_1_0 => ?_)
  · refine qk_tableIn C dX5_now_1 (0) c_1_0 (by decide) (by decide) rfl 48 rfl ?_
    refine qk_aloadn C dX5_now_48 49 rfl rfl 0 rfl ?_
    refine qk_get C dX5_now_49 52 rfl qf_X5_12 0 (by decide) rfl rfl ?_
    refine qk_get C dX5_now_52 55 rfl qf_X5_115 _ hL.l65 (qx_Fl hL _) rfl ?_
    refine qk_cast qL_j0 ?_
    exact hret _ _ _ _ dX5_now_55 (qPx_ok (by simp [S_now, c_1_0]) rfl hT hW) rfl
  refine qk_eqc (1) (fun c_1_1 => ?_) (fun c_1_1 => ?_)
  · refine qk_tableIn C dX5_now_1 (1) c_1_1 (by decide) (by decide) rfl 56 rfl ?_
    refine qk_aloadn C dX5_now_56 57 rfl rfl 0 rfl ?_
    refine qk_get C dX5_now_57 60 rfl qf_X5_12 0 (by decide) rfl rfl ?_
    refine qk_get C dX5_now_60 63 rfl qf_X5_122 _ hL.l65 (qx_Fl hL _) rfl ?_
    refine qk_cast qL_j1 ?_
    exact hret _ _ _ _ dX5_now_63 (qPx_ok (by simp [S_now, c_1_0, c_1_1]) rfl hT hW) rfl
  refine qk_eqc (2) (fun c_1_2 => ?_) (fun c_1_2 => ?_)
  · refine qk_tableIn C dX5_now_1 (2) c_1_2 (by decide) (by decide) rfl 64 rfl ?_
    refine qk_aloadn C dX5_now_64 65 rfl rfl 0 rfl ?_
    refine qk_get C dX5_now_65 68 rfl qf_X5_12 0 (by decide) rfl rfl ?_
    refine qk_callV C dX5_now_68 71 rfl ql_X5_125 qc_X1_storedTogether _ hL.l65 (qx_Fl hL _) rfl (c_X1_storedTogether l G 1 N hL σ w hI) rfl rfl (Nat.le_of_ble_eq_true rfl) ⟨(Nat.le_of_ble_eq_true rfl), (Nat.le_of_ble_eq_true rfl)⟩ (qx_Ki ?_)
    exact hret _ _ _ _ dX5_now_71 (qPx_ok (by simp [S_now, c_1_0, c_1_1, c_1_2]) rfl hT hW) rfl
  refine qk_eqc (3) (fun c_1_3 => ?_) (fun c_1_3 => ?_)
  · refine qk_tableIn C dX5_now_1 (3) c_1_3 (by decide) (by decide) rfl 72 rfl ?_
    refine qk_aloadn C dX5_now_72 73 rfl rfl 0 rfl ?_
    refine qk_get C dX5_now_73 76 rfl qf_X5_12 0 (by decide) rfl rfl ?_
    refine qk_callV C dX5_now_76 79 rfl ql_X5_129 qc_X1_completeBusts _ hL.l65 (qx_Fl hL _) rfl (c_X1_completeBusts l G 1 N hL σ w hI) rfl rfl (Nat.le_of_ble_eq_true rfl) ⟨(Nat.le_of_ble_eq_true rfl), (Nat.le_of_ble_eq_true rfl)⟩ (qx_Ki ?_)
    exact hret _ _ _ _ dX5_now_79 (qPx_ok (by simp [S_now, c_1_0, c_1_1, c_1_2, c_1_3]) rfl hT hW) rfl
  refine qk_eqc (4) (fun c_1_4 => ?_) (fun c_1_4 => ?_)
  · refine qk_tableIn C dX5_now_1 (4) c_1_4 (by decide) (by decide) rfl 80 rfl ?_
    refine qk_aloadn C dX5_now_80 81 rfl rfl 0 rfl ?_
    refine qk_get C dX5_now_81 84 rfl qf_X5_12 0 (by decide) rfl rfl ?_
    refine qk_callV C dX5_now_84 87 rfl ql_X5_132 qc_X1_walkers _ hL.l65 (qx_Fl hL _) rfl (c_X1_walkers l G 1 N hL σ w hI) rfl rfl (Nat.le_of_ble_eq_true rfl) ⟨(Nat.le_of_ble_eq_true rfl), (Nat.le_of_ble_eq_true rfl)⟩ (qx_Ki ?_)
    exact hret _ _ _ _ dX5_now_87 (qPx_ok (by simp [S_now, c_1_0, c_1_1, c_1_2, c_1_3, c_1_4]) rfl hT hW) rfl
  refine qk_eqc (5) (fun c_1_5 => ?_) (fun c_1_5 => ?_)
  · refine qk_tableIn C dX5_now_1 (5) c_1_5 (by decide) (by decide) rfl 88 rfl ?_
    refine qk_aloadn C dX5_now_88 89 rfl rfl 0 rfl ?_
    refine qk_get C dX5_now_89 92 rfl qf_X5_12 0 (by decide) rfl rfl ?_
    refine qk_callV C dX5_now_92 95 rfl ql_X5_135 qc_X1_loudest _ hL.l65 (qx_Fl hL _) rfl (c_X1_loudest l G 1 N hL σ w hI) rfl rfl (Nat.le_of_ble_eq_true rfl) ⟨(Nat.le_of_ble_eq_true rfl), (Nat.le_of_ble_eq_true rfl)⟩ (qx_Ki ?_)
    exact hret _ _ _ _ dX5_now_95 (qPx_ok (by simp [S_now, c_1_0, c_1_1, c_1_2, c_1_3, c_1_4, c_1_5]) rfl hT hW) rfl
  refine qk_eqc (6) (fun c_1_6 => ?_) (fun c_1_6 => ?_)
  · refine qk_tableIn C dX5_now_1 (6) c_1_6 (by decide) (by decide) rfl 96 rfl ?_
    refine qk_aloadn C dX5_now_96 97 rfl rfl 0 rfl ?_
    refine qk_get C dX5_now_97 100 rfl qf_X5_12 0 (by decide) rfl rfl ?_
    refine qk_callV C dX5_now_100 103 rfl ql_X5_138 qc_X1_yearningTogether _ hL.l65 (qx_Fl hL _) rfl (c_X1_yearningTogether l G 1 N hL σ w hI) rfl rfl (Nat.le_of_ble_eq_true rfl) ⟨(Nat.le_of_ble_eq_true rfl), (Nat.le_of_ble_eq_true rfl)⟩ (qx_Ki ?_)
    exact hret _ _ _ _ dX5_now_103 (qPx_ok (by simp [S_now, c_1_0, c_1_1, c_1_2, c_1_3, c_1_4, c_1_5, c_1_6]) rfl hT hW) rfl
  refine qk_eqc (7) (fun c_1_7 => ?_) (fun c_1_7 => ?_)
  · refine qk_tableIn C dX5_now_1 (7) c_1_7 (by decide) (by decide) rfl 104 rfl ?_
    refine qk_aloadn C dX5_now_104 105 rfl rfl 0 rfl ?_
    refine qk_get C dX5_now_105 108 rfl qf_X5_12 0 (by decide) rfl rfl ?_
    refine qk_callV C dX5_now_108 111 rfl ql_X5_141 qc_X1_goneBusts _ hL.l65 (qx_Fl hL _) rfl (c_X1_goneBusts l G 1 N hL σ w hI) rfl rfl (Nat.le_of_ble_eq_true rfl) ⟨(Nat.le_of_ble_eq_true rfl), (Nat.le_of_ble_eq_true rfl)⟩ (qx_Ki ?_)
    exact hret _ _ _ _ dX5_now_111 (qPx_ok (by simp [S_now, c_1_0, c_1_1, c_1_2, c_1_3, c_1_4, c_1_5, c_1_6, c_1_7]) rfl hT hW) rfl
  refine qk_tableOut C dX5_now_1 (by have h0 := lv_neT c_1_0 (show (0 : Int32).toInt = 0 from rfl); have h1 := lv_neT c_1_1 (show (1 : Int32).toInt = 1 from rfl); have h2 := lv_neT c_1_2 (show (2 : Int32).toInt = 2 from rfl); have h3 := lv_neT c_1_3 (show (3 : Int32).toInt = 3 from rfl); have h4 := lv_neT c_1_4 (show (4 : Int32).toInt = 4 from rfl); have h5 := lv_neT c_1_5 (show (5 : Int32).toInt = 5 from rfl); have h6 := lv_neT c_1_6 (show (6 : Int32).toInt = 6 from rfl); have h7 := lv_neT c_1_7 (show (7 : Int32).toInt = 7 from rfl); omega) 112 rfl ?_
  refine qk_aloadn C dX5_now_112 113 rfl rfl 0 rfl ?_
  refine qk_ldc C dX5_now_113 115 rfl qw_321 ?_
  refine qk_callV C dX5_now_115 118 rfl ql_X5_58 qc_X5_found 0 (by decide) rfl rfl (c_X5_found l G _ _ 0 (by decide) (by decide)) rfl rfl (Nat.le_of_ble_eq_true rfl) ⟨(Nat.le_of_ble_eq_true rfl), (Nat.le_of_ble_eq_true rfl)⟩ (qx_Ki ?_)
  exact hret _ _ _ _ dX5_now_118 (qPx_bad 0 hN8 (by simp [S_now, c_1_0, c_1_1, c_1_2, c_1_3, c_1_4, c_1_5, c_1_6, c_1_7]) rfl hT hW) rfl

