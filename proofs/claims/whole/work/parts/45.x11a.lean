/-! more of the public methods -/
theorem c_X5_count (l : Launch) (G : qx_G) (σ : qx_Sg) (N : Nat) (w : Nat → Int32) (hI : qv_ok w N) (hH : qH σ 1 N w) (x : Int32) : qx_Ct l G yX5_count cX5_count 2 (some .int) 2 43 [.ref (qx_ad G 0), .int x] (σ) (qPx σ (S_count N w (σ 40 1) x)) := by
  refine qx_of .int (lo := [(0, .ref (qx_ad G 0)), (1, .int x)]) (by decide +kernel) (Nat.le_of_ble_eq_true rfl) rfl (fun Δ (C : qx_C G Δ cX5_count RX5 2 2 43) hret => ?_)
  have hL : qx_isL 1 := Or.inl rfl
  have hM : qx_isL 14 := Or.inr (Or.inl rfl)
  have hN8 := hI.1
  have hN1 := hI.2.1
  have hT : qTr σ (qL σ 1 N w) := qTr.rf.li hN8
  have hW : qH (qL σ 1 N w) 1 N w := qH_qL
  refine qk_cg (qL σ 1 N w) (qH_w hH hL hN8) ?_
  refine qk_iloadn C dX5_count_0 1 rfl rfl 1 rfl ?_
  refine qk_eqc (0) (fun c_1_0 => ?_) (fun c_1_0 => ?_)
  · refine qk_tableIn C dX5_count_1 (0) c_1_0 (by decide) (by decide) rfl 48 rfl ?_
    refine qk_aloadn C dX5_count_48 49 rfl rfl 0 rfl ?_
    refine qk_get C dX5_count_49 52 rfl qf_X5_12 0 (by decide) rfl rfl ?_
    refine qk_get C dX5_count_52 55 rfl qf_X5_115 _ hL.l65 (qx_Fl hL _) rfl ?_
    refine qk_cast qL_j0 ?_
    exact hret _ _ _ _ dX5_count_55 (qPx_ok (by simp [S_count, c_1_0]) rfl hT hW) rfl
  refine qk_eqc (1) (fun c_1_1 => ?_) (fun c_1_1 => ?_)
  · refine qk_tableIn C dX5_count_1 (1) c_1_1 (by decide) (by decide) rfl 56 rfl ?_
    refine qk_aloadn C dX5_count_56 57 rfl rfl 0 rfl ?_
    refine qk_get C dX5_count_57 60 rfl qf_X5_12 0 (by decide) rfl rfl ?_
    refine qk_get C dX5_count_60 63 rfl qf_X5_175 _ hL.l65 (qx_Fl hL _) rfl ?_
    refine qk_cast qL_j3 ?_
    refine qk_cast hN1 ?_
    exact hret _ _ _ _ dX5_count_63 (qPx_ok (by simp [S_count, c_1_0, c_1_1]) rfl hT hW) rfl
  refine qk_eqc (2) (fun c_1_2 => ?_) (fun c_1_2 => ?_)
  · refine qk_tableIn C dX5_count_1 (2) c_1_2 (by decide) (by decide) rfl 64 rfl ?_
    refine qk_aloadn C dX5_count_64 65 rfl rfl 0 rfl ?_
    refine qk_get C dX5_count_65 68 rfl qf_X5_12 0 (by decide) rfl rfl ?_
    refine qk_get C dX5_count_68 71 rfl qf_X5_122 _ hL.l65 (qx_Fl hL _) rfl ?_
    refine qk_cast qL_j1 ?_
    exact hret _ _ _ _ dX5_count_71 (qPx_ok (by simp [S_count, c_1_0, c_1_1, c_1_2]) rfl hT hW) rfl
  refine qk_eqc (3) (fun c_1_3 => ?_) (fun c_1_3 => ?_)
  · refine qk_tableIn C dX5_count_1 (3) c_1_3 (by decide) (by decide) rfl 72 rfl ?_
    refine qk_aloadn C dX5_count_72 73 rfl rfl 0 rfl ?_
    refine qk_get C dX5_count_73 76 rfl qf_X5_12 0 (by decide) rfl rfl ?_
    refine qk_callV C dX5_count_76 79 rfl ql_X5_125 qc_X1_storedTogether _ hL.l65 (qx_Fl hL _) rfl (c_X1_storedTogether l G 1 N hL σ w hI) rfl rfl (Nat.le_of_ble_eq_true rfl) ⟨(Nat.le_of_ble_eq_true rfl), (Nat.le_of_ble_eq_true rfl)⟩ (qx_Ki ?_)
    exact hret _ _ _ _ dX5_count_79 (qPx_ok (by simp [S_count, c_1_0, c_1_1, c_1_2, c_1_3]) rfl hT hW) rfl
  refine qk_eqc (4) (fun c_1_4 => ?_) (fun c_1_4 => ?_)
  · refine qk_tableIn C dX5_count_1 (4) c_1_4 (by decide) (by decide) rfl 80 rfl ?_
    refine qk_aloadn C dX5_count_80 81 rfl rfl 0 rfl ?_
    refine qk_get C dX5_count_81 84 rfl qf_X5_12 0 (by decide) rfl rfl ?_
    refine qk_callV C dX5_count_84 87 rfl ql_X5_141 qc_X1_goneBusts _ hL.l65 (qx_Fl hL _) rfl (c_X1_goneBusts l G 1 N hL σ w hI) rfl rfl (Nat.le_of_ble_eq_true rfl) ⟨(Nat.le_of_ble_eq_true rfl), (Nat.le_of_ble_eq_true rfl)⟩ (qx_Ki ?_)
    refine qk_callS C dX5_count_87 90 rfl ql_X5_154 qc_J6_bitCount_0f7a4 (c_J6_bitCount_0f7a4 l G _ _) rfl rfl (Nat.le_of_ble_eq_true rfl) ⟨(Nat.le_of_ble_eq_true rfl), (Nat.le_of_ble_eq_true rfl)⟩ (qx_Ki ?_)
    exact hret _ _ _ _ dX5_count_90 (qPx_ok (by simp [S_count, c_1_0, c_1_1, c_1_2, c_1_3, c_1_4]) rfl hT hW) rfl
  refine qk_eqc (5) (fun c_1_5 => ?_) (fun c_1_5 => ?_)
  · refine qk_tableIn C dX5_count_1 (5) c_1_5 (by decide) (by decide) rfl 91 rfl ?_
    refine qk_aloadn C dX5_count_91 92 rfl rfl 0 rfl ?_
    refine qk_get C dX5_count_92 95 rfl qf_X5_29 0 (by decide) rfl rfl ?_
    refine qk_get C dX5_count_95 98 rfl qf_X5_201 40 (by decide) rfl rfl ?_
    refine qk_cast (show _ = σ 40 1 from by rw [qL_hi hN8 (by omega)]) ?_
    exact hret _ _ _ _ dX5_count_98 (qPx_ok (by simp [S_count, c_1_0, c_1_1, c_1_2, c_1_3, c_1_4, c_1_5]) rfl hT hW) rfl
  refine qk_eqc (6) (fun c_1_6 => ?_) (fun c_1_6 => ?_)
  · refine qk_tableIn C dX5_count_1 (6) c_1_6 (by decide) (by decide) rfl 99 rfl ?_
    refine qk_aloadn C dX5_count_99 100 rfl rfl 0 rfl ?_
    refine qk_get C dX5_count_100 103 rfl qf_X5_12 0 (by decide) rfl rfl ?_
    refine qk_get C dX5_count_103 106 rfl qf_X5_198 _ hL.l65 (qx_Fl hL _) rfl ?_
    refine qk_cast qL_j2 ?_
    exact hret _ _ _ _ dX5_count_106 (qPx_ok (by simp [S_count, c_1_0, c_1_1, c_1_2, c_1_3, c_1_4, c_1_5, c_1_6]) rfl hT hW) rfl
  refine qk_eqc (7) (fun c_1_7 => ?_) (fun c_1_7 => ?_)
  · refine qk_tableIn C dX5_count_1 (7) c_1_7 (by decide) (by decide) rfl 107 rfl ?_
    refine qk_aloadn C dX5_count_107 108 rfl rfl 0 rfl ?_
    refine qk_get C dX5_count_108 111 rfl qf_X5_12 0 (by decide) rfl rfl ?_
    refine qk_callV C dX5_count_111 114 rfl ql_X5_262 qc_X1_spotsTaken _ hL.l65 (qx_Fl hL _) rfl (c_X1_spotsTaken l G 1 N hL σ w hI) rfl rfl (Nat.le_of_ble_eq_true rfl) ⟨(Nat.le_of_ble_eq_true rfl), (Nat.le_of_ble_eq_true rfl)⟩ (qx_Ki ?_)
    exact hret _ _ _ _ dX5_count_114 (qPx_ok (by simp [S_count, c_1_0, c_1_1, c_1_2, c_1_3, c_1_4, c_1_5, c_1_6, c_1_7]) rfl hT hW) rfl
  refine qk_tableOut C dX5_count_1 (by have h0 := lv_neT c_1_0 (show (0 : Int32).toInt = 0 from rfl); have h1 := lv_neT c_1_1 (show (1 : Int32).toInt = 1 from rfl); have h2 := lv_neT c_1_2 (show (2 : Int32).toInt = 2 from rfl); have h3 := lv_neT c_1_3 (show (3 : Int32).toInt = 3 from rfl); have h4 := lv_neT c_1_4 (show (4 : Int32).toInt = 4 from rfl); have h5 := lv_neT c_1_5 (show (5 : Int32).toInt = 5 from rfl); have h6 := lv_neT c_1_6 (show (6 : Int32).toInt = 6 from rfl); have h7 := lv_neT c_1_7 (show (7 : Int32).toInt = 7 from rfl); omega) 115 rfl ?_
  refine qk_aloadn C dX5_count_115 116 rfl rfl 0 rfl ?_
  refine qk_ldc C dX5_count_116 118 rfl qw_321 ?_
  refine qk_callV C dX5_count_118 121 rfl ql_X5_58 qc_X5_found 0 (by decide) rfl rfl (c_X5_found l G _ _ 0 (by decide) (by decide)) rfl rfl (Nat.le_of_ble_eq_true rfl) ⟨(Nat.le_of_ble_eq_true rfl), (Nat.le_of_ble_eq_true rfl)⟩ (qx_Ki ?_)
  exact hret _ _ _ _ dX5_count_121 (qPx_bad 0 hN8 (by simp [S_count, c_1_0, c_1_1, c_1_2, c_1_3, c_1_4, c_1_5, c_1_6, c_1_7]) rfl hT hW) rfl

theorem c_X6_now (l : Launch) (G : qx_G) (σ : qx_Sg) (N : Nat) (v : Nat → Int32) (hI : qv_ok v N) (x : Int32) : qx_Ct l G yX6_now cX6_now 2 (some .int) 6 132 [.ref (qx_ad G 53), .int x] (va_up σ 54 v) (qMx σ (S_now N v x)) := by
  refine qx_of .int (lo := [(0, .ref (qx_ad G 53)), (1, .int x)]) (by decide +kernel) (Nat.le_of_ble_eq_true rfl) rfl (fun Δ (C : qx_C G Δ cX6_now RX6 2 6 132) hret => ?_)
  have hN8 := hI.1
  have hN1 := hI.2.1
  refine qk_iloadn C dX6_now_0 1 rfl rfl 1 rfl ?_
  refine qk_eqc (0) (fun c_1_0 => ?_) (fun c_1_0 => ?_)
  · refine qk_tableIn C dX6_now_1 (0) c_1_0 (by decide) (by decide) rfl 48 rfl ?_
    refine qk_aloadn C dX6_now_48 49 rfl rfl 0 rfl ?_
    refine qk_get C dX6_now_49 52 rfl qf_X6_9 53 (by decide) rfl rfl ?_
    refine qk_iconst C (0) dX6_now_52 53 rfl rfl ?_
    refine qk_iald C dX6_now_53 54 rfl 54 (by decide) (fun _ => rfl) (0) rfl (by omega) (by decide) ?_
    refine qk_cast (show _ = v (0) from rfl) ?_
    exact hret _ _ _ _ dX6_now_54 (qMx_ok (N := N) (by simp [S_now, c_1_0]) rfl mTr.rf.up qx_up_eq) rfl
  refine qk_eqc (1) (fun c_1_1 => ?_) (fun c_1_1 => ?_)
  · refine qk_tableIn C dX6_now_1 (1) c_1_1 (by decide) (by decide) rfl 55 rfl ?_
    refine qk_aloadn C dX6_now_55 56 rfl rfl 0 rfl ?_
    refine qk_get C dX6_now_56 59 rfl qf_X6_9 53 (by decide) rfl rfl ?_
    refine qk_iconst C (3) dX6_now_59 60 rfl rfl ?_
    refine qk_iald C dX6_now_60 61 rfl 54 (by decide) (fun _ => rfl) (3) rfl (by omega) (by decide) ?_
    refine qk_cast (show _ = v (3) from rfl) ?_
    exact hret _ _ _ _ dX6_now_61 (qMx_ok (N := N) (by simp [S_now, c_1_0, c_1_1]) rfl mTr.rf.up qx_up_eq) rfl
  refine qk_eqc (2) (fun c_1_2 => ?_) (fun c_1_2 => ?_)
  · refine qk_tableIn C dX6_now_1 (2) c_1_2 (by decide) (by decide) rfl 62 rfl ?_
    refine qk_aloadn C dX6_now_62 63 rfl rfl 0 rfl ?_
    refine qk_callV C dX6_now_63 66 rfl ql_X6_187 qc_X6_inStore 53 (by decide) rfl rfl (c_X6_inStore l G σ N v hI) rfl rfl (Nat.le_of_ble_eq_true rfl) ⟨(Nat.le_of_ble_eq_true rfl), (Nat.le_of_ble_eq_true rfl)⟩ (qx_Ki ?_)
    exact hret _ _ _ _ dX6_now_66 (qMx_ok (N := N) (by simp [S_now, c_1_0, c_1_1, c_1_2]) rfl mTr.rf.up qx_up_eq) rfl
  refine qk_eqc (3) (fun c_1_3 => ?_) (fun c_1_3 => ?_)
  · refine qk_tableIn C dX6_now_1 (3) c_1_3 (by decide) (by decide) rfl 67 rfl ?_
    refine qk_aloadn C dX6_now_67 68 rfl rfl 0 rfl ?_
    refine qk_callV C dX6_now_68 71 rfl ql_X6_190 qc_X6_wholeOnes 53 (by decide) rfl rfl (c_X6_wholeOnes l G σ N v hI) rfl rfl (Nat.le_of_ble_eq_true rfl) ⟨(Nat.le_of_ble_eq_true rfl), (Nat.le_of_ble_eq_true rfl)⟩ (qx_Ki ?_)
    exact hret _ _ _ _ dX6_now_71 (qMx_ok (N := N) (by simp [S_now, c_1_0, c_1_1, c_1_2, c_1_3]) rfl mTr.rf.up qx_up_eq) rfl
  refine qk_eqc (4) (fun c_1_4 => ?_) (fun c_1_4 => ?_)
  · refine qk_tableIn C dX6_now_1 (4) c_1_4 (by decide) (by decide) rfl 72 rfl ?_
    refine qk_aloadn C dX6_now_72 73 rfl rfl 0 rfl ?_
    refine qk_callV C dX6_now_73 76 rfl ql_X6_193 qc_X6_walkers 53 (by decide) rfl rfl (c_X6_walkers l G σ N v hI) rfl rfl (Nat.le_of_ble_eq_true rfl) ⟨(Nat.le_of_ble_eq_true rfl), (Nat.le_of_ble_eq_true rfl)⟩ (qx_Ki ?_)
    exact hret _ _ _ _ dX6_now_76 (qMx_ok (N := N) (by simp [S_now, c_1_0, c_1_1, c_1_2, c_1_3, c_1_4]) rfl mTr.rf.up qx_up_eq) rfl
  refine qk_eqc (5) (fun c_1_5 => ?_) (fun c_1_5 => ?_)
  · refine qk_tableIn C dX6_now_1 (5) c_1_5 (by decide) (by decide) rfl 77 rfl ?_
    refine qk_aloadn C dX6_now_77 78 rfl rfl 0 rfl ?_
    refine qk_callV C dX6_now_78 81 rfl ql_X6_196 qc_X6_loudest 53 (by decide) rfl rfl (c_X6_loudest l G σ N v hI) rfl rfl (Nat.le_of_ble_eq_true rfl) ⟨(Nat.le_of_ble_eq_true rfl), (Nat.le_of_ble_eq_true rfl)⟩ (qx_Ki ?_)
    exact hret _ _ _ _ dX6_now_81 (qMx_ok (N := N) (by simp [S_now, c_1_0, c_1_1, c_1_2, c_1_3, c_1_4, c_1_5]) rfl mTr.rf.up qx_up_eq) rfl
  refine qk_eqc (6) (fun c_1_6 => ?_) (fun c_1_6 => ?_)
  · refine qk_tableIn C dX6_now_1 (6) c_1_6 (by decide) (by decide) rfl 82 rfl ?_
    refine qk_aloadn C dX6_now_82 83 rfl rfl 0 rfl ?_
    refine qk_callV C dX6_now_83 86 rfl ql_X6_199 qc_X6_yearnings 53 (by decide) rfl rfl (c_X6_yearnings l G σ N v hI) rfl rfl (Nat.le_of_ble_eq_true rfl) ⟨(Nat.le_of_ble_eq_true rfl), (Nat.le_of_ble_eq_true rfl)⟩ (qx_Ki ?_)
    exact hret _ _ _ _ dX6_now_86 (qMx_ok (N := N) (by simp [S_now, c_1_0, c_1_1, c_1_2, c_1_3, c_1_4, c_1_5, c_1_6]) rfl mTr.rf.up qx_up_eq) rfl
  refine qk_eqc (7) (fun c_1_7 => ?_) (fun c_1_7 => ?_)
  · refine qk_tableIn C dX6_now_1 (7) c_1_7 (by decide) (by decide) rfl 87 rfl ?_
    refine qk_aloadn C dX6_now_87 88 rfl rfl 0 rfl ?_
    refine qk_callV C dX6_now_88 91 rfl ql_X6_202 qc_X6_goneOnes 53 (by decide) rfl rfl (c_X6_goneOnes l G σ N v hI) rfl rfl (Nat.le_of_ble_eq_true rfl) ⟨(Nat.le_of_ble_eq_true rfl), (Nat.le_of_ble_eq_true rfl)⟩ (qx_Ki ?_)
    exact hret _ _ _ _ dX6_now_91 (qMx_ok (N := N) (by simp [S_now, c_1_0, c_1_1, c_1_2, c_1_3, c_1_4, c_1_5, c_1_6, c_1_7]) rfl mTr.rf.up qx_up_eq) rfl
  refine qk_tableOut C dX6_now_1 (by have h0 := lv_neT c_1_0 (show (0 : Int32).toInt = 0 from rfl); have h1 := lv_neT c_1_1 (show (1 : Int32).toInt = 1 from rfl); have h2 := lv_neT c_1_2 (show (2 : Int32).toInt = 2 from rfl); have h3 := lv_neT c_1_3 (show (3 : Int32).toInt = 3 from rfl); have h4 := lv_neT c_1_4 (show (4 : Int32).toInt = 4 from rfl); have h5 := lv_neT c_1_5 (show (5 : Int32).toInt = 5 from rfl); have h6 := lv_neT c_1_6 (show (6 : Int32).toInt = 6 from rfl); have h7 := lv_neT c_1_7 (show (7 : Int32).toInt = 7 from rfl); omega) 92 rfl ?_
  refine qk_aloadn C dX6_now_92 93 rfl rfl 0 rfl ?_
  refine qk_ldc C dX6_now_93 95 rfl qw_947 ?_
  refine qk_callV C dX6_now_95 98 rfl ql_X6_66 qc_X6_finding 53 (by decide) rfl rfl (c_X6_finding l G _ _ 0 (by decide) (by decide)) rfl rfl (Nat.le_of_ble_eq_true rfl) ⟨(Nat.le_of_ble_eq_true rfl), (Nat.le_of_ble_eq_true rfl)⟩ (qx_Ki ?_)
  exact hret _ _ _ _ dX6_now_98 (qMx_bad (N := N) 0 (by simp [S_now, c_1_0, c_1_1, c_1_2, c_1_3, c_1_4, c_1_5, c_1_6, c_1_7]) rfl mTr.rf.up qx_up_eq) rfl

theorem c_X6_ahead (l : Launch) (G : qx_G) (σ : qx_Sg) (N : Nat) (v : Nat → Int32) (hI : qv_ok v N) (b x n : Int32) : qx_Ct l G yX6_ahead cX6_ahead 5 (some .int) 9 200 [.ref (qx_ad G 53), .int b, .int x, .int n] (va_up σ 54 v) (qMx σ (S_ahead N v b x n)) := by
  refine qx_of .int (lo := [(0, .ref (qx_ad G 53)), (1, .int b), (2, .int x), (3, .int n)]) (by decide +kernel) (Nat.le_of_ble_eq_true rfl) rfl (fun Δ (C : qx_C G Δ cX6_ahead RX6 5 9 200) hret => ?_)
  have hN8 := hI.1
  have hN1 := hI.2.1
  refine qk_iloadn C dX6_ahead_0 1 rfl rfl 2 rfl ?_
  refine qk_iconst C (2) dX6_ahead_1 2 rfl rfl ?_
  refine qk_iconst C (4) dX6_ahead_2 3 rfl rfl ?_
  refine qk_callS C dX6_ahead_3 6 rfl ql_X6_70 qc_X6_within (c_X6_within l G _ _ _ _) rfl rfl (Nat.le_of_ble_eq_true rfl) ⟨(Nat.le_of_ble_eq_true rfl), (Nat.le_of_ble_eq_true rfl)⟩ (qx_Ki ?_)
  refine qk_if_neB C dX6_ahead_6 21 rfl 9 rfl (fun c_6 => ?_) (fun c_6 => ?_)
  · refine qk_iconst C (1) dX6_ahead_21 22 rfl rfl ?_
    refine qk_goto C dX6_ahead_22 26 rfl ?_
    refine qk_istore C dX6_ahead_26 28 rfl (by decide) rfl ?_
    refine qk_aloadn C dX6_ahead_28 29 rfl rfl 1 rfl ?_
    refine qk_iloadn C dX6_ahead_29 30 rfl rfl 2 rfl ?_
    refine qk_callV C dX6_ahead_30 33 rfl ql_X6_137 qc_X6_isBust 53 (by decide) rfl rfl (c_X6_isBust l G σ N v hI _) rfl rfl (Nat.le_of_ble_eq_true rfl) ⟨(Nat.le_of_ble_eq_true rfl), (Nat.le_of_ble_eq_true rfl)⟩ (qx_Ki ?_)
    refine qk_if_eqB C dX6_ahead_33 61 rfl 36 rfl (fun c_33 => ?_) (fun c_33 => ?_)
    · refine qk_aloadn C dX6_ahead_61 62 rfl rfl 1 rfl ?_
      refine qk_ldc C dX6_ahead_62 64 rfl qw_947 ?_
      refine qk_callV C dX6_ahead_64 67 rfl ql_X6_66 qc_X6_finding 53 (by decide) rfl rfl (c_X6_finding l G _ _ 0 (by decide) (by decide)) rfl rfl (Nat.le_of_ble_eq_true rfl) ⟨(Nat.le_of_ble_eq_true rfl), (Nat.le_of_ble_eq_true rfl)⟩ (qx_Ki ?_)
      exact hret _ _ _ _ dX6_ahead_67 (qMx_bad 0 (zif_f (by first | exact fun q => c_33 q.2.1 | exact fun q => c_48 q.2.2 | exact fun q => (m_five_iff.mp q.1).elim c_6 (fun q => q.elim c_12 c_18))) rfl mTr.rf.up qx_up_eq) rfl
    · refine qk_iload C dX6_ahead_36 38 rfl 0 rfl ?_
      refine qk_if_eq C dX6_ahead_38 61 rfl 41 rfl (fun c => absurd c (by decide)) (fun _ => ?_)
      refine qk_iloadn C dX6_ahead_41 42 rfl rfl 4 rfl ?_
      refine qk_iconst C (0) dX6_ahead_42 43 rfl rfl ?_
      refine qk_bipush C (100) dX6_ahead_43 45 rfl rfl ?_
      refine qk_callS C dX6_ahead_45 48 rfl ql_X6_70 qc_X6_within (c_X6_within l G _ _ _ _) rfl rfl (Nat.le_of_ble_eq_true rfl) ⟨(Nat.le_of_ble_eq_true rfl), (Nat.le_of_ble_eq_true rfl)⟩ (qx_Ki ?_)
      refine qk_if_eqB C dX6_ahead_48 61 rfl 51 rfl (fun c_48 => ?_) (fun c_48 => ?_)
      · refine qk_aloadn C dX6_ahead_61 62 rfl rfl 1 rfl ?_
        refine qk_ldc C dX6_ahead_62 64 rfl qw_947 ?_
        refine qk_callV C dX6_ahead_64 67 rfl ql_X6_66 qc_X6_finding 53 (by decide) rfl rfl (c_X6_finding l G _ _ 0 (by decide) (by decide)) rfl rfl (Nat.le_of_ble_eq_true rfl) ⟨(Nat.le_of_ble_eq_true rfl), (Nat.le_of_ble_eq_true rfl)⟩ (qx_Ki ?_)
        exact hret _ _ _ _ dX6_ahead_67 (qMx_bad 0 (zif_f (by first | exact fun q => c_33 q.2.1 | exact fun q => c_48 q.2.2 | exact fun q => (m_five_iff.mp q.1).elim c_6 (fun q => q.elim c_12 c_18))) rfl mTr.rf.up qx_up_eq) rfl
      · have h5 : z_five x := (m_five_iff.mpr (by first | exact Or.inl c_6 | exact Or.inr (Or.inl c_12) | exact Or.inr (Or.inr c_18)))
        obtain ⟨jx, hjx, rfl⟩ := m_five_ex h5
        obtain ⟨jb, hjb, rfl⟩ := z_ib_ex c_33 hN8
        obtain ⟨jn, hjn, rfl⟩ := z_in_ex 100 rfl (by omega) c_48
        refine qk_aloadn C dX6_ahead_51 52 rfl rfl 1 rfl ?_
        refine qk_iloadn C dX6_ahead_52 53 rfl rfl 2 rfl ?_
        refine qk_iloadn C dX6_ahead_53 54 rfl rfl 3 rfl ?_
        refine qk_iloadn C dX6_ahead_54 55 rfl rfl 4 rfl ?_
        refine qk_callV C dX6_ahead_55 58 rfl ql_X6_208 qc_X6_toldBehind 53 (by decide) rfl rfl (c_X6_toldBehind l G σ N v hI jb hjb jx hjx jn (by omega)) rfl rfl (Nat.le_of_ble_eq_true rfl) ⟨(Nat.le_of_ble_eq_true rfl), (Nat.le_of_ble_eq_true rfl)⟩ (qx_Ki ?_)
        refine qk_goto C dX6_ahead_58 67 rfl ?_
        exact hret _ _ _ _ dX6_ahead_67 (qMx_ok ((zif_t ⟨h5, z_ib_nI hjb hN8, c_48⟩).trans (by rw [zn_nI (show jb < 2 ^ 31 by omega), zn_nI (show jn < 2 ^ 31 by omega)])) rfl mTr.rf.ua.up qx_up_eq) rfl
  · refine qk_iloadn C dX6_ahead_9 10 rfl rfl 2 rfl ?_
    refine qk_bipush C (6) dX6_ahead_10 12 rfl rfl ?_
    refine qk_icmp_eq C dX6_ahead_12 21 rfl 15 rfl (fun c_12 => ?_) (fun c_12 => ?_)
    · refine qk_iconst C (1) dX6_ahead_21 22 rfl rfl ?_
      refine qk_goto C dX6_ahead_22 26 rfl ?_
      refine qk_istore C dX6_ahead_26 28 rfl (by decide) rfl ?_
      refine qk_aloadn C dX6_ahead_28 29 rfl rfl 1 rfl ?_
      refine qk_iloadn C dX6_ahead_29 30 rfl rfl 2 rfl ?_
      refine qk_callV C dX6_ahead_30 33 rfl ql_X6_137 qc_X6_isBust 53 (by decide) rfl rfl (c_X6_isBust l G σ N v hI _) rfl rfl (Nat.le_of_ble_eq_true rfl) ⟨(Nat.le_of_ble_eq_true rfl), (Nat.le_of_ble_eq_true rfl)⟩ (qx_Ki ?_)
      refine qk_if_eqB C dX6_ahead_33 61 rfl 36 rfl (fun c_33 => ?_) (fun c_33 => ?_)
      · refine qk_aloadn C dX6_ahead_61 62 rfl rfl 1 rfl ?_
        refine qk_ldc C dX6_ahead_62 64 rfl qw_947 ?_
        refine qk_callV C dX6_ahead_64 67 rfl ql_X6_66 qc_X6_finding 53 (by decide) rfl rfl (c_X6_finding l G _ _ 0 (by decide) (by decide)) rfl rfl (Nat.le_of_ble_eq_true rfl) ⟨(Nat.le_of_ble_eq_true rfl), (Nat.le_of_ble_eq_true rfl)⟩ (qx_Ki ?_)
        exact hret _ _ _ _ dX6_ahead_67 (qMx_bad 0 (zif_f (by first | exact fun q => c_33 q.2.1 | exact fun q => c_48 q.2.2 | exact fun q => (m_five_iff.mp q.1).elim c_6 (fun q => q.elim c_12 c_18))) rfl mTr.rf.up qx_up_eq) rfl
      · refine qk_iload C dX6_ahead_36 38 rfl 0 rfl ?_
        refine qk_if_eq C dX6_ahead_38 61 rfl 41 rfl (fun c => absurd c (by decide)) (fun _ => ?_)
        refine qk_iloadn C dX6_ahead_41 42 rfl rfl 4 rfl ?_
        refine qk_iconst C (0) dX6_ahead_42 43 rfl rfl ?_
        refine qk_bipush C (100) dX6_ahead_43 45 rfl rfl ?_
        refine qk_callS C dX6_ahead_45 48 rfl ql_X6_70 qc_X6_within (c_X6_within l G _ _ _ _) rfl rfl (Nat.le_of_ble_eq_true rfl) ⟨(Nat.le_of_ble_eq_true rfl), (Nat.le_of_ble_eq_true rfl)⟩ (qx_Ki ?_)
        refine qk_if_eqB C dX6_ahead_48 61 rfl 51 rfl (fun c_48 => ?_) (fun c_48 => ?_)
        · refine qk_aloadn C dX6_ahead_61 62 rfl rfl 1 rfl ?_
          refine qk_ldc C dX6_ahead_62 64 rfl qw_947 ?_
          refine qk_callV C dX6_ahead_64 67 rfl ql_X6_66 qc_X6_finding 53 (by decide) rfl rfl (c_X6_finding l G _ _ 0 (by decide) (by decide)) rfl rfl (Nat.le_of_ble_eq_true rfl) ⟨(Nat.le_of_ble_eq_true rfl), (Nat.le_of_ble_eq_true rfl)⟩ (qx_Ki ?_)
          exact hret _ _ _ _ dX6_ahead_67 (qMx_bad 0 (zif_f (by first | exact fun q => c_33 q.2.1 | exact fun q => c_48 q.2.2 | exact fun q => (m_five_iff.mp q.1).elim c_6 (fun q => q.elim c_12 c_18))) rfl mTr.rf.up qx_up_eq) rfl
        · have h5 : z_five x := (m_five_iff.mpr (by first | exact Or.inl c_6 | exact Or.inr (Or.inl c_12) | exact Or.inr (Or.inr c_18)))
          obtain ⟨jx, hjx, rfl⟩ := m_five_ex h5
          obtain ⟨jb, hjb, rfl⟩ := z_ib_ex c_33 hN8
          obtain ⟨jn, hjn, rfl⟩ := z_in_ex 100 rfl (by omega) c_48
          refine qk_aloadn C dX6_ahead_51 52 rfl rfl 1 rfl ?_
          refine qk_iloadn C dX6_ahead_52 53 rfl rfl 2 rfl ?_
          refine qk_iloadn C dX6_ahead_53 54 rfl rfl 3 rfl ?_
          refine qk_iloadn C dX6_ahead_54 55 rfl rfl 4 rfl ?_
          refine qk_callV C dX6_ahead_55 58 rfl ql_X6_208 qc_X6_toldBehind 53 (by decide) rfl rfl (c_X6_toldBehind l G σ N v hI jb hjb jx hjx jn (by omega)) rfl rfl (Nat.le_of_ble_eq_true rfl) ⟨(Nat.le_of_ble_eq_true rfl), (Nat.le_of_ble_eq_true rfl)⟩ (qx_Ki ?_)
          refine qk_goto C dX6_ahead_58 67 rfl ?_
          exact hret _ _ _ _ dX6_ahead_67 (qMx_ok ((zif_t ⟨h5, z_ib_nI hjb hN8, c_48⟩).trans (by rw [zn_nI (show jb < 2 ^ 31 by omega), zn_nI (show jn < 2 ^ 31 by omega)])) rfl mTr.rf.ua.up qx_up_eq) rfl
    · refine qk_iloadn C dX6_ahead_15 16 rfl rfl 2 rfl ?_
      refine qk_bipush C (10) dX6_ahead_16 18 rfl rfl ?_
      refine qk_icmp_ne C dX6_ahead_18 25 rfl 21 rfl (fun c_18 => ?_) (fun c_18 => ?_)
      · refine qk_iconst C (0) dX6_ahead_25 26 rfl rfl ?_
        refine qk_istore C dX6_ahead_26 28 rfl (by decide) rfl ?_
        refine qk_aloadn C dX6_ahead_28 29 rfl rfl 1 rfl ?_
        refine qk_iloadn C dX6_ahead_29 30 rfl rfl 2 rfl ?_
        refine qk_callV C dX6_ahead_30 33 rfl ql_X6_137 qc_X6_isBust 53 (by decide) rfl rfl (c_X6_isBust l G σ N v hI _) rfl rfl (Nat.le_of_ble_eq_true rfl) ⟨(Nat.le_of_ble_eq_true rfl), (Nat.le_of_ble_eq_true rfl)⟩ (qx_Ki ?_)
        refine qk_if_eqB C dX6_ahead_33 61 rfl 36 rfl (fun c_33 => ?_) (fun c_33 => ?_)
        · refine qk_aloadn C dX6_ahead_61 62 rfl rfl 1 rfl ?_
          refine qk_ldc C dX6_ahead_62 64 rfl qw_947 ?_
          refine qk_callV C dX6_ahead_64 67 rfl ql_X6_66 qc_X6_finding 53 (by decide) rfl rfl (c_X6_finding l G _ _ 0 (by decide) (by decide)) rfl rfl (Nat.le_of_ble_eq_true rfl) ⟨(Nat.le_of_ble_eq_true rfl), (Nat.le_of_ble_eq_true rfl)⟩ (qx_Ki ?_)
          exact hret _ _ _ _ dX6_ahead_67 (qMx_bad 0 (zif_f (by first | exact fun q => c_33 q.2.1 | exact fun q => c_48 q.2.2 | exact fun q => (m_five_iff.mp q.1).elim c_6 (fun q => q.elim c_12 c_18))) rfl mTr.rf.up qx_up_eq) rfl
        · refine qk_iload C dX6_ahead_36 38 rfl 0 rfl ?_
          refine qk_if_eq C dX6_ahead_38 61 rfl 41 rfl (fun _ => ?_) (fun c => absurd rfl c)
          refine qk_aloadn C dX6_ahead_61 62 rfl rfl 1 rfl ?_
          refine qk_ldc C dX6_ahead_62 64 rfl qw_947 ?_
          refine qk_callV C dX6_ahead_64 67 rfl ql_X6_66 qc_X6_finding 53 (by decide) rfl rfl (c_X6_finding l G _ _ 0 (by decide) (by decide)) rfl rfl (Nat.le_of_ble_eq_true rfl) ⟨(Nat.le_of_ble_eq_true rfl), (Nat.le_of_ble_eq_true rfl)⟩ (qx_Ki ?_)
          exact hret _ _ _ _ dX6_ahead_67 (qMx_bad 0 (zif_f (by first | exact fun q => c_33 q.2.1 | exact fun q => c_48 q.2.2 | exact fun q => (m_five_iff.mp q.1).elim c_6 (fun q => q.elim c_12 c_18))) rfl mTr.rf.up qx_up_eq) rfl
      · refine qk_iconst C (1) dX6_ahead_21 22 rfl rfl ?_
        refine qk_goto C dX6_ahead_22 26 rfl ?_
        refine qk_istore C dX6_ahead_26 28 rfl (by decide) rfl ?_
        refine qk_aloadn C dX6_ahead_28 29 rfl rfl 1 rfl ?_
        refine qk_iloadn C dX6_ahead_29 30 rfl rfl 2 rfl ?_
        refine qk_callV C dX6_ahead_30 33 rfl ql_X6_137 qc_X6_isBust 53 (by decide) rfl rfl (c_X6_isBust l G σ N v hI _) rfl rfl (Nat.le_of_ble_eq_true rfl) ⟨(Nat.le_of_ble_eq_true rfl), (Nat.le_of_ble_eq_true rfl)⟩ (qx_Ki ?_)
        refine qk_if_eqB C dX6_ahead_33 61 rfl 36 rfl (fun c_33 => ?_) (fun c_33 => ?_)
        · refine qk_aloadn C dX6_ahead_61 62 rfl rfl 1 rfl ?_
          refine qk_ldc C dX6_ahead_62 64 rfl qw_947 ?_
          refine qk_callV C dX6_ahead_64 67 rfl ql_X6_66 qc_X6_finding 53 (by decide) rfl rfl (c_X6_finding l G _ _ 0 (by decide) (by decide)) rfl rfl (Nat.le_of_ble_eq_true rfl) ⟨(Nat.le_of_ble_eq_true rfl), (Nat.le_of_ble_eq_true rfl)⟩ (qx_Ki ?_)
          exact hret _ _ _ _ dX6_ahead_67 (qMx_bad 0 (zif_f (by first | exact fun q => c_33 q.2.1 | exact fun q => c_48 q.2.2 | exact fun q => (m_five_iff.mp q.1).elim c_6 (fun q => q.elim c_12 c_18))) rfl mTr.rf.up qx_up_eq) rfl
        · refine qk_iload C dX6_ahead_36 38 rfl 0 rfl ?_
          refine qk_if_eq C dX6_ahead_38 61 rfl 41 rfl (fun c => absurd c (by decide)) (fun _ => ?_)
          refine qk_iloadn C dX6_ahead_41 42 rfl rfl 4 rfl ?_
          refine qk_iconst C (0) dX6_ahead_42 43 rfl rfl ?_
          refine qk_bipush C (100) dX6_ahead_43 45 rfl rfl ?_
          refine qk_callS C dX6_ahead_45 48 rfl ql_X6_70 qc_X6_within (c_X6_within l G _ _ _ _) rfl rfl (Nat.le_of_ble_eq_true rfl) ⟨(Nat.le_of_ble_eq_true rfl), (Nat.le_of_ble_eq_true rfl)⟩ (qx_Ki ?_)
          refine qk_if_eqB C dX6_ahead_48 61 rfl 51 rfl (fun c_48 => ?_) (fun c_48 => ?_)
          · refine qk_aloadn C dX6_ahead_61 62 rfl rfl 1 rfl ?_
            refine qk_ldc C dX6_ahead_62 64 rfl qw_947 ?_
            refine qk_callV C dX6_ahead_64 67 rfl ql_X6_66 qc_X6_finding 53 (by decide) rfl rfl (c_X6_finding l G _ _ 0 (by decide) (by decide)) rfl rfl (Nat.le_of_ble_eq_true rfl) ⟨(Nat.le_of_ble_eq_true rfl), (Nat.le_of_ble_eq_true rfl)⟩ (qx_Ki ?_)
            exact hret _ _ _ _ dX6_ahead_67 (qMx_bad 0 (zif_f (by first | exact fun q => c_33 q.2.1 | exact fun q => c_48 q.2.2 | exact fun q => (m_five_iff.mp q.1).elim c_6 (fun q => q.elim c_12 c_18))) rfl mTr.rf.up qx_up_eq) rfl
          · have h5 : z_five x := (m_five_iff.mpr (by first | exact Or.inl c_6 | exact Or.inr (Or.inl c_12) | exact Or.inr (Or.inr c_18)))
            obtain ⟨jx, hjx, rfl⟩ := m_five_ex h5
            obtain ⟨jb, hjb, rfl⟩ := z_ib_ex c_33 hN8
            obtain ⟨jn, hjn, rfl⟩ := z_in_ex 100 rfl (by omega) c_48
            refine qk_aloadn C dX6_ahead_51 52 rfl rfl 1 rfl ?_
            refine qk_iloadn C dX6_ahead_52 53 rfl rfl 2 rfl ?_
            refine qk_iloadn C dX6_ahead_53 54 rfl rfl 3 rfl ?_
            refine qk_iloadn C dX6_ahead_54 55 rfl rfl 4 rfl ?_
            refine qk_callV C dX6_ahead_55 58 rfl ql_X6_208 qc_X6_toldBehind 53 (by decide) rfl rfl (c_X6_toldBehind l G σ N v hI jb hjb jx hjx jn (by omega)) rfl rfl (Nat.le_of_ble_eq_true rfl) ⟨(Nat.le_of_ble_eq_true rfl), (Nat.le_of_ble_eq_true rfl)⟩ (qx_Ki ?_)
            refine qk_goto C dX6_ahead_58 67 rfl ?_
            exact hret _ _ _ _ dX6_ahead_67 (qMx_ok ((zif_t ⟨h5, z_ib_nI hjb hN8, c_48⟩).trans (by rw [zn_nI (show jb < 2 ^ 31 by omega), zn_nI (show jn < 2 ^ 31 by omega)])) rfl mTr.rf.ua.up qx_up_eq) rfl

theorem c_X6_left (l : Launch) (G : qx_G) (σ : qx_Sg) (N : Nat) (v : Nat → Int32) (hI : qv_ok v N) (n : Int32) : qx_Ct l G yX6_left cX6_left 2 (some .int) 9 199 [.ref (qx_ad G 53), .int n] (va_up σ 54 v) (qMx σ (S_left N v n)) := by
  refine qx_of .int (lo := [(0, .ref (qx_ad G 53)), (1, .int n)]) (by decide +kernel) (Nat.le_of_ble_eq_true rfl) rfl (fun Δ (C : qx_C G Δ cX6_left RX6 2 9 199) hret => ?_)
  have hN8 := hI.1
  have hN1 := hI.2.1
  refine qk_iloadn C dX6_left_0 1 rfl rfl 1 rfl ?_
  refine qk_iconst C (0) dX6_left_1 2 rfl rfl ?_
  refine qk_bipush C (100) dX6_left_2 4 rfl rfl ?_
  refine qk_callS C dX6_left_4 7 rfl ql_X6_70 qc_X6_within (c_X6_within l G _ _ _ _) rfl rfl (Nat.le_of_ble_eq_true rfl) ⟨(Nat.le_of_ble_eq_true rfl), (Nat.le_of_ble_eq_true rfl)⟩ (qx_Ki ?_)
  refine qk_if_eqB C dX6_left_7 19 rfl 10 rfl (fun c_7 => ?_) (fun c_7 => ?_)
  · refine qk_aloadn C dX6_left_19 20 rfl rfl 0 rfl ?_
    refine qk_ldc C dX6_left_20 22 rfl qw_947 ?_
    refine qk_callV C dX6_left_22 25 rfl ql_X6_66 qc_X6_finding 53 (by decide) rfl rfl (c_X6_finding l G _ _ 0 (by decide) (by decide)) rfl rfl (Nat.le_of_ble_eq_true rfl) ⟨(Nat.le_of_ble_eq_true rfl), (Nat.le_of_ble_eq_true rfl)⟩ (qx_Ki ?_)
    exact hret _ _ _ _ dX6_left_25 (qMx_bad 0 (zif_f (by first | exact fun q => c_7 q)) rfl mTr.rf.up qx_up_eq) rfl
  · obtain ⟨jn, hjn, rfl⟩ := z_in_ex 100 rfl (by omega) c_7
    refine qk_aloadn C dX6_left_10 11 rfl rfl 0 rfl ?_
    refine qk_iconst C (3) dX6_left_11 12 rfl rfl ?_
    refine qk_iloadn C dX6_left_12 13 rfl rfl 1 rfl ?_
    refine qk_callV C dX6_left_13 16 rfl ql_X6_212 qc_X6_behind 53 (by decide) rfl rfl (c_X6_behind l G σ N v hI 3 (by omega) jn (by omega)) rfl rfl (Nat.le_of_ble_eq_true rfl) ⟨(Nat.le_of_ble_eq_true rfl), (Nat.le_of_ble_eq_true rfl)⟩ (qx_Ki ?_)
    refine qk_goto C dX6_left_16 25 rfl ?_
    exact hret _ _ _ _ dX6_left_25 (qMx_ok ((zif_t c_7).trans (by rw [zn_nI (show jn < 2 ^ 31 by omega)])) rfl mTr.rf.ua.up qx_up_eq) rfl

theorem c_X6_when (l : Launch) (G : qx_G) (σ : qx_Sg) (N : Nat) (v : Nat → Int32) (hI : qv_ok v N) (b p : Int32) : qx_Ct l G yX6_when cX6_when 4 (some .int) 7 155 [.ref (qx_ad G 53), .int b, .int p] (va_up σ 54 v) (qMx σ (S_when N v b p)) := by
  refine qx_of .int (lo := [(0, .ref (qx_ad G 53)), (1, .int b), (2, .int p)]) (by decide +kernel) (Nat.le_of_ble_eq_true rfl) rfl (fun Δ (C : qx_C G Δ cX6_when RX6 4 7 155) hret => ?_)
  have hN8 := hI.1
  have hN1 := hI.2.1
  refine qk_aloadn C dX6_when_0 1 rfl rfl 0 rfl ?_
  refine qk_iloadn C dX6_when_1 2 rfl rfl 1 rfl ?_
  refine qk_callV C dX6_when_2 5 rfl ql_X6_137 qc_X6_isBust 53 (by decide) rfl rfl (c_X6_isBust l G σ N v hI _) rfl rfl (Nat.le_of_ble_eq_true rfl) ⟨(Nat.le_of_ble_eq_true rfl), (Nat.le_of_ble_eq_true rfl)⟩ (qx_Ki ?_)
  refine qk_if_eqB C dX6_when_5 15 rfl 8 rfl (fun c_5 => ?_) (fun c_5 => ?_)
  · refine qk_aloadn C dX6_when_15 16 rfl rfl 0 rfl ?_
    refine qk_ldc C dX6_when_16 18 rfl qw_947 ?_
    refine qk_callV C dX6_when_18 21 rfl ql_X6_66 qc_X6_finding 53 (by decide) rfl rfl (c_X6_finding l G _ _ 0 (by decide) (by decide)) rfl rfl (Nat.le_of_ble_eq_true rfl) ⟨(Nat.le_of_ble_eq_true rfl), (Nat.le_of_ble_eq_true rfl)⟩ (qx_Ki ?_)
    exact hret _ _ _ _ dX6_when_21 (qMx_bad 0 (zif_f (by first | exact fun q => c_5 q.1 | exact fun q => c_12 q.2)) rfl mTr.rf.up qx_up_eq) rfl
  · refine qk_iloadn C dX6_when_8 9 rfl rfl 2 rfl ?_
    refine qk_callS C dX6_when_9 12 rfl ql_X6_85 qc_X6_isPart (c_X6_isPart l G _ _) rfl rfl (Nat.le_of_ble_eq_true rfl) ⟨(Nat.le_of_ble_eq_true rfl), (Nat.le_of_ble_eq_true rfl)⟩ (qx_Ki ?_)
    refine qk_if_neB C dX6_when_12 22 rfl 15 rfl (fun c_12 => ?_) (fun c_12 => ?_)
    · obtain ⟨jb, hjb, rfl⟩ := z_ib_ex c_5 hN8
      refine qk_aloadn C dX6_when_22 23 rfl rfl 0 rfl ?_
      refine qk_get C dX6_when_23 26 rfl qf_X6_9 53 (by decide) rfl rfl ?_
      refine qk_aloadn C dX6_when_26 27 rfl rfl 0 rfl ?_
      refine qk_get C dX6_when_27 30 rfl qf_X6_16 53 (by decide) rfl rfl ?_
      refine qk_callS C dX6_when_30 33 rfl ql_X6_61 qc_X6_copyRow (c_X6_copyRow l G _ 54 56 (Or.inl rfl) (Or.inr (Or.inr rfl)) (by decide)) rfl rfl (Nat.le_of_ble_eq_true rfl) ⟨(Nat.le_of_ble_eq_true rfl), (Nat.le_of_ble_eq_true rfl)⟩ (qx_Kv ?_)
      refine qk_sg _ m_as ?_
      refine qk_iconst C (nI 0) dX6_when_33 34 rfl rfl ?_
      refine qk_istoren C dX6_when_34 35 rfl rfl (by decide) rfl ?_
      have lp_35 : ∀ (n_35 : Nat) (d : Nat), (d ≤ 200 ∧ z_ls (fun d => z_hs (z_dn v N d (32 + 7 * jb + 2)) p) 201 0 = z_ls (fun d => z_hs (z_dn v N d (32 + 7 * jb + 2)) p) (201 - d) d) → 201 - d < n_35 → qx_K l G Δ (va_up (va_up σ 56 v) 54 (z_dn v N d)) 35 [(3, .int (nI d)), (0, .ref (qx_ad G 53)), (1, .int (nI jb)), (2, .int p)] [] := by
        intro n_35
        induction n_35 with
        | zero => intro _ _ h9; exact absurd h9 (Nat.not_lt_zero _)
        | succ n_35 ih_35 =>
          intro d hi hm_35
          refine qk_iloadn C dX6_when_35 36 rfl rfl 0 rfl ?_
          refine qk_sipush C (nI 200) dX6_when_36 39 rfl rfl ?_
          refine qk_icmp_ge C dX6_when_39 61 rfl 42 rfl (fun c_39 => ?_) (fun c_39 => ?_)
          · have h200 : d = 200 := by
              have := (nI_leI (a := 200) (b := d) (by omega) (by omega)).mp c_39
              omega
            refine qk_aloadn C dX6_when_61 62 rfl rfl 1 rfl ?_
            refine qk_aloadn C dX6_when_62 63 rfl rfl 1 rfl ?_
            refine qk_aloadn C dX6_when_63 64 rfl rfl 1 rfl ?_
            refine qk_iloadn C dX6_when_64 65 rfl rfl 2 rfl ?_
            refine qk_iloadn C dX6_when_65 66 rfl rfl 3 rfl ?_
            refine qk_callV C dX6_when_66 69 rfl ql_X6_104 qc_X6_has 53 (by decide) rfl rfl (c_X6_has l G _ _ jb (by omega) _) rfl rfl (Nat.le_of_ble_eq_true rfl) ⟨(Nat.le_of_ble_eq_true rfl), (Nat.le_of_ble_eq_true rfl)⟩ (qx_Ki ?_)
            refine qk_if_eqB C dX6_when_69 76 rfl 72 rfl (fun c_69 => ?_) (fun c_69 => ?_)
            · refine qk_iconst C ((-1)) dX6_when_76 77 rfl rfl ?_
              refine qk_callV C dX6_when_77 80 rfl ql_X6_205 qc_X6_putBack 53 (by decide) rfl rfl (c_X6_putBack l G _ _) rfl rfl (Nat.le_of_ble_eq_true rfl) ⟨(Nat.le_of_ble_eq_true rfl), (Nat.le_of_ble_eq_true rfl)⟩ (qx_Ki ?_)
              refine qk_sg _ m_pb ?_
              refine qk_callV C dX6_when_80 83 rfl ql_X6_155 qc_X6_orNone 53 (by decide) rfl rfl (c_X6_orNone l G _ none (fun b e => by cases e)) rfl rfl (Nat.le_of_ble_eq_true rfl) ⟨(Nat.le_of_ble_eq_true rfl), (Nat.le_of_ble_eq_true rfl)⟩ (qx_Ki ?_)
              exact hret _ _ _ _ dX6_when_83 (qMx_on ((zif_t ⟨z_ib_nI hjb hN8, c_12⟩).trans (by rw [zn_nI (show jb < 2 ^ 31 by omega)]; exact congrArg (fun o => z_on o N v) (hi.2.trans (by subst h200; exact z_ls_f c_69)))) rfl mTr.rf.ua.up qx_up_eq) rfl
            · refine qk_iloadn C dX6_when_72 73 rfl rfl 0 rfl ?_
              refine qk_goto C dX6_when_73 77 rfl ?_
              refine qk_callV C dX6_when_77 80 rfl ql_X6_205 qc_X6_putBack 53 (by decide) rfl rfl (c_X6_putBack l G _ _) rfl rfl (Nat.le_of_ble_eq_true rfl) ⟨(Nat.le_of_ble_eq_true rfl), (Nat.le_of_ble_eq_true rfl)⟩ (qx_Ki ?_)
              refine qk_sg _ m_pb ?_
              refine qk_callV C dX6_when_80 83 rfl ql_X6_155 qc_X6_orNone 53 (by decide) rfl rfl (c_X6_orNone l G _ (some d) (fun b e => by cases e; omega)) rfl rfl (Nat.le_of_ble_eq_true rfl) ⟨(Nat.le_of_ble_eq_true rfl), (Nat.le_of_ble_eq_true rfl)⟩ (qx_Ki ?_)
              exact hret _ _ _ _ dX6_when_83 (qMx_on ((zif_t ⟨z_ib_nI hjb hN8, c_12⟩).trans (by rw [zn_nI (show jb < 2 ^ 31 by omega)]; exact congrArg (fun o => z_on o N v) (hi.2.trans (by rw [show 201 - d = (201 - (d + 1)) + 1 by omega]; exact z_ls_t c_69)))) rfl mTr.rf.ua.up qx_up_eq) rfl
          · have h200 : d < 200 := by
              exact Nat.not_le.mp (fun q => c_39 ((nI_leI (a := 200) (b := d) (by omega) (by omega)).mpr q))
            refine qk_aloadn C dX6_when_42 43 rfl rfl 1 rfl ?_
            refine qk_iloadn C dX6_when_43 44 rfl rfl 2 rfl ?_
            refine qk_iloadn C dX6_when_44 45 rfl rfl 3 rfl ?_
            refine qk_callV C dX6_when_45 48 rfl ql_X6_104 qc_X6_has 53 (by decide) rfl rfl (c_X6_has l G _ _ jb (by omega) _) rfl rfl (Nat.le_of_ble_eq_true rfl) ⟨(Nat.le_of_ble_eq_true rfl), (Nat.le_of_ble_eq_true rfl)⟩ (qx_Ki ?_)
            refine qk_if_neB C dX6_when_48 61 rfl 51 rfl (fun c_48 => ?_) (fun c_48 => ?_)
            · refine qk_aloadn C dX6_when_61 62 rfl rfl 1 rfl ?_
              refine qk_aloadn C dX6_when_62 63 rfl rfl 1 rfl ?_
              refine qk_aloadn C dX6_when_63 64 rfl rfl 1 rfl ?_
              refine qk_iloadn C dX6_when_64 65 rfl rfl 2 rfl ?_
              refine qk_iloadn C dX6_when_65 66 rfl rfl 3 rfl ?_
              refine qk_callV C dX6_when_66 69 rfl ql_X6_104 qc_X6_has 53 (by decide) rfl rfl (c_X6_has l G _ _ jb (by omega) _) rfl rfl (Nat.le_of_ble_eq_true rfl) ⟨(Nat.le_of_ble_eq_true rfl), (Nat.le_of_ble_eq_true rfl)⟩ (qx_Ki ?_)
              refine qk_if_eqB C dX6_when_69 76 rfl 72 rfl (fun c_69 => ?_) (fun c_69 => ?_)
              · refine qk_iconst C ((-1)) dX6_when_76 77 rfl rfl ?_
                refine qk_callV C dX6_when_77 80 rfl ql_X6_205 qc_X6_putBack 53 (by decide) rfl rfl (c_X6_putBack l G _ _) rfl rfl (Nat.le_of_ble_eq_true rfl) ⟨(Nat.le_of_ble_eq_true rfl), (Nat.le_of_ble_eq_true rfl)⟩ (qx_Ki ?_)
                refine qk_sg _ m_pb ?_
                refine qk_callV C dX6_when_80 83 rfl ql_X6_155 qc_X6_orNone 53 (by decide) rfl rfl (c_X6_orNone l G _ none (fun b e => by cases e)) rfl rfl (Nat.le_of_ble_eq_true rfl) ⟨(Nat.le_of_ble_eq_true rfl), (Nat.le_of_ble_eq_true rfl)⟩ (qx_Ki ?_)
                exact hret _ _ _ _ dX6_when_83 (absurd c_48 c_69) rfl
              · refine qk_iloadn C dX6_when_72 73 rfl rfl 0 rfl ?_
                refine qk_goto C dX6_when_73 77 rfl ?_
                refine qk_callV C dX6_when_77 80 rfl ql_X6_205 qc_X6_putBack 53 (by decide) rfl rfl (c_X6_putBack l G _ _) rfl rfl (Nat.le_of_ble_eq_true rfl) ⟨(Nat.le_of_ble_eq_true rfl), (Nat.le_of_ble_eq_true rfl)⟩ (qx_Ki ?_)
                refine qk_sg _ m_pb ?_
                refine qk_callV C dX6_when_80 83 rfl ql_X6_155 qc_X6_orNone 53 (by decide) rfl rfl (c_X6_orNone l G _ (some d) (fun b e => by cases e; omega)) rfl rfl (Nat.le_of_ble_eq_true rfl) ⟨(Nat.le_of_ble_eq_true rfl), (Nat.le_of_ble_eq_true rfl)⟩ (qx_Ki ?_)
                exact hret _ _ _ _ dX6_when_83 (qMx_on ((zif_t ⟨z_ib_nI hjb hN8, c_12⟩).trans (by rw [zn_nI (show jb < 2 ^ 31 by omega)]; exact congrArg (fun o => z_on o N v) (hi.2.trans (by rw [show 201 - d = (201 - (d + 1)) + 1 by omega]; exact z_ls_t c_69)))) rfl mTr.rf.ua.up qx_up_eq) rfl
            · refine qk_aloadn C dX6_when_51 52 rfl rfl 1 rfl ?_
              refine qk_callV C dX6_when_52 55 rfl ql_X6_181 qc_X6_day 53 (by decide) rfl rfl (c_X6_day l G _ N _ (qv_dn hI d)) rfl rfl (Nat.le_of_ble_eq_true rfl) ⟨(Nat.le_of_ble_eq_true rfl), (Nat.le_of_ble_eq_true rfl)⟩ (qx_Kv ?_)
              refine qk_iinc C (nI (d + 1)) dX6_when_55 58 rfl 0 rfl (nI_1 d) (by decide) rfl ?_
              refine qk_goto C dX6_when_58 35 rfl ?_
              exact ih_35 (d + 1) ⟨by omega, by rw [hi.2, show 201 - d = (201 - (d + 1)) + 1 by omega]; exact z_ls_f c_48⟩ (by omega)
      exact lp_35 _ 0 ⟨by omega, rfl⟩ (Nat.lt_succ_self _)
    · refine qk_aloadn C dX6_when_15 16 rfl rfl 0 rfl ?_
      refine qk_ldc C dX6_when_16 18 rfl qw_947 ?_
      refine qk_callV C dX6_when_18 21 rfl ql_X6_66 qc_X6_finding 53 (by decide) rfl rfl (c_X6_finding l G _ _ 0 (by decide) (by decide)) rfl rfl (Nat.le_of_ble_eq_true rfl) ⟨(Nat.le_of_ble_eq_true rfl), (Nat.le_of_ble_eq_true rfl)⟩ (qx_Ki ?_)
      exact hret _ _ _ _ dX6_when_21 (qMx_bad 0 (zif_f (by first | exact fun q => c_5 q.1 | exact fun q => c_12 q.2)) rfl mTr.rf.up qx_up_eq) rfl

theorem c_X6_leaves (l : Launch) (G : qx_G) (σ : qx_Sg) (N : Nat) (v : Nat → Int32) (hI : qv_ok v N) (b : Int32) : qx_Ct l G yX6_leaves cX6_leaves 3 (some .int) 7 155 [.ref (qx_ad G 53), .int b] (va_up σ 54 v) (qMx σ (S_leaves N v b)) := by
  refine qx_of .int (lo := [(0, .ref (qx_ad G 53)), (1, .int b)]) (by decide +kernel) (Nat.le_of_ble_eq_true rfl) rfl (fun Δ (C : qx_C G Δ cX6_leaves RX6 3 7 155) hret => ?_)
  have hN8 := hI.1
  have hN1 := hI.2.1
  refine qk_aloadn C dX6_leaves_0 1 rfl rfl 0 rfl ?_
  refine qk_iloadn C dX6_leaves_1 2 rfl rfl 1 rfl ?_
  refine qk_callV C dX6_leaves_2 5 rfl ql_X6_137 qc_X6_isBust 53 (by decide) rfl rfl (c_X6_isBust l G σ N v hI _) rfl rfl (Nat.le_of_ble_eq_true rfl) ⟨(Nat.le_of_ble_eq_true rfl), (Nat.le_of_ble_eq_true rfl)⟩ (qx_Ki ?_)
  refine qk_if_neB C dX6_leaves_5 15 rfl 8 rfl (fun c_5 => ?_) (fun c_5 => ?_)
  · obtain ⟨jb, hjb, rfl⟩ := z_ib_ex c_5 hN8
    refine qk_aloadn C dX6_leaves_15 16 rfl rfl 0 rfl ?_
    refine qk_get C dX6_leaves_16 19 rfl qf_X6_9 53 (by decide) rfl rfl ?_
    refine qk_aloadn C dX6_leaves_19 20 rfl rfl 0 rfl ?_
    refine qk_get C dX6_leaves_20 23 rfl qf_X6_16 53 (by decide) rfl rfl ?_
    refine qk_callS C dX6_leaves_23 26 rfl ql_X6_61 qc_X6_copyRow (c_X6_copyRow l G _ 54 56 (Or.inl rfl) (Or.inr (Or.inr rfl)) (by decide)) rfl rfl (Nat.le_of_ble_eq_true rfl) ⟨(Nat.le_of_ble_eq_true rfl), (Nat.le_of_ble_eq_true rfl)⟩ (qx_Kv ?_)
    refine qk_sg _ m_as ?_
    refine qk_iconst C (nI 0) dX6_leaves_26 27 rfl rfl ?_
    refine qk_istoren C dX6_leaves_27 28 rfl rfl (by decide) rfl ?_
    have lp_28 : ∀ (n_28 : Nat) (d : Nat), (d ≤ 200 ∧ z_ls (fun d => ¬ z_tell (z_row (z_dn v N d) jb) 6 < 1) 201 0 = z_ls (fun d => ¬ z_tell (z_row (z_dn v N d) jb) 6 < 1) (201 - d) d) → 201 - d < n_28 → qx_K l G Δ (va_up (va_up σ 56 v) 54 (z_dn v N d)) 28 [(2, .int (nI d)), (0, .ref (qx_ad G 53)), (1, .int (nI jb))] [] := by
      intro n_28
      induction n_28 with
      | zero => intro _ _ h9; exact absurd h9 (Nat.not_lt_zero _)
      | succ n_28 ih_28 =>
        intro d hi hm_28
        refine qk_iloadn C dX6_leaves_28 29 rfl rfl 0 rfl ?_
        refine qk_sipush C (nI 200) dX6_leaves_29 32 rfl rfl ?_
        refine qk_icmp_ge C dX6_leaves_32 53 rfl 35 rfl (fun c_32 => ?_) (fun c_32 => ?_)
        · have h200 : d = 200 := by
            have := (nI_leI (a := 200) (b := d) (by omega) (by omega)).mp c_32
            omega
          refine qk_aloadn C dX6_leaves_53 54 rfl rfl 1 rfl ?_
          refine qk_aloadn C dX6_leaves_54 55 rfl rfl 1 rfl ?_
          refine qk_aloadn C dX6_leaves_55 56 rfl rfl 1 rfl ?_
          refine qk_iloadn C dX6_leaves_56 57 rfl rfl 2 rfl ?_
          refine qk_callV C dX6_leaves_57 60 rfl ql_X6_149 qc_X6_isGone 53 (by decide) rfl rfl (c_X6_isGone l G _ _ jb (by omega)) rfl rfl (Nat.le_of_ble_eq_true rfl) ⟨(Nat.le_of_ble_eq_true rfl), (Nat.le_of_ble_eq_true rfl)⟩ (qx_Ki ?_)
          refine qk_if_eqB C dX6_leaves_60 67 rfl 63 rfl (fun c_60 => ?_) (fun c_60 => ?_)
          · refine qk_iconst C ((-1)) dX6_leaves_67 68 rfl rfl ?_
            refine qk_callV C dX6_leaves_68 71 rfl ql_X6_205 qc_X6_putBack 53 (by decide) rfl rfl (c_X6_putBack l G _ _) rfl rfl (Nat.le_of_ble_eq_true rfl) ⟨(Nat.le_of_ble_eq_true rfl), (Nat.le_of_ble_eq_true rfl)⟩ (qx_Ki ?_)
            refine qk_sg _ m_pb ?_
            refine qk_callV C dX6_leaves_71 74 rfl ql_X6_155 qc_X6_orNone 53 (by decide) rfl rfl (c_X6_orNone l G _ none (fun b e => by cases e)) rfl rfl (Nat.le_of_ble_eq_true rfl) ⟨(Nat.le_of_ble_eq_true rfl), (Nat.le_of_ble_eq_true rfl)⟩ (qx_Ki ?_)
            exact hret _ _ _ _ dX6_leaves_74 (qMx_on ((zif_t (z_ib_nI hjb hN8)).trans (by rw [zn_nI (show jb < 2 ^ 31 by omega)]; exact congrArg (fun o => z_on o N v) (hi.2.trans (by subst h200; exact z_ls_f (fun q => c_60 ((m_gn ((qv_dn hI 200).2.2.2.2.1 jb hjb).2.2).mpr (by rw [m_t6] at q; exact q))))))) rfl mTr.rf.ua.up qx_up_eq) rfl
          · refine qk_iloadn C dX6_leaves_63 64 rfl rfl 0 rfl ?_
            refine qk_goto C dX6_leaves_64 68 rfl ?_
            refine qk_callV C dX6_leaves_68 71 rfl ql_X6_205 qc_X6_putBack 53 (by decide) rfl rfl (c_X6_putBack l G _ _) rfl rfl (Nat.le_of_ble_eq_true rfl) ⟨(Nat.le_of_ble_eq_true rfl), (Nat.le_of_ble_eq_true rfl)⟩ (qx_Ki ?_)
            refine qk_sg _ m_pb ?_
            refine qk_callV C dX6_leaves_71 74 rfl ql_X6_155 qc_X6_orNone 53 (by decide) rfl rfl (c_X6_orNone l G _ (some d) (fun b e => by cases e; omega)) rfl rfl (Nat.le_of_ble_eq_true rfl) ⟨(Nat.le_of_ble_eq_true rfl), (Nat.le_of_ble_eq_true rfl)⟩ (qx_Ki ?_)
            exact hret _ _ _ _ dX6_leaves_74 (qMx_on ((zif_t (z_ib_nI hjb hN8)).trans (by rw [zn_nI (show jb < 2 ^ 31 by omega)]; exact congrArg (fun o => z_on o N v) (hi.2.trans (by rw [show 201 - d = (201 - (d + 1)) + 1 by omega]; exact z_ls_t (by rw [m_t6]; exact (m_gn ((qv_dn hI d).2.2.2.2.1 jb hjb).2.2).mp c_60))))) rfl mTr.rf.ua.up qx_up_eq) rfl
        · have h200 : d < 200 := by
            exact Nat.not_le.mp (fun q => c_32 ((nI_leI (a := 200) (b := d) (by omega) (by omega)).mpr q))
          refine qk_aloadn C dX6_leaves_35 36 rfl rfl 1 rfl ?_
          refine qk_iloadn C dX6_leaves_36 37 rfl rfl 2 rfl ?_
          refine qk_callV C dX6_leaves_37 40 rfl ql_X6_149 qc_X6_isGone 53 (by decide) rfl rfl (c_X6_isGone l G _ _ jb (by omega)) rfl rfl (Nat.le_of_ble_eq_true rfl) ⟨(Nat.le_of_ble_eq_true rfl), (Nat.le_of_ble_eq_true rfl)⟩ (qx_Ki ?_)
          refine qk_if_neB C dX6_leaves_40 53 rfl 43 rfl (fun c_40 => ?_) (fun c_40 => ?_)
          · refine qk_aloadn C dX6_leaves_53 54 rfl rfl 1 rfl ?_
            refine qk_aloadn C dX6_leaves_54 55 rfl rfl 1 rfl ?_
            refine qk_aloadn C dX6_leaves_55 56 rfl rfl 1 rfl ?_
            refine qk_iloadn C dX6_leaves_56 57 rfl rfl 2 rfl ?_
            refine qk_callV C dX6_leaves_57 60 rfl ql_X6_149 qc_X6_isGone 53 (by decide) rfl rfl (c_X6_isGone l G _ _ jb (by omega)) rfl rfl (Nat.le_of_ble_eq_true rfl) ⟨(Nat.le_of_ble_eq_true rfl), (Nat.le_of_ble_eq_true rfl)⟩ (qx_Ki ?_)
            refine qk_if_eqB C dX6_leaves_60 67 rfl 63 rfl (fun c_60 => ?_) (fun c_60 => ?_)
            · refine qk_iconst C ((-1)) dX6_leaves_67 68 rfl rfl ?_
              refine qk_callV C dX6_leaves_68 71 rfl ql_X6_205 qc_X6_putBack 53 (by decide) rfl rfl (c_X6_putBack l G _ _) rfl rfl (Nat.le_of_ble_eq_true rfl) ⟨(Nat.le_of_ble_eq_true rfl), (Nat.le_of_ble_eq_true rfl)⟩ (qx_Ki ?_)
              refine qk_sg _ m_pb ?_
              refine qk_callV C dX6_leaves_71 74 rfl ql_X6_155 qc_X6_orNone 53 (by decide) rfl rfl (c_X6_orNone l G _ none (fun b e => by cases e)) rfl rfl (Nat.le_of_ble_eq_true rfl) ⟨(Nat.le_of_ble_eq_true rfl), (Nat.le_of_ble_eq_true rfl)⟩ (qx_Ki ?_)
              exact hret _ _ _ _ dX6_leaves_74 (absurd c_40 c_60) rfl
            · refine qk_iloadn C dX6_leaves_63 64 rfl rfl 0 rfl ?_
              refine qk_goto C dX6_leaves_64 68 rfl ?_
              refine qk_callV C dX6_leaves_68 71 rfl ql_X6_205 qc_X6_putBack 53 (by decide) rfl rfl (c_X6_putBack l G _ _) rfl rfl (Nat.le_of_ble_eq_true rfl) ⟨(Nat.le_of_ble_eq_true rfl), (Nat.le_of_ble_eq_true rfl)⟩ (qx_Ki ?_)
              refine qk_sg _ m_pb ?_
              refine qk_callV C dX6_leaves_71 74 rfl ql_X6_155 qc_X6_orNone 53 (by decide) rfl rfl (c_X6_orNone l G _ (some d) (fun b e => by cases e; omega)) rfl rfl (Nat.le_of_ble_eq_true rfl) ⟨(Nat.le_of_ble_eq_true rfl), (Nat.le_of_ble_eq_true rfl)⟩ (qx_Ki ?_)
              exact hret _ _ _ _ dX6_leaves_74 (qMx_on ((zif_t (z_ib_nI hjb hN8)).trans (by rw [zn_nI (show jb < 2 ^ 31 by omega)]; exact congrArg (fun o => z_on o N v) (hi.2.trans (by rw [show 201 - d = (201 - (d + 1)) + 1 by omega]; exact z_ls_t (by rw [m_t6]; exact (m_gn ((qv_dn hI d).2.2.2.2.1 jb hjb).2.2).mp c_60))))) rfl mTr.rf.ua.up qx_up_eq) rfl
          · refine qk_aloadn C dX6_leaves_43 44 rfl rfl 1 rfl ?_
            refine qk_callV C dX6_leaves_44 47 rfl ql_X6_181 qc_X6_day 53 (by decide) rfl rfl (c_X6_day l G _ N _ (qv_dn hI d)) rfl rfl (Nat.le_of_ble_eq_true rfl) ⟨(Nat.le_of_ble_eq_true rfl), (Nat.le_of_ble_eq_true rfl)⟩ (qx_Kv ?_)
            refine qk_iinc C (nI (d + 1)) dX6_leaves_47 50 rfl 0 rfl (nI_1 d) (by decide) rfl ?_
            refine qk_goto C dX6_leaves_50 28 rfl ?_
            exact ih_28 (d + 1) ⟨by omega, by rw [hi.2, show 201 - d = (201 - (d + 1)) + 1 by omega]; exact z_ls_f (fun q => c_40 ((m_gn ((qv_dn hI d).2.2.2.2.1 jb hjb).2.2).mpr (by rw [m_t6] at q; exact q)))⟩ (by omega)
    exact lp_28 _ 0 ⟨by omega, rfl⟩ (Nat.lt_succ_self _)
  · refine qk_aloadn C dX6_leaves_8 9 rfl rfl 0 rfl ?_
    refine qk_ldc C dX6_leaves_9 11 rfl qw_947 ?_
    refine qk_callV C dX6_leaves_11 14 rfl ql_X6_66 qc_X6_finding 53 (by decide) rfl rfl (c_X6_finding l G _ _ 0 (by decide) (by decide)) rfl rfl (Nat.le_of_ble_eq_true rfl) ⟨(Nat.le_of_ble_eq_true rfl), (Nat.le_of_ble_eq_true rfl)⟩ (qx_Ki ?_)
    exact hret _ _ _ _ dX6_leaves_14 (qMx_bad 0 (zif_f (by first | exact fun q => c_5 q)) rfl mTr.rf.up qx_up_eq) rfl

theorem c_X6_voice (l : Launch) (G : qx_G) (σ : qx_Sg) (N : Nat) (v : Nat → Int32) (hI : qv_ok v N) (b y : Int32) : qx_Ct l G yX6_voice cX6_voice 4 (some .int) 7 155 [.ref (qx_ad G 53), .int b, .int y] (va_up σ 54 v) (qMx σ (S_voice N v b y)) := by
  refine qx_of .int (lo := [(0, .ref (qx_ad G 53)), (1, .int b), (2, .int y)]) (by decide +kernel) (Nat.le_of_ble_eq_true rfl) rfl (fun Δ (C : qx_C G Δ cX6_voice RX6 4 7 155) hret => ?_)
  have hN8 := hI.1
  have hN1 := hI.2.1
  refine qk_aloadn C dX6_voice_0 1 rfl rfl 0 rfl ?_
  refine qk_iloadn C dX6_voice_1 2 rfl rfl 1 rfl ?_
  refine qk_callV C dX6_voice_2 5 rfl ql_X6_137 qc_X6_isBust 53 (by decide) rfl rfl (c_X6_isBust l G σ N v hI _) rfl rfl (Nat.le_of_ble_eq_true rfl) ⟨(Nat.le_of_ble_eq_true rfl), (Nat.le_of_ble_eq_true rfl)⟩ (qx_Ki ?_)
  refine qk_if_eqB C dX6_voice_5 19 rfl 8 rfl (fun c_5 => ?_) (fun c_5 => ?_)
  · refine qk_aloadn C dX6_voice_19 20 rfl rfl 0 rfl ?_
    refine qk_ldc C dX6_voice_20 22 rfl qw_947 ?_
    refine qk_callV C dX6_voice_22 25 rfl ql_X6_66 qc_X6_finding 53 (by decide) rfl rfl (c_X6_finding l G _ _ 0 (by decide) (by decide)) rfl rfl (Nat.le_of_ble_eq_true rfl) ⟨(Nat.le_of_ble_eq_true rfl), (Nat.le_of_ble_eq_true rfl)⟩ (qx_Ki ?_)
    exact hret _ _ _ _ dX6_voice_25 (qMx_bad 0 (zif_f (by first | exact fun q => c_5 q.1 | exact fun q => c_16 q.2)) rfl mTr.rf.up qx_up_eq) rfl
  · refine qk_iloadn C dX6_voice_8 9 rfl rfl 2 rfl ?_
    refine qk_iconst C (0) dX6_voice_9 10 rfl rfl ?_
    refine qk_sipush C (9999) dX6_voice_10 13 rfl rfl ?_
    refine qk_callS C dX6_voice_13 16 rfl ql_X6_70 qc_X6_within (c_X6_within l G _ _ _ _) rfl rfl (Nat.le_of_ble_eq_true rfl) ⟨(Nat.le_of_ble_eq_true rfl), (Nat.le_of_ble_eq_true rfl)⟩ (qx_Ki ?_)
    refine qk_if_neB C dX6_voice_16 26 rfl 19 rfl (fun c_16 => ?_) (fun c_16 => ?_)
    · obtain ⟨jb, hjb, rfl⟩ := z_ib_ex c_5 hN8
      refine qk_aloadn C dX6_voice_26 27 rfl rfl 0 rfl ?_
      refine qk_get C dX6_voice_27 30 rfl qf_X6_9 53 (by decide) rfl rfl ?_
      refine qk_aloadn C dX6_voice_30 31 rfl rfl 0 rfl ?_
      refine qk_get C dX6_voice_31 34 rfl qf_X6_16 53 (by decide) rfl rfl ?_
      refine qk_callS C dX6_voice_34 37 rfl ql_X6_61 qc_X6_copyRow (c_X6_copyRow l G _ 54 56 (Or.inl rfl) (Or.inr (Or.inr rfl)) (by decide)) rfl rfl (Nat.le_of_ble_eq_true rfl) ⟨(Nat.le_of_ble_eq_true rfl), (Nat.le_of_ble_eq_true rfl)⟩ (qx_Kv ?_)
      refine qk_sg _ m_as ?_
      refine qk_iconst C (nI 0) dX6_voice_37 38 rfl rfl ?_
      refine qk_istoren C dX6_voice_38 39 rfl rfl (by decide) rfl ?_
      have lp_39 : ∀ (n_39 : Nat) (d : Nat), (d ≤ 200 ∧ z_ls (fun d => ¬ z_tell (z_row (z_dn v N d) jb) 10 < y) 201 0 = z_ls (fun d => ¬ z_tell (z_row (z_dn v N d) jb) 10 < y) (201 - d) d) → 201 - d < n_39 → qx_K l G Δ (va_up (va_up σ 56 v) 54 (z_dn v N d)) 39 [(3, .int (nI d)), (0, .ref (qx_ad G 53)), (1, .int (nI jb)), (2, .int y)] [] := by
        intro n_39
        induction n_39 with
        | zero => intro _ _ h9; exact absurd h9 (Nat.not_lt_zero _)
        | succ n_39 ih_39 =>
          intro d hi hm_39
          refine qk_iloadn C dX6_voice_39 40 rfl rfl 0 rfl ?_
          refine qk_sipush C (nI 200) dX6_voice_40 43 rfl rfl ?_
          refine qk_icmp_ge C dX6_voice_43 65 rfl 46 rfl (fun c_43 => ?_) (fun c_43 => ?_)
          · have h200 : d = 200 := by
              have := (nI_leI (a := 200) (b := d) (by omega) (by omega)).mp c_43
              omega
            refine qk_aloadn C dX6_voice_65 66 rfl rfl 1 rfl ?_
            refine qk_aloadn C dX6_voice_66 67 rfl rfl 1 rfl ?_
            refine qk_aloadn C dX6_voice_67 68 rfl rfl 1 rfl ?_
            refine qk_iloadn C dX6_voice_68 69 rfl rfl 2 rfl ?_
            refine qk_callV C dX6_voice_69 72 rfl ql_X6_134 qc_X6_says 53 (by decide) rfl rfl (c_X6_says l G _ N _ (qv_dn hI d) jb hjb) rfl rfl (Nat.le_of_ble_eq_true rfl) ⟨(Nat.le_of_ble_eq_true rfl), (Nat.le_of_ble_eq_true rfl)⟩ (qx_Ki ?_)
            refine qk_iloadn C dX6_voice_72 73 rfl rfl 3 rfl ?_
            refine qk_icmp_ge C dX6_voice_73 80 rfl 76 rfl (fun c_73 => ?_) (fun c_73 => ?_)
            · refine qk_iloadn C dX6_voice_80 81 rfl rfl 0 rfl ?_
              refine qk_callV C dX6_voice_81 84 rfl ql_X6_205 qc_X6_putBack 53 (by decide) rfl rfl (c_X6_putBack l G _ _) rfl rfl (Nat.le_of_ble_eq_true rfl) ⟨(Nat.le_of_ble_eq_true rfl), (Nat.le_of_ble_eq_true rfl)⟩ (qx_Ki ?_)
              refine qk_sg _ m_pb ?_
              refine qk_callV C dX6_voice_84 87 rfl ql_X6_155 qc_X6_orNone 53 (by decide) rfl rfl (c_X6_orNone l G _ (some d) (fun b e => by cases e; omega)) rfl rfl (Nat.le_of_ble_eq_true rfl) ⟨(Nat.le_of_ble_eq_true rfl), (Nat.le_of_ble_eq_true rfl)⟩ (qx_Ki ?_)
              exact hret _ _ _ _ dX6_voice_87 (qMx_on ((zif_t ⟨z_ib_nI hjb hN8, c_16⟩).trans (by rw [zn_nI (show jb < 2 ^ 31 by omega)]; exact congrArg (fun o => z_on o N v) (hi.2.trans (by rw [show 201 - d = (201 - (d + 1)) + 1 by omega]; exact z_ls_t (by rw [m_t10]; exact Int32.not_lt.mpr c_73))))) rfl mTr.rf.ua.up qx_up_eq) rfl
            · refine qk_iconst C ((-1)) dX6_voice_76 77 rfl rfl ?_
              refine qk_goto C dX6_voice_77 81 rfl ?_
              refine qk_callV C dX6_voice_81 84 rfl ql_X6_205 qc_X6_putBack 53 (by decide) rfl rfl (c_X6_putBack l G _ _) rfl rfl (Nat.le_of_ble_eq_true rfl) ⟨(Nat.le_of_ble_eq_true rfl), (Nat.le_of_ble_eq_true rfl)⟩ (qx_Ki ?_)
              refine qk_sg _ m_pb ?_
              refine qk_callV C dX6_voice_84 87 rfl ql_X6_155 qc_X6_orNone 53 (by decide) rfl rfl (c_X6_orNone l G _ none (fun b e => by cases e)) rfl rfl (Nat.le_of_ble_eq_true rfl) ⟨(Nat.le_of_ble_eq_true rfl), (Nat.le_of_ble_eq_true rfl)⟩ (qx_Ki ?_)
              exact hret _ _ _ _ dX6_voice_87 (qMx_on ((zif_t ⟨z_ib_nI hjb hN8, c_16⟩).trans (by rw [zn_nI (show jb < 2 ^ 31 by omega)]; exact congrArg (fun o => z_on o N v) (hi.2.trans (by subst h200; exact z_ls_f (fun q => q (by rw [m_t10]; exact Int32.not_le.mp c_73)))))) rfl mTr.rf.ua.up qx_up_eq) rfl
          · have h200 : d < 200 := by
              exact Nat.not_le.mp (fun q => c_43 ((nI_leI (a := 200) (b := d) (by omega) (by omega)).mpr q))
            refine qk_aloadn C dX6_voice_46 47 rfl rfl 1 rfl ?_
            refine qk_iloadn C dX6_voice_47 48 rfl rfl 2 rfl ?_
            refine qk_callV C dX6_voice_48 51 rfl ql_X6_134 qc_X6_says 53 (by decide) rfl rfl (c_X6_says l G _ N _ (qv_dn hI d) jb hjb) rfl rfl (Nat.le_of_ble_eq_true rfl) ⟨(Nat.le_of_ble_eq_true rfl), (Nat.le_of_ble_eq_true rfl)⟩ (qx_Ki ?_)
            refine qk_iloadn C dX6_voice_51 52 rfl rfl 3 rfl ?_
            refine qk_icmp_ge C dX6_voice_52 65 rfl 55 rfl (fun c_52 => ?_) (fun c_52 => ?_)
            · refine qk_aloadn C dX6_voice_65 66 rfl rfl 1 rfl ?_
              refine qk_aloadn C dX6_voice_66 67 rfl rfl 1 rfl ?_
              refine qk_aloadn C dX6_voice_67 68 rfl rfl 1 rfl ?_
              refine qk_iloadn C dX6_voice_68 69 rfl rfl 2 rfl ?_
              refine qk_callV C dX6_voice_69 72 rfl ql_X6_134 qc_X6_says 53 (by decide) rfl rfl (c_X6_says l G _ N _ (qv_dn hI d) jb hjb) rfl rfl (Nat.le_of_ble_eq_true rfl) ⟨(Nat.le_of_ble_eq_true rfl), (Nat.le_of_ble_eq_true rfl)⟩ (qx_Ki ?_)
              refine qk_iloadn C dX6_voice_72 73 rfl rfl 3 rfl ?_
              refine qk_icmp_ge C dX6_voice_73 80 rfl 76 rfl (fun c_73 => ?_) (fun c_73 => ?_)
              · refine qk_iloadn C dX6_voice_80 81 rfl rfl 0 rfl ?_
                refine qk_callV C dX6_voice_81 84 rfl ql_X6_205 qc_X6_putBack 53 (by decide) rfl rfl (c_X6_putBack l G _ _) rfl rfl (Nat.le_of_ble_eq_true rfl) ⟨(Nat.le_of_ble_eq_true rfl), (Nat.le_of_ble_eq_true rfl)⟩ (qx_Ki ?_)
                refine qk_sg _ m_pb ?_
                refine qk_callV C dX6_voice_84 87 rfl ql_X6_155 qc_X6_orNone 53 (by decide) rfl rfl (c_X6_orNone l G _ (some d) (fun b e => by cases e; omega)) rfl rfl (Nat.le_of_ble_eq_true rfl) ⟨(Nat.le_of_ble_eq_true rfl), (Nat.le_of_ble_eq_true rfl)⟩ (qx_Ki ?_)
                exact hret _ _ _ _ dX6_voice_87 (qMx_on ((zif_t ⟨z_ib_nI hjb hN8, c_16⟩).trans (by rw [zn_nI (show jb < 2 ^ 31 by omega)]; exact congrArg (fun o => z_on o N v) (hi.2.trans (by rw [show 201 - d = (201 - (d + 1)) + 1 by omega]; exact z_ls_t (by rw [m_t10]; exact Int32.not_lt.mpr c_73))))) rfl mTr.rf.ua.up qx_up_eq) rfl
              · refine qk_iconst C ((-1)) dX6_voice_76 77 rfl rfl ?_
                refine qk_goto C dX6_voice_77 81 rfl ?_
                refine qk_callV C dX6_voice_81 84 rfl ql_X6_205 qc_X6_putBack 53 (by decide) rfl rfl (c_X6_putBack l G _ _) rfl rfl (Nat.le_of_ble_eq_true rfl) ⟨(Nat.le_of_ble_eq_true rfl), (Nat.le_of_ble_eq_true rfl)⟩ (qx_Ki ?_)
                refine qk_sg _ m_pb ?_
                refine qk_callV C dX6_voice_84 87 rfl ql_X6_155 qc_X6_orNone 53 (by decide) rfl rfl (c_X6_orNone l G _ none (fun b e => by cases e)) rfl rfl (Nat.le_of_ble_eq_true rfl) ⟨(Nat.le_of_ble_eq_true rfl), (Nat.le_of_ble_eq_true rfl)⟩ (qx_Ki ?_)
                exact hret _ _ _ _ dX6_voice_87 (absurd c_52 c_73) rfl
            · refine qk_aloadn C dX6_voice_55 56 rfl rfl 1 rfl ?_
              refine qk_callV C dX6_voice_56 59 rfl ql_X6_181 qc_X6_day 53 (by decide) rfl rfl (c_X6_day l G _ N _ (qv_dn hI d)) rfl rfl (Nat.le_of_ble_eq_true rfl) ⟨(Nat.le_of_ble_eq_true rfl), (Nat.le_of_ble_eq_true rfl)⟩ (qx_Kv ?_)
              refine qk_iinc C (nI (d + 1)) dX6_voice_59 62 rfl 0 rfl (nI_1 d) (by decide) rfl ?_
              refine qk_goto C dX6_voice_62 39 rfl ?_
              exact ih_39 (d + 1) ⟨by omega, by rw [hi.2, show 201 - d = (201 - (d + 1)) + 1 by omega]; exact z_ls_f (fun q => q (by rw [m_t10]; exact Int32.not_le.mp c_52))⟩ (by omega)
      exact lp_39 _ 0 ⟨by omega, rfl⟩ (Nat.lt_succ_self _)
    · refine qk_aloadn C dX6_voice_19 20 rfl rfl 0 rfl ?_
      refine qk_ldc C dX6_voice_20 22 rfl qw_947 ?_
      refine qk_callV C dX6_voice_22 25 rfl ql_X6_66 qc_X6_finding 53 (by decide) rfl rfl (c_X6_finding l G _ _ 0 (by decide) (by decide)) rfl rfl (Nat.le_of_ble_eq_true rfl) ⟨(Nat.le_of_ble_eq_true rfl), (Nat.le_of_ble_eq_true rfl)⟩ (qx_Ki ?_)
      exact hret _ _ _ _ dX6_voice_25 (qMx_bad 0 (zif_f (by first | exact fun q => c_5 q.1 | exact fun q => c_16 q.2)) rfl mTr.rf.up qx_up_eq) rfl

theorem c_X6_orderFor (l : Launch) (G : qx_G) (σ : qx_Sg) (N : Nat) (v : Nat → Int32) (hI : qv_ok v N) (i b n : Int32) : qx_Ct l G yX6_orderFor cX6_orderFor 9 (some .int) 9 199 [.ref (qx_ad G 53), .int i, .int b, .int n] (va_up σ 54 v) (qMx σ (S_orderFor N v i b n)) := by
  refine qx_of .int (lo := [(0, .ref (qx_ad G 53)), (1, .int i), (2, .int b), (3, .int n)]) (by decide +kernel) (Nat.le_of_ble_eq_true rfl) rfl (fun Δ (C : qx_C G Δ cX6_orderFor RX6 9 9 199) hret => ?_)
  have hN8 := hI.1
  have hN1 := hI.2.1
  refine qk_iloadn C dX6_orderFor_0 1 rfl rfl 1 rfl ?_
  refine qk_callS C dX6_orderFor_1 4 rfl ql_X6_74 qc_X6_isPlace (c_X6_isPlace l G _ _) rfl rfl (Nat.le_of_ble_eq_true rfl) ⟨(Nat.le_of_ble_eq_true rfl), (Nat.le_of_ble_eq_true rfl)⟩ (qx_Ki ?_)
  refine qk_if_eqB C dX6_orderFor_4 22 rfl 7 rfl (fun c_4 => ?_) (fun c_4 => ?_)
  · refine qk_aloadn C dX6_orderFor_22 23 rfl rfl 0 rfl ?_
    refine qk_ldc C dX6_orderFor_23 25 rfl qw_947 ?_
    refine qk_callV C dX6_orderFor_25 28 rfl ql_X6_66 qc_X6_finding 53 (by decide) rfl rfl (c_X6_finding l G _ _ 0 (by decide) (by decide)) rfl rfl (Nat.le_of_ble_eq_true rfl) ⟨(Nat.le_of_ble_eq_true rfl), (Nat.le_of_ble_eq_true rfl)⟩ (qx_Ki ?_)
    exact hret _ _ _ _ dX6_orderFor_28 (qMx_bad 0 (zif_f (by first | exact fun q => c_4 q.1 | exact fun q => c_12 q.2.1 | exact fun q => c_19 q.2.2)) rfl mTr.rf.up qx_up_eq) rfl
  · refine qk_aloadn C dX6_orderFor_7 8 rfl rfl 0 rfl ?_
    refine qk_iloadn C dX6_orderFor_8 9 rfl rfl 2 rfl ?_
    refine qk_callV C dX6_orderFor_9 12 rfl ql_X6_137 qc_X6_isBust 53 (by decide) rfl rfl (c_X6_isBust l G σ N v hI _) rfl rfl (Nat.le_of_ble_eq_true rfl) ⟨(Nat.le_of_ble_eq_true rfl), (Nat.le_of_ble_eq_true rfl)⟩ (qx_Ki ?_)
    refine qk_if_eqB C dX6_orderFor_12 22 rfl 15 rfl (fun c_12 => ?_) (fun c_12 => ?_)
    · refine qk_aloadn C dX6_orderFor_22 23 rfl rfl 0 rfl ?_
      refine qk_ldc C dX6_orderFor_23 25 rfl qw_947 ?_
      refine qk_callV C dX6_orderFor_25 28 rfl ql_X6_66 qc_X6_finding 53 (by decide) rfl rfl (c_X6_finding l G _ _ 0 (by decide) (by decide)) rfl rfl (Nat.le_of_ble_eq_true rfl) ⟨(Nat.le_of_ble_eq_true rfl), (Nat.le_of_ble_eq_true rfl)⟩ (qx_Ki ?_)
      exact hret _ _ _ _ dX6_orderFor_28 (qMx_bad 0 (zif_f (by first | exact fun q => c_4 q.1 | exact fun q => c_12 q.2.1 | exact fun q => c_19 q.2.2)) rfl mTr.rf.up qx_up_eq) rfl
    · refine qk_iloadn C dX6_orderFor_15 16 rfl rfl 3 rfl ?_
      refine qk_callS C dX6_orderFor_16 19 rfl ql_X6_215 qc_X6_isThought (c_X6_isThought l G _ _) rfl rfl (Nat.le_of_ble_eq_true rfl) ⟨(Nat.le_of_ble_eq_true rfl), (Nat.le_of_ble_eq_true rfl)⟩ (qx_Ki ?_)
      refine qk_if_neB C dX6_orderFor_19 29 rfl 22 rfl (fun c_19 => ?_) (fun c_19 => ?_)
      · obtain ⟨ji, hji, rfl⟩ := z_in_ex 5 rfl (by omega) c_4
        obtain ⟨jb, hjb, rfl⟩ := z_ib_ex c_12 hN8
        obtain ⟨jn, hjn, rfl⟩ := z_in_ex 60 rfl (by omega) c_19
        refine qk_aloadn C dX6_orderFor_29 30 rfl rfl 0 rfl ?_
        refine qk_get C dX6_orderFor_30 33 rfl qf_X6_9 53 (by decide) rfl rfl ?_
        refine qk_iconst C (4) dX6_orderFor_33 34 rfl rfl ?_
        refine qk_iloadn C dX6_orderFor_34 35 rfl rfl 1 rfl ?_
        refine qk_iadd C dX6_orderFor_35 36 rfl ?_
        refine qk_cast (show _ = nI (4 + ji) from by rw [show (4 : Int32) = nI 4 from rfl, nI_add]) ?_
        refine qk_iald C dX6_orderFor_36 37 rfl 54 (by decide) (fun _ => rfl) (4 + ji) rfl (by omega) (by decide) ?_
        refine qk_cast (show _ = v (4 + ji) from rfl) ?_
        refine qk_istore C dX6_orderFor_37 39 rfl (by decide) rfl ?_
        refine qk_iconst C (0) dX6_orderFor_39 40 rfl rfl ?_
        refine qk_istore C dX6_orderFor_40 42 rfl (by decide) rfl ?_
        refine qk_iconst C ((-1)) dX6_orderFor_42 43 rfl rfl ?_
        refine qk_istore C dX6_orderFor_43 45 rfl (by decide) rfl ?_
        refine qk_iconst C (nI 0) dX6_orderFor_45 46 rfl rfl ?_
        refine qk_istore C dX6_orderFor_46 48 rfl (by decide) rfl ?_
        have lp_48 : ∀ (n_48 : Nat) (p : Nat) (ρ : qx_Sg) (x a m : Int32), (p ≤ 12 ∧ z_bs (z_of N v ji jb jn) p = (a, m) ∧ mTr σ ρ) → 12 - p < n_48 → qx_K l G Δ (va_up ρ 54 (upd v (4 + ji) x)) 48 [(7, .int (nI p)), (5, .int a), (6, .int m), (0, .ref (qx_ad G 53)), (1, .int (nI ji)), (2, .int (nI jb)), (3, .int (nI jn)), (4, .int (v (4 + ji)))] [] := by
          intro n_48
          induction n_48 with
          | zero => intro _ _ _ _ _ _ h9; exact absurd h9 (Nat.not_lt_zero _)
          | succ n_48 ih_48 =>
            intro p ρ x a m hi hm_48
            refine qk_iload C dX6_orderFor_48 50 rfl 0 rfl ?_
            refine qk_bipush C (nI 12) dX6_orderFor_50 52 rfl rfl ?_
            refine qk_icmp_ge C dX6_orderFor_52 101 rfl 55 rfl (fun c_52 => ?_) (fun c_52 => ?_)
            · have h12 : 12 ≤ p := (nI_leI (by omega) (by omega)).mp c_52
              have hp12 : p = 12 := by omega
              subst hp12
              refine qk_aloadn C dX6_orderFor_101 102 rfl rfl 3 rfl ?_
              refine qk_get C dX6_orderFor_102 105 rfl qf_X6_9 53 (by decide) rfl rfl ?_
              refine qk_iconst C (4) dX6_orderFor_105 106 rfl rfl ?_
              refine qk_iloadn C dX6_orderFor_106 107 rfl rfl 4 rfl ?_
              refine qk_iadd C dX6_orderFor_107 108 rfl ?_
              refine qk_cast (show _ = nI (4 + ji) from by rw [show (4 : Int32) = nI 4 from rfl, nI_add]) ?_
              refine qk_iload C dX6_orderFor_108 110 rfl 7 rfl ?_
              refine qk_iast C dX6_orderFor_110 111 rfl 54 (by decide) (fun _ => rfl) (4 + ji) rfl (by omega) (by decide) ?_
              refine qk_sg _ (m_w.trans (congrArg (va_up ρ 54) m_upr)) ?_
              refine qk_iload C dX6_orderFor_111 113 rfl 1 rfl ?_
              exact hret _ _ _ _ dX6_orderFor_113 (qMx_ok ((zif_t ⟨c_4, z_ib_nI hjb hN8, c_19⟩).trans (by rw [zn_nI (show ji < 2 ^ 31 by omega), zn_nI (show jb < 2 ^ 31 by omega), zn_nI (show jn < 2 ^ 31 by omega), hi.2.1])) rfl hi.2.2.up qx_up_eq) rfl
            · have h12 : p < 12 := Nat.not_le.mp (fun q => c_52 (nI_le q (by omega)))
              refine qk_aloadn C dX6_orderFor_55 56 rfl rfl 3 rfl ?_
              refine qk_get C dX6_orderFor_56 59 rfl qf_X6_9 53 (by decide) rfl rfl ?_
              refine qk_iconst C (4) dX6_orderFor_59 60 rfl rfl ?_
              refine qk_iloadn C dX6_orderFor_60 61 rfl rfl 4 rfl ?_
              refine qk_iadd C dX6_orderFor_61 62 rfl ?_
              refine qk_cast (show _ = nI (4 + ji) from by rw [show (4 : Int32) = nI 4 from rfl, nI_add]) ?_
              refine qk_iload C dX6_orderFor_62 64 rfl 0 rfl ?_
              refine qk_iast C dX6_orderFor_64 65 rfl 54 (by decide) (fun _ => rfl) (4 + ji) rfl (by omega) (by decide) ?_
              refine qk_sg _ (m_w.trans (congrArg (va_up ρ 54) m_upu)) ?_
              refine qk_aloadn C dX6_orderFor_65 66 rfl rfl 3 rfl ?_
              refine qk_iloadn C dX6_orderFor_66 67 rfl rfl 5 rfl ?_
              refine qk_iconst C (2) dX6_orderFor_67 68 rfl rfl ?_
              refine qk_callS C dX6_orderFor_68 71 rfl ql_X6_88 qc_X6_bustAt (c_X6_bustAt l G _ jb 2 (by omega) (by omega)) rfl rfl (Nat.le_of_ble_eq_true rfl) ⟨(Nat.le_of_ble_eq_true rfl), (Nat.le_of_ble_eq_true rfl)⟩ (qx_Ki ?_)
              refine qk_iloadn C dX6_orderFor_71 72 rfl rfl 6 rfl ?_
              refine qk_callV C dX6_orderFor_72 75 rfl ql_X6_212 qc_X6_behind 53 (by decide) rfl rfl (c_X6_behind l G ρ N (upd v (4 + ji) (nI p)) (qv_li hI (by omega) (by omega)) (32 + 7 * jb + 2) (by omega) jn (by omega)) rfl rfl (Nat.le_of_ble_eq_true rfl) ⟨(Nat.le_of_ble_eq_true rfl), (Nat.le_of_ble_eq_true rfl)⟩ (qx_Ki ?_)
              refine qk_callS C dX6_orderFor_75 78 rfl ql_X6_111 qc_X6_bits (c_X6_bits l G _ _ (m_4k ((qv_dn (qv_li hI (i := ji) (q := p) (by omega) (by omega)) jn).2.2.2.2.1 jb hjb).2.1)) rfl rfl (Nat.le_of_ble_eq_true rfl) ⟨(Nat.le_of_ble_eq_true rfl), (Nat.le_of_ble_eq_true rfl)⟩ (qx_Ki ?_)
              refine qk_cast (show _ = (z_of N v ji jb jn) p from rfl) ?_
              refine qk_istore C dX6_orderFor_78 80 rfl (by decide) rfl ?_
              refine qk_iload C dX6_orderFor_80 82 rfl 0 rfl ?_
              refine qk_iload C dX6_orderFor_82 84 rfl 3 rfl ?_
              refine qk_icmp_le C dX6_orderFor_84 95 rfl 87 rfl (fun c_84 => ?_) (fun c_84 => ?_)
              · refine qk_iinc C (nI (p + 1)) dX6_orderFor_95 98 rfl 1 rfl (nI_1 p) (by decide) rfl ?_
                refine qk_goto C dX6_orderFor_98 48 rfl ?_
                exact qk_lo [0, 2, 3, 4, 5, 6, 7, 8] rfl (ih_48 (p + 1) _ _ _ _ ⟨by omega, z_bs_le hi.2.1 c_84, hi.2.2.ua⟩ (by omega))
              · refine qk_iload C dX6_orderFor_87 89 rfl 1 rfl ?_
                refine qk_istore C dX6_orderFor_89 91 rfl (by decide) rfl ?_
                refine qk_iload C dX6_orderFor_91 93 rfl 1 rfl ?_
                refine qk_istore C dX6_orderFor_93 95 rfl (by decide) rfl ?_
                refine qk_iinc C (nI (p + 1)) dX6_orderFor_95 98 rfl 3 rfl (nI_1 p) (by decide) rfl ?_
                refine qk_goto C dX6_orderFor_98 48 rfl ?_
                exact qk_lo [0, 2, 1, 4, 5, 6, 7, 8] rfl (ih_48 (p + 1) _ _ _ _ ⟨by omega, z_bs_gt hi.2.1 c_84, hi.2.2.ua⟩ (by omega))
        refine qk_sg (va_up σ 54 (upd v (4 + ji) (v (4 + ji)))) (congrArg (va_up σ 54) m_ups.symm) ?_
        exact qk_lo [0, 2, 1, 4, 5, 6, 7, 3] rfl (lp_48 _ 0 σ _ _ _ ⟨by omega, rfl, mTr.rf⟩ (Nat.lt_succ_self _))
      · refine qk_aloadn C dX6_orderFor_22 23 rfl rfl 0 rfl ?_
        refine qk_ldc C dX6_orderFor_23 25 rfl qw_947 ?_
        refine qk_callV C dX6_orderFor_25 28 rfl ql_X6_66 qc_X6_finding 53 (by decide) rfl rfl (c_X6_finding l G _ _ 0 (by decide) (by decide)) rfl rfl (Nat.le_of_ble_eq_true rfl) ⟨(Nat.le_of_ble_eq_true rfl), (Nat.le_of_ble_eq_true rfl)⟩ (qx_Ki ?_)
        exact hret _ _ _ _ dX6_orderFor_28 (qMx_bad 0 (zif_f (by first | exact fun q => c_4 q.1 | exact fun q => c_12 q.2.1 | exact fun q => c_19 q.2.2)) rfl mTr.rf.up qx_up_eq) rfl

theorem c_X6_kindFor (l : Launch) (G : qx_G) (σ : qx_Sg) (N : Nat) (v : Nat → Int32) (hI : qv_ok v N) (b n : Int32) : qx_Ct l G yX6_kindFor cX6_kindFor 9 (some .int) 9 200 [.ref (qx_ad G 53), .int b, .int n] (va_up σ 54 v) (qMx σ (S_kindFor N v b n)) := by
  refine qx_of .int (lo := [(0, .ref (qx_ad G 53)), (1, .int b), (2, .int n)]) (by decide +kernel) (Nat.le_of_ble_eq_true rfl) rfl (fun Δ (C : qx_C G Δ cX6_kindFor RX6 9 9 200) hret => ?_)
  have hN8 := hI.1
  have hN1 := hI.2.1
  refine qk_aloadn C dX6_kindFor_0 1 rfl rfl 0 rfl ?_
  refine qk_iloadn C dX6_kindFor_1 2 rfl rfl 1 rfl ?_
  refine qk_callV C dX6_kindFor_2 5 rfl ql_X6_137 qc_X6_isBust 53 (by decide) rfl rfl (c_X6_isBust l G σ N v hI _) rfl rfl (Nat.le_of_ble_eq_true rfl) ⟨(Nat.le_of_ble_eq_true rfl), (Nat.le_of_ble_eq_true rfl)⟩ (qx_Ki ?_)
  refine qk_if_eqB C dX6_kindFor_5 15 rfl 8 rfl (fun c_5 => ?_) (fun c_5 => ?_)
  · refine qk_aloadn C dX6_kindFor_15 16 rfl rfl 0 rfl ?_
    refine qk_ldc C dX6_kindFor_16 18 rfl qw_947 ?_
    refine qk_callV C dX6_kindFor_18 21 rfl ql_X6_66 qc_X6_finding 53 (by decide) rfl rfl (c_X6_finding l G _ _ 0 (by decide) (by decide)) rfl rfl (Nat.le_of_ble_eq_true rfl) ⟨(Nat.le_of_ble_eq_true rfl), (Nat.le_of_ble_eq_true rfl)⟩ (qx_Ki ?_)
    exact hret _ _ _ _ dX6_kindFor_21 (qMx_bad 0 (zif_f (by first | exact fun q => c_5 q.1 | exact fun q => c_12 q.2)) rfl mTr.rf.up qx_up_eq) rfl
  · refine qk_iloadn C dX6_kindFor_8 9 rfl rfl 2 rfl ?_
    refine qk_callS C dX6_kindFor_9 12 rfl ql_X6_215 qc_X6_isThought (c_X6_isThought l G _ _) rfl rfl (Nat.le_of_ble_eq_true rfl) ⟨(Nat.le_of_ble_eq_true rfl), (Nat.le_of_ble_eq_true rfl)⟩ (qx_Ki ?_)
    refine qk_if_neB C dX6_kindFor_12 22 rfl 15 rfl (fun c_12 => ?_) (fun c_12 => ?_)
    · obtain ⟨jb, hjb, rfl⟩ := z_ib_ex c_5 hN8
      obtain ⟨jn, hjn, rfl⟩ := z_in_ex 60 rfl (by omega) c_12
      refine qk_iloadn C dX6_kindFor_22 23 rfl rfl 1 rfl ?_
      refine qk_iconst C (0) dX6_kindFor_23 24 rfl rfl ?_
      refine qk_callS C dX6_kindFor_24 27 rfl ql_X6_88 qc_X6_bustAt (c_X6_bustAt l G _ jb 0 (by omega) (by omega)) rfl rfl (Nat.le_of_ble_eq_true rfl) ⟨(Nat.le_of_ble_eq_true rfl), (Nat.le_of_ble_eq_true rfl)⟩ (qx_Ki ?_)
      refine qk_istoren C dX6_kindFor_27 28 rfl rfl (by decide) rfl ?_
      refine qk_aloadn C dX6_kindFor_28 29 rfl rfl 1 rfl ?_
      refine qk_get C dX6_kindFor_29 32 rfl qf_X6_9 53 (by decide) rfl rfl ?_
      refine qk_iloadn C dX6_kindFor_32 33 rfl rfl 0 rfl ?_
      refine qk_iald C dX6_kindFor_33 34 rfl 54 (by decide) (fun _ => rfl) (32 + 7 * jb + 0) rfl (by omega) (by decide) ?_
      refine qk_cast (show _ = v (32 + 7 * jb + 0) from rfl) ?_
      refine qk_istore C dX6_kindFor_34 36 rfl (by decide) rfl ?_
      refine qk_iconst C (0) dX6_kindFor_36 37 rfl rfl ?_
      refine qk_istore C dX6_kindFor_37 39 rfl (by decide) rfl ?_
      refine qk_iconst C ((-1)) dX6_kindFor_39 40 rfl rfl ?_
      refine qk_istore C dX6_kindFor_40 42 rfl (by decide) rfl ?_
      refine qk_iconst C (nI 0) dX6_kindFor_42 43 rfl rfl ?_
      refine qk_istore C dX6_kindFor_43 45 rfl (by decide) rfl ?_
      have lp_45 : ∀ (n_45 : Nat) (p : Nat) (ρ : qx_Sg) (x a m : Int32), (p ≤ 7 ∧ z_bs (z_kf N v jb jn) p = (a, m) ∧ mTr σ ρ) → 7 - p < n_45 → qx_K l G Δ (va_up ρ 54 (upd v (32 + 7 * jb + 0) x)) 45 [(7, .int (nI p)), (5, .int a), (6, .int m), (0, .ref (qx_ad G 53)), (1, .int (nI jb)), (2, .int (nI jn)), (3, .int (nI (32 + 7 * jb + 0))), (4, .int (v (32 + 7 * jb + 0)))] [] := by
        intro n_45
        induction n_45 with
        | zero => intro _ _ _ _ _ _ h9; exact absurd h9 (Nat.not_lt_zero _)
        | succ n_45 ih_45 =>
          intro p ρ x a m hi hm_45
          refine qk_iload C dX6_kindFor_45 47 rfl 0 rfl ?_
          refine qk_bipush C (nI 6) dX6_kindFor_47 49 rfl rfl ?_
          refine qk_icmp_gt C dX6_kindFor_49 91 rfl 52 rfl (fun c_49 => ?_) (fun c_49 => ?_)
          · have h7 : p = 7 := by
              have := (nI_ltI (a := 6) (b := p) (by omega) (by omega)).mp c_49
              omega
            subst h7
            refine qk_aloadn C dX6_kindFor_91 92 rfl rfl 3 rfl ?_
            refine qk_get C dX6_kindFor_92 95 rfl qf_X6_9 53 (by decide) rfl rfl ?_
            refine qk_iloadn C dX6_kindFor_95 96 rfl rfl 6 rfl ?_
            refine qk_iload C dX6_kindFor_96 98 rfl 7 rfl ?_
            refine qk_iast C dX6_kindFor_98 99 rfl 54 (by decide) (fun _ => rfl) (32 + 7 * jb + 0) rfl (by omega) (by decide) ?_
            refine qk_sg _ (m_w.trans (congrArg (va_up ρ 54) m_upr)) ?_
            refine qk_iload C dX6_kindFor_99 101 rfl 1 rfl ?_
            exact hret _ _ _ _ dX6_kindFor_101 (qMx_ok ((zif_t ⟨z_ib_nI hjb hN8, c_12⟩).trans (by rw [zn_nI (show jb < 2 ^ 31 by omega), zn_nI (show jn < 2 ^ 31 by omega), hi.2.1])) rfl hi.2.2.up qx_up_eq) rfl
          · have h7 : p ≤ 6 := Nat.not_lt.mp (fun q => c_49 (nI_lt q (by omega)))
            refine qk_aloadn C dX6_kindFor_52 53 rfl rfl 3 rfl ?_
            refine qk_get C dX6_kindFor_53 56 rfl qf_X6_9 53 (by decide) rfl rfl ?_
            refine qk_iloadn C dX6_kindFor_56 57 rfl rfl 6 rfl ?_
            refine qk_iload C dX6_kindFor_57 59 rfl 0 rfl ?_
            refine qk_iast C dX6_kindFor_59 60 rfl 54 (by decide) (fun _ => rfl) (32 + 7 * jb + 0) rfl (by omega) (by decide) ?_
            refine qk_sg _ (m_w.trans (congrArg (va_up ρ 54) m_upu)) ?_
            refine qk_aloadn C dX6_kindFor_60 61 rfl rfl 3 rfl ?_
            refine qk_iloadn C dX6_kindFor_61 62 rfl rfl 4 rfl ?_
            refine qk_bipush C (10) dX6_kindFor_62 64 rfl rfl ?_
            refine qk_iloadn C dX6_kindFor_64 65 rfl rfl 5 rfl ?_
            refine qk_callV C dX6_kindFor_65 68 rfl ql_X6_208 qc_X6_toldBehind 53 (by decide) rfl rfl (c_X6_toldBehind l G ρ N (upd v (32 + 7 * jb + 0) (nI p)) (qv_kd hI hjb h7) jb hjb 10 (by omega) jn (by omega)) rfl rfl (Nat.le_of_ble_eq_true rfl) ⟨(Nat.le_of_ble_eq_true rfl), (Nat.le_of_ble_eq_true rfl)⟩ (qx_Ki ?_)
            refine qk_cast (show _ = (z_kf N v jb jn) p from m_t10) ?_
            refine qk_istore C dX6_kindFor_68 70 rfl (by decide) rfl ?_
            refine qk_iload C dX6_kindFor_70 72 rfl 0 rfl ?_
            refine qk_iload C dX6_kindFor_72 74 rfl 3 rfl ?_
            refine qk_icmp_le C dX6_kindFor_74 85 rfl 77 rfl (fun c_74 => ?_) (fun c_74 => ?_)
            · refine qk_iinc C (nI (p + 1)) dX6_kindFor_85 88 rfl 1 rfl (nI_1 p) (by decide) rfl ?_
              refine qk_goto C dX6_kindFor_88 45 rfl ?_
              exact qk_lo [0, 2, 3, 4, 5, 6, 7, 8] rfl (ih_45 (p + 1) _ _ _ _ ⟨by omega, z_bs_le hi.2.1 c_74, hi.2.2.ua⟩ (by omega))
            · refine qk_iload C dX6_kindFor_77 79 rfl 1 rfl ?_
              refine qk_istore C dX6_kindFor_79 81 rfl (by decide) rfl ?_
              refine qk_iload C dX6_kindFor_81 83 rfl 1 rfl ?_
              refine qk_istore C dX6_kindFor_83 85 rfl (by decide) rfl ?_
              refine qk_iinc C (nI (p + 1)) dX6_kindFor_85 88 rfl 3 rfl (nI_1 p) (by decide) rfl ?_
              refine qk_goto C dX6_kindFor_88 45 rfl ?_
              exact qk_lo [0, 2, 1, 4, 5, 6, 7, 8] rfl (ih_45 (p + 1) _ _ _ _ ⟨by omega, z_bs_gt hi.2.1 c_74, hi.2.2.ua⟩ (by omega))
      refine qk_sg (va_up σ 54 (upd v (32 + 7 * jb + 0) (v (32 + 7 * jb + 0)))) (congrArg (va_up σ 54) m_ups.symm) ?_
      exact qk_lo [0, 2, 1, 5, 6, 7, 4, 3] rfl (lp_45 _ 0 σ _ _ _ ⟨by omega, rfl, mTr.rf⟩ (Nat.lt_succ_self _))
    · refine qk_aloadn C dX6_kindFor_15 16 rfl rfl 0 rfl ?_
      refine qk_ldc C dX6_kindFor_16 18 rfl qw_947 ?_
      refine qk_callV C dX6_kindFor_18 21 rfl ql_X6_66 qc_X6_finding 53 (by decide) rfl rfl (c_X6_finding l G _ _ 0 (by decide) (by decide)) rfl rfl (Nat.le_of_ble_eq_true rfl) ⟨(Nat.le_of_ble_eq_true rfl), (Nat.le_of_ble_eq_true rfl)⟩ (qx_Ki ?_)
      exact hret _ _ _ _ dX6_kindFor_21 (qMx_bad 0 (zif_f (by first | exact fun q => c_5 q.1 | exact fun q => c_12 q.2)) rfl mTr.rf.up qx_up_eq) rfl

theorem c_X6_dateFor (l : Launch) (G : qx_G) (σ : qx_Sg) (N : Nat) (v : Nat → Int32) (hI : qv_ok v N) (b p n : Int32) : qx_Ct l G yX6_dateFor cX6_dateFor 8 (some .int) 9 199 [.ref (qx_ad G 53), .int b, .int p, .int n] (va_up σ 54 v) (qMx σ (S_dateFor N v b p n)) := by
  refine qx_of .int (lo := [(0, .ref (qx_ad G 53)), (1, .int b), (2, .int p), (3, .int n)]) (by decide +kernel) (Nat.le_of_ble_eq_true rfl) rfl (fun Δ (C : qx_C G Δ cX6_dateFor RX6 8 9 199) hret => ?_)
  have hN8 := hI.1
  have hN1 := hI.2.1
  refine qk_aloadn C dX6_dateFor_0 1 rfl rfl 0 rfl ?_
  refine qk_iloadn C dX6_dateFor_1 2 rfl rfl 1 rfl ?_
  refine qk_callV C dX6_dateFor_2 5 rfl ql_X6_137 qc_X6_isBust 53 (by decide) rfl rfl (c_X6_isBust l G σ N v hI _) rfl rfl (Nat.le_of_ble_eq_true rfl) ⟨(Nat.le_of_ble_eq_true rfl), (Nat.le_of_ble_eq_true rfl)⟩ (qx_Ki ?_)
  refine qk_if_eqB C dX6_dateFor_5 25 rfl 8 rfl (fun c_5 => ?_) (fun c_5 => ?_)
  · refine qk_aloadn C dX6_dateFor_25 26 rfl rfl 0 rfl ?_
    refine qk_ldc C dX6_dateFor_26 28 rfl qw_947 ?_
    refine qk_callV C dX6_dateFor_28 31 rfl ql_X6_66 qc_X6_finding 53 (by decide) rfl rfl (c_X6_finding l G _ _ 0 (by decide) (by decide)) rfl rfl (Nat.le_of_ble_eq_true rfl) ⟨(Nat.le_of_ble_eq_true rfl), (Nat.le_of_ble_eq_true rfl)⟩ (qx_Ki ?_)
    exact hret _ _ _ _ dX6_dateFor_31 (qMx_bad 0 (zif_f (by first | exact fun q => c_5 q.1 | exact fun q => c_12 q.2.1 | exact fun q => c_22 q.2.2)) rfl mTr.rf.up qx_up_eq) rfl
  · refine qk_iloadn C dX6_dateFor_8 9 rfl rfl 2 rfl ?_
    refine qk_callS C dX6_dateFor_9 12 rfl ql_X6_85 qc_X6_isPart (c_X6_isPart l G _ _) rfl rfl (Nat.le_of_ble_eq_true rfl) ⟨(Nat.le_of_ble_eq_true rfl), (Nat.le_of_ble_eq_true rfl)⟩ (qx_Ki ?_)
    refine qk_if_eqB C dX6_dateFor_12 25 rfl 15 rfl (fun c_12 => ?_) (fun c_12 => ?_)
    · refine qk_aloadn C dX6_dateFor_25 26 rfl rfl 0 rfl ?_
      refine qk_ldc C dX6_dateFor_26 28 rfl qw_947 ?_
      refine qk_callV C dX6_dateFor_28 31 rfl ql_X6_66 qc_X6_finding 53 (by decide) rfl rfl (c_X6_finding l G _ _ 0 (by decide) (by decide)) rfl rfl (Nat.le_of_ble_eq_true rfl) ⟨(Nat.le_of_ble_eq_true rfl), (Nat.le_of_ble_eq_true rfl)⟩ (qx_Ki ?_)
      exact hret _ _ _ _ dX6_dateFor_31 (qMx_bad 0 (zif_f (by first | exact fun q => c_5 q.1 | exact fun q => c_12 q.2.1 | exact fun q => c_22 q.2.2)) rfl mTr.rf.up qx_up_eq) rfl
    · refine qk_iloadn C dX6_dateFor_15 16 rfl rfl 3 rfl ?_
      refine qk_iconst C (0) dX6_dateFor_16 17 rfl rfl ?_
      refine qk_bipush C (12) dX6_dateFor_17 19 rfl rfl ?_
      refine qk_callS C dX6_dateFor_19 22 rfl ql_X6_70 qc_X6_within (c_X6_within l G _ _ _ _) rfl rfl (Nat.le_of_ble_eq_true rfl) ⟨(Nat.le_of_ble_eq_true rfl), (Nat.le_of_ble_eq_true rfl)⟩ (qx_Ki ?_)
      refine qk_if_neB C dX6_dateFor_22 32 rfl 25 rfl (fun c_22 => ?_) (fun c_22 => ?_)
      · obtain ⟨jb, hjb, rfl⟩ := z_ib_ex c_5 hN8
        obtain ⟨jn, hjn, rfl⟩ := z_in_ex 12 rfl (by omega) c_22
        refine qk_iloadn C dX6_dateFor_32 33 rfl rfl 1 rfl ?_
        refine qk_iconst C (1) dX6_dateFor_33 34 rfl rfl ?_
        refine qk_callS C dX6_dateFor_34 37 rfl ql_X6_88 qc_X6_bustAt (c_X6_bustAt l G _ jb 1 (by omega) (by omega)) rfl rfl (Nat.le_of_ble_eq_true rfl) ⟨(Nat.le_of_ble_eq_true rfl), (Nat.le_of_ble_eq_true rfl)⟩ (qx_Ki ?_)
        refine qk_istore C dX6_dateFor_37 39 rfl (by decide) rfl ?_
        refine qk_aloadn C dX6_dateFor_39 40 rfl rfl 1 rfl ?_
        refine qk_get C dX6_dateFor_40 43 rfl qf_X6_9 53 (by decide) rfl rfl ?_
        refine qk_iload C dX6_dateFor_43 45 rfl 0 rfl ?_
        refine qk_iald C dX6_dateFor_45 46 rfl 54 (by decide) (fun _ => rfl) (32 + 7 * jb + 1) rfl (by omega) (by decide) ?_
        refine qk_cast (show _ = v (32 + 7 * jb + 1) from rfl) ?_
        refine qk_istore C dX6_dateFor_46 48 rfl (by decide) rfl ?_
        refine qk_iconst C ((-1)) dX6_dateFor_48 49 rfl rfl ?_
        refine qk_istore C dX6_dateFor_49 51 rfl (by decide) rfl ?_
        refine qk_sipush C (nI 1000 + (-1)) dX6_dateFor_51 54 rfl rfl ?_
        refine qk_istore C dX6_dateFor_54 56 rfl (by decide) rfl ?_
        have lp_56 : ∀ (n_56 : Nat) (f : Nat) (ρ : qx_Sg) (x : Int32) (o : Option Nat), (f ≤ 1000 ∧ mTr σ ρ ∧ (o = none → z_gd (z_hd N v jb jn p) 1000 = z_gd (z_hd N v jb jn p) f) ∧ ∀ k, o = some k → z_gd (z_hd N v jb jn p) 1000 = some k ∧ k < 1000) → f < n_56 → qx_K l G Δ (va_up ρ 54 (upd v (32 + 7 * jb + 1) x)) 56 [(7, .int (nI f + (-1))), (6, .int (z_oi o)), (0, .ref (qx_ad G 53)), (1, .int (nI jb)), (2, .int p), (3, .int (nI jn)), (4, .int (nI (32 + 7 * jb + 1))), (5, .int (v (32 + 7 * jb + 1)))] [] := by
          intro n_56
          induction n_56 with
          | zero => intro _ _ _ _ _ h9; exact absurd h9 (Nat.not_lt_zero _)
          | succ n_56 ih_56 =>
            intro f ρ x o hi hm_56
            rcases f with _ | f <;> rcases o with _ | k
            · refine qk_iload C dX6_dateFor_56 58 rfl 0 rfl ?_
              refine qk_if_lt C dX6_dateFor_58 107 rfl 61 rfl (fun _ => ?_) (fun c => absurd (by decide) c)
              refine qk_aloadn C dX6_dateFor_107 108 rfl rfl 2 rfl ?_
              refine qk_get C dX6_dateFor_108 111 rfl qf_X6_9 53 (by decide) rfl rfl ?_
              refine qk_iload C dX6_dateFor_111 113 rfl 6 rfl ?_
              refine qk_iload C dX6_dateFor_113 115 rfl 7 rfl ?_
              refine qk_iast C dX6_dateFor_115 116 rfl 54 (by decide) (fun _ => rfl) (32 + 7 * jb + 1) rfl (by omega) (by decide) ?_
              refine qk_sg _ (m_w.trans (congrArg (va_up ρ 54) m_upr)) ?_
              refine qk_aloadn C dX6_dateFor_116 117 rfl rfl 2 rfl ?_
              refine qk_iload C dX6_dateFor_117 119 rfl 1 rfl ?_
              refine qk_callV C dX6_dateFor_119 122 rfl ql_X6_155 qc_X6_orNone 53 (by decide) rfl rfl (c_X6_orNone l G _ none (fun b e => by cases e)) rfl rfl (Nat.le_of_ble_eq_true rfl) ⟨(Nat.le_of_ble_eq_true rfl), (Nat.le_of_ble_eq_true rfl)⟩ (qx_Ki ?_)
              exact hret _ _ _ _ dX6_dateFor_122 (qMx_on ((zif_t ⟨z_ib_nI hjb hN8, c_12, c_22⟩).trans (by rw [zn_nI (show jb < 2 ^ 31 by omega), zn_nI (show jn < 2 ^ 31 by omega)]; exact congrArg (fun o => z_on o N v) (hi.2.2.1 rfl))) rfl hi.2.1.up qx_up_eq) rfl
            · have hk := hi.2.2.2 k rfl
              refine qk_iload C dX6_dateFor_56 58 rfl 0 rfl ?_
              refine qk_if_lt C dX6_dateFor_58 107 rfl 61 rfl (fun _ => ?_) (fun c => absurd (by decide) c)
              refine qk_aloadn C dX6_dateFor_107 108 rfl rfl 2 rfl ?_
              refine qk_get C dX6_dateFor_108 111 rfl qf_X6_9 53 (by decide) rfl rfl ?_
              refine qk_iload C dX6_dateFor_111 113 rfl 6 rfl ?_
              refine qk_iload C dX6_dateFor_113 115 rfl 7 rfl ?_
              refine qk_iast C dX6_dateFor_115 116 rfl 54 (by decide) (fun _ => rfl) (32 + 7 * jb + 1) rfl (by omega) (by decide) ?_
              refine qk_sg _ (m_w.trans (congrArg (va_up ρ 54) m_upr)) ?_
              refine qk_aloadn C dX6_dateFor_116 117 rfl rfl 2 rfl ?_
              refine qk_iload C dX6_dateFor_117 119 rfl 1 rfl ?_
              refine qk_callV C dX6_dateFor_119 122 rfl ql_X6_155 qc_X6_orNone 53 (by decide) rfl rfl (c_X6_orNone l G _ (some k) (fun b e => by cases e; have := hk.2; omega)) rfl rfl (Nat.le_of_ble_eq_true rfl) ⟨(Nat.le_of_ble_eq_true rfl), (Nat.le_of_ble_eq_true rfl)⟩ (qx_Ki ?_)
              exact hret _ _ _ _ dX6_dateFor_122 (qMx_on ((zif_t ⟨z_ib_nI hjb hN8, c_12, c_22⟩).trans (by rw [zn_nI (show jb < 2 ^ 31 by omega), zn_nI (show jn < 2 ^ 31 by omega)]; exact congrArg (fun o => z_on o N v) (hk.1))) rfl hi.2.1.up qx_up_eq) rfl
            · refine qk_iload C dX6_dateFor_56 58 rfl 0 rfl ?_
              refine qk_cast (pk_m1 f) ?_
              refine qk_if_lt C dX6_dateFor_58 107 rfl 61 rfl (fun c_58 => absurd c_58 (nI_pos (by omega))) (fun c_58 => ?_)
              refine qk_iload C dX6_dateFor_61 63 rfl 1 rfl ?_
              refine qk_if_ge C dX6_dateFor_63 107 rfl 66 rfl (fun c => absurd c (by decide)) (fun _ => ?_)
              refine qk_aloadn C dX6_dateFor_66 67 rfl rfl 2 rfl ?_
              refine qk_get C dX6_dateFor_67 70 rfl qf_X6_9 53 (by decide) rfl rfl ?_
              refine qk_iload C dX6_dateFor_70 72 rfl 6 rfl ?_
              refine qk_iload C dX6_dateFor_72 74 rfl 0 rfl ?_
              refine qk_cast (pk_m1 f) ?_
              refine qk_iast C dX6_dateFor_74 75 rfl 54 (by decide) (fun _ => rfl) (32 + 7 * jb + 1) rfl (by omega) (by decide) ?_
              refine qk_sg _ (m_w.trans (congrArg (va_up ρ 54) m_upu)) ?_
              refine qk_aloadn C dX6_dateFor_75 76 rfl rfl 2 rfl ?_
              refine qk_iloadn C dX6_dateFor_76 77 rfl rfl 3 rfl ?_
              refine qk_iconst C (2) dX6_dateFor_77 78 rfl rfl ?_
              refine qk_callS C dX6_dateFor_78 81 rfl ql_X6_88 qc_X6_bustAt (c_X6_bustAt l G _ jb 2 (by omega) (by omega)) rfl rfl (Nat.le_of_ble_eq_true rfl) ⟨(Nat.le_of_ble_eq_true rfl), (Nat.le_of_ble_eq_true rfl)⟩ (qx_Ki ?_)
              refine qk_iloadn C dX6_dateFor_81 82 rfl rfl 5 rfl ?_
              refine qk_callV C dX6_dateFor_82 85 rfl ql_X6_212 qc_X6_behind 53 (by decide) rfl rfl (c_X6_behind l G ρ N (upd v (32 + 7 * jb + 1) (nI f)) (qv_fr hI _ hjb (Or.inl rfl)) (32 + 7 * jb + 2) (by omega) jn (by omega)) rfl rfl (Nat.le_of_ble_eq_true rfl) ⟨(Nat.le_of_ble_eq_true rfl), (Nat.le_of_ble_eq_true rfl)⟩ (qx_Ki ?_)
              refine qk_iloadn C dX6_dateFor_85 86 rfl rfl 4 rfl ?_
              refine qk_ishr C dX6_dateFor_86 87 rfl ?_
              refine qk_iconst C (1) dX6_dateFor_87 88 rfl rfl ?_
              refine qk_iand C dX6_dateFor_88 89 rfl ?_
              refine qk_iconst C (1) dX6_dateFor_89 90 rfl rfl ?_
              refine qk_icmp_ne C dX6_dateFor_90 98 rfl 93 rfl (fun c_90 => ?_) (fun c_90 => ?_)
              · refine qk_iconst C ((-1)) dX6_dateFor_98 99 rfl rfl ?_
                refine qk_istore C dX6_dateFor_99 101 rfl (by decide) rfl ?_
                refine qk_iinc C (nI f + (-1)) dX6_dateFor_101 104 rfl 1 rfl (by rw [pk_m1 f]; rfl) (by decide) rfl ?_
                refine qk_goto C dX6_dateFor_104 56 rfl ?_
                exact ih_56 f _ _ none ⟨by omega, hi.2.1.ua, fun _ => (hi.2.2.1 rfl).trans (z_gd_f c_90), fun k e => by cases e⟩ (by omega)
              · refine qk_iload C dX6_dateFor_93 95 rfl 0 rfl ?_
                refine qk_cast (pk_m1 f) ?_
                refine qk_goto C dX6_dateFor_95 99 rfl ?_
                refine qk_istore C dX6_dateFor_99 101 rfl (by decide) rfl ?_
                refine qk_iinc C (nI f + (-1)) dX6_dateFor_101 104 rfl 1 rfl (by rw [pk_m1 f]; rfl) (by decide) rfl ?_
                refine qk_goto C dX6_dateFor_104 56 rfl ?_
                exact ih_56 _ _ _ (some f) ⟨by omega, hi.2.1.ua, fun e => (by cases e), fun k e => by cases e; exact ⟨(hi.2.2.1 rfl).trans (z_gd_t c_90), by omega⟩⟩ (by omega)
            · have hk := hi.2.2.2 k rfl
              refine qk_iload C dX6_dateFor_56 58 rfl 0 rfl ?_
              refine qk_cast (pk_m1 f) ?_
              refine qk_if_lt C dX6_dateFor_58 107 rfl 61 rfl (fun c_58 => absurd c_58 (nI_pos (by omega))) (fun c_58 => ?_)
              refine qk_iload C dX6_dateFor_61 63 rfl 1 rfl ?_
              refine qk_if_ge C dX6_dateFor_63 107 rfl 66 rfl (fun c_63 => ?_) (fun c_63 => absurd (nI_pos' (by omega)) c_63)
              refine qk_aloadn C dX6_dateFor_107 108 rfl rfl 2 rfl ?_
              refine qk_get C dX6_dateFor_108 111 rfl qf_X6_9 53 (by decide) rfl rfl ?_
              refine qk_iload C dX6_dateFor_111 113 rfl 6 rfl ?_
              refine qk_iload C dX6_dateFor_113 115 rfl 7 rfl ?_
              refine qk_iast C dX6_dateFor_115 116 rfl 54 (by decide) (fun _ => rfl) (32 + 7 * jb + 1) rfl (by omega) (by decide) ?_
              refine qk_sg _ (m_w.trans (congrArg (va_up ρ 54) m_upr)) ?_
              refine qk_aloadn C dX6_dateFor_116 117 rfl rfl 2 rfl ?_
              refine qk_iload C dX6_dateFor_117 119 rfl 1 rfl ?_
              refine qk_callV C dX6_dateFor_119 122 rfl ql_X6_155 qc_X6_orNone 53 (by decide) rfl rfl (c_X6_orNone l G _ (some k) (fun b e => by cases e; have := hk.2; omega)) rfl rfl (Nat.le_of_ble_eq_true rfl) ⟨(Nat.le_of_ble_eq_true rfl), (Nat.le_of_ble_eq_true rfl)⟩ (qx_Ki ?_)
              exact hret _ _ _ _ dX6_dateFor_122 (qMx_on ((zif_t ⟨z_ib_nI hjb hN8, c_12, c_22⟩).trans (by rw [zn_nI (show jb < 2 ^ 31 by omega), zn_nI (show jn < 2 ^ 31 by omega)]; exact congrArg (fun o => z_on o N v) (hk.1))) rfl hi.2.1.up qx_up_eq) rfl
        refine qk_sg (va_up σ 54 (upd v (32 + 7 * jb + 1) (v (32 + 7 * jb + 1)))) (congrArg (va_up σ 54) m_ups.symm) ?_
        exact qk_lo [0, 1, 4, 5, 6, 7, 3, 2] rfl (lp_56 _ 1000 σ _ none ⟨by omega, mTr.rf, fun _ => rfl, fun k e => by cases e⟩ (Nat.lt_succ_self _))
      · refine qk_aloadn C dX6_dateFor_25 26 rfl rfl 0 rfl ?_
        refine qk_ldc C dX6_dateFor_26 28 rfl qw_947 ?_
        refine qk_callV C dX6_dateFor_28 31 rfl ql_X6_66 qc_X6_finding 53 (by decide) rfl rfl (c_X6_finding l G _ _ 0 (by decide) (by decide)) rfl rfl (Nat.le_of_ble_eq_true rfl) ⟨(Nat.le_of_ble_eq_true rfl), (Nat.le_of_ble_eq_true rfl)⟩ (qx_Ki ?_)
        exact hret _ _ _ _ dX6_dateFor_31 (qMx_bad 0 (zif_f (by first | exact fun q => c_5 q.1 | exact fun q => c_12 q.2.1 | exact fun q => c_22 q.2.2)) rfl mTr.rf.up qx_up_eq) rfl

theorem c_X6_seal (l : Launch) (G : qx_G) (σ : qx_Sg) (N : Nat) (v : Nat → Int32) (hI : qv_ok v N) (n : Int32) : qx_Ct l G yX6_seal cX6_seal 4 (some .int) 9 201 [.ref (qx_ad G 53), .int n] (va_up σ 54 v) (qMx σ (S_sealM N v n)) := by
  refine qx_of .int (lo := [(0, .ref (qx_ad G 53)), (1, .int n)]) (by decide +kernel) (Nat.le_of_ble_eq_true rfl) rfl (fun Δ (C : qx_C G Δ cX6_seal RX6 4 9 201) hret => ?_)
  have hN8 := hI.1
  have hN1 := hI.2.1
  refine qk_iloadn C dX6_seal_0 1 rfl rfl 1 rfl ?_
  refine qk_iconst C (0) dX6_seal_1 2 rfl rfl ?_
  refine qk_bipush C (20) dX6_seal_2 4 rfl rfl ?_
  refine qk_callS C dX6_seal_4 7 rfl ql_X6_70 qc_X6_within (c_X6_within l G _ _ _ _) rfl rfl (Nat.le_of_ble_eq_true rfl) ⟨(Nat.le_of_ble_eq_true rfl), (Nat.le_of_ble_eq_true rfl)⟩ (qx_Ki ?_)
  refine qk_if_neB C dX6_seal_7 17 rfl 10 rfl (fun c_7 => ?_) (fun c_7 => ?_)
  · obtain ⟨jn, hjn, rfl⟩ := z_in_ex 20 rfl (by omega) c_7
    refine qk_iconst C ((-1)) dX6_seal_17 18 rfl rfl ?_
    refine qk_istoren C dX6_seal_18 19 rfl rfl (by decide) rfl ?_
    refine qk_iconst C (1) dX6_seal_19 20 rfl rfl ?_
    refine qk_aloadn C dX6_seal_20 21 rfl rfl 1 rfl ?_
    refine qk_get C dX6_seal_21 24 rfl qf_X6_9 53 (by decide) rfl rfl ?_
    refine qk_iconst C (1) dX6_seal_24 25 rfl rfl ?_
    refine qk_iald C dX6_seal_25 26 rfl 54 (by decide) (fun _ => rfl) 1 rfl (by omega) (by decide) ?_
    refine qk_cast (hN1) ?_
    refine qk_ishl C dX6_seal_26 27 rfl ?_
    refine qk_iconst C (1) dX6_seal_27 28 rfl rfl ?_
    refine qk_isub C dX6_seal_28 29 rfl ?_
    refine qk_cast ((m_2N hN8).1) ?_
    refine qk_istoren C dX6_seal_29 30 rfl rfl (by decide) rfl ?_
    have lp_30 : ∀ (n_30 : Nat) (t : Nat) (ρ : qx_Sg) (o : Option Nat), (t ≤ 2 ^ N ∧ mTr σ ρ ∧ m_sb (fun s => z_ka N v jn (nI s)) (2 ^ N) t = o) → 2 ^ N - t < n_30 → qx_K l G Δ (va_up ρ 54 v) 30 [(3, .int (nI (2 ^ N - t) + (-1))), (2, .int (z_oi o)), (0, .ref (qx_ad G 53)), (1, .int (nI jn))] [] := by
      intro n_30
      induction n_30 with
      | zero => intro _ _ _ _ h9; exact absurd h9 (Nat.not_lt_zero _)
      | succ n_30 ih_30 =>
        intro t ρ o hi hm_30
        have hMM : 2 ^ N ≤ 4096 := (by have := (m_2N hN8).2; omega)
        have hk := fun bk e => m_sb_lt (b := bk) hi.1 (hi.2.2.trans e)
        rcases hf : 2 ^ N - t with _ | f <;> rcases o with _ | bk
        · refine qk_iloadn C dX6_seal_30 31 rfl rfl 0 rfl ?_
          refine qk_if_lt C dX6_seal_31 70 rfl 34 rfl (fun _ => ?_) (fun c => absurd (by decide) c)
          refine qk_aloadn C dX6_seal_70 71 rfl rfl 2 rfl ?_
          refine qk_iloadn C dX6_seal_71 72 rfl rfl 1 rfl ?_
          refine qk_callV C dX6_seal_72 75 rfl ql_X6_155 qc_X6_orNone 53 (by decide) rfl rfl (c_X6_orNone l G _ none (fun b e => by cases e)) rfl rfl (Nat.le_of_ble_eq_true rfl) ⟨(Nat.le_of_ble_eq_true rfl), (Nat.le_of_ble_eq_true rfl)⟩ (qx_Ki ?_)
          exact hret _ _ _ _ dX6_seal_75 (qMx_on ((zif_t c_7).trans (by rw [zn_nI (show jn < 2 ^ 31 by omega)]; exact congrArg (fun o => z_on o N v) (show m_sb (fun s => z_ka N v jn (nI s)) (2 ^ N) (2 ^ N) = _ from by have h9 := hi.2.2; rw [show t = 2 ^ N by omega] at h9; exact h9))) rfl hi.2.1.up qx_up_eq) rfl
        · have hb := hk bk rfl
          refine qk_iloadn C dX6_seal_30 31 rfl rfl 0 rfl ?_
          refine qk_if_lt C dX6_seal_31 70 rfl 34 rfl (fun _ => ?_) (fun c => absurd (by decide) c)
          refine qk_aloadn C dX6_seal_70 71 rfl rfl 2 rfl ?_
          refine qk_iloadn C dX6_seal_71 72 rfl rfl 1 rfl ?_
          refine qk_callV C dX6_seal_72 75 rfl ql_X6_155 qc_X6_orNone 53 (by decide) rfl rfl (c_X6_orNone l G _ (some bk) (fun b e => by cases e; omega)) rfl rfl (Nat.le_of_ble_eq_true rfl) ⟨(Nat.le_of_ble_eq_true rfl), (Nat.le_of_ble_eq_true rfl)⟩ (qx_Ki ?_)
          exact hret _ _ _ _ dX6_seal_75 (qMx_on ((zif_t c_7).trans (by rw [zn_nI (show jn < 2 ^ 31 by omega)]; exact congrArg (fun o => z_on o N v) (show m_sb (fun s => z_ka N v jn (nI s)) (2 ^ N) (2 ^ N) = _ from by have h9 := hi.2.2; rw [show t = 2 ^ N by omega] at h9; exact h9))) rfl hi.2.1.up qx_up_eq) rfl
        · have hf1 : 2 ^ N - (t + 1) = f := by omega
          refine qk_iloadn C dX6_seal_30 31 rfl rfl 0 rfl ?_
          refine qk_cast (pk_m1 f) ?_
          refine qk_if_lt C dX6_seal_31 70 rfl 34 rfl (fun c_31 => absurd c_31 (nI_pos (by omega))) (fun c_31 => ?_)
          refine qk_iloadn C dX6_seal_34 35 rfl rfl 1 rfl ?_
          refine qk_if_lt C dX6_seal_35 49 rfl 38 rfl (fun _ => ?_) (fun c => absurd (by decide) c)
          refine qk_aloadn C dX6_seal_49 50 rfl rfl 2 rfl ?_
          refine qk_iloadn C dX6_seal_50 51 rfl rfl 0 rfl ?_
          refine qk_cast (pk_m1 f) ?_
          refine qk_iloadn C dX6_seal_51 52 rfl rfl 3 rfl ?_
          refine qk_callV C dX6_seal_52 55 rfl ql_X6_221 qc_X6_nobodyLeaves 53 (by decide) rfl rfl (c_X6_nobodyLeaves l G ρ N v hI (nI f) jn (by omega)) rfl rfl (Nat.le_of_ble_eq_true rfl) ⟨(Nat.le_of_ble_eq_true rfl), (Nat.le_of_ble_eq_true rfl)⟩ (qx_Ki ?_)
          refine qk_if_eqB C dX6_seal_55 62 rfl 58 rfl (fun c_55 => ?_) (fun c_55 => ?_)
          · refine qk_iloadn C dX6_seal_62 63 rfl rfl 1 rfl ?_
            refine qk_istoren C dX6_seal_63 64 rfl rfl (by decide) rfl ?_
            refine qk_iinc C (nI (2 ^ N - (t + 1)) + (-1)) dX6_seal_64 67 rfl 1 rfl (by rw [pk_m1 f, hf1]; rfl) (by decide) rfl ?_
            refine qk_goto C dX6_seal_67 30 rfl ?_
            exact ih_30 (t + 1) _ none ⟨by omega, hi.2.1.ua, by rw [show m_sb (fun s => z_ka N v jn (nI s)) (2 ^ N) (t + 1) = m_s1 (fun s => z_ka N v jn (nI s)) (2 ^ N - (t + 1)) (m_sb (fun s => z_ka N v jn (nI s)) (2 ^ N) t) from rfl, hi.2.2, hf1]; exact m_s1_f (fun q => c_55 q.2)⟩ (by omega)
          · refine qk_iloadn C dX6_seal_58 59 rfl rfl 0 rfl ?_
            refine qk_cast (pk_m1 f) ?_
            refine qk_goto C dX6_seal_59 63 rfl ?_
            refine qk_istoren C dX6_seal_63 64 rfl rfl (by decide) rfl ?_
            refine qk_iinc C (nI (2 ^ N - (t + 1)) + (-1)) dX6_seal_64 67 rfl 1 rfl (by rw [pk_m1 f, hf1]; rfl) (by decide) rfl ?_
            refine qk_goto C dX6_seal_67 30 rfl ?_
            exact ih_30 (t + 1) _ (some f) ⟨by omega, hi.2.1.ua, by rw [show m_sb (fun s => z_ka N v jn (nI s)) (2 ^ N) (t + 1) = m_s1 (fun s => z_ka N v jn (nI s)) (2 ^ N - (t + 1)) (m_sb (fun s => z_ka N v jn (nI s)) (2 ^ N) t) from rfl, hi.2.2, hf1]; exact m_s1_t ⟨fun b e => (by cases e), c_55⟩⟩ (by omega)
        · have hf1 : 2 ^ N - (t + 1) = f := by omega
          have hb := hk bk rfl
          refine qk_iloadn C dX6_seal_30 31 rfl rfl 0 rfl ?_
          refine qk_cast (pk_m1 f) ?_
          refine qk_if_lt C dX6_seal_31 70 rfl 34 rfl (fun c_31 => absurd c_31 (nI_pos (by omega))) (fun c_31 => ?_)
          refine qk_iloadn C dX6_seal_34 35 rfl rfl 1 rfl ?_
          refine qk_if_lt C dX6_seal_35 49 rfl 38 rfl (fun c_35 => absurd c_35 (nI_pos (by omega))) (fun c_35 => ?_)
          refine qk_iloadn C dX6_seal_38 39 rfl rfl 0 rfl ?_
          refine qk_cast (pk_m1 f) ?_
          refine qk_callS C dX6_seal_39 42 rfl ql_X6_111 qc_X6_bits (c_X6_bits l G _ _ ⟨f, by omega, rfl⟩) rfl rfl (Nat.le_of_ble_eq_true rfl) ⟨(Nat.le_of_ble_eq_true rfl), (Nat.le_of_ble_eq_true rfl)⟩ (qx_Ki ?_)
          refine qk_iloadn C dX6_seal_42 43 rfl rfl 1 rfl ?_
          refine qk_callS C dX6_seal_43 46 rfl ql_X6_111 qc_X6_bits (c_X6_bits l G _ _ ⟨bk, by omega, rfl⟩) rfl rfl (Nat.le_of_ble_eq_true rfl) ⟨(Nat.le_of_ble_eq_true rfl), (Nat.le_of_ble_eq_true rfl)⟩ (qx_Ki ?_)
          refine qk_icmp_gt C dX6_seal_46 62 rfl 49 rfl (fun c_46 => ?_) (fun c_46 => ?_)
          · refine qk_iloadn C dX6_seal_62 63 rfl rfl 1 rfl ?_
            refine qk_istoren C dX6_seal_63 64 rfl rfl (by decide) rfl ?_
            refine qk_iinc C (nI (2 ^ N - (t + 1)) + (-1)) dX6_seal_64 67 rfl 1 rfl (by rw [pk_m1 f, hf1]; rfl) (by decide) rfl ?_
            refine qk_goto C dX6_seal_67 30 rfl ?_
            exact ih_30 (t + 1) _ (some bk) ⟨by omega, hi.2.1, by rw [show m_sb (fun s => z_ka N v jn (nI s)) (2 ^ N) (t + 1) = m_s1 (fun s => z_ka N v jn (nI s)) (2 ^ N - (t + 1)) (m_sb (fun s => z_ka N v jn (nI s)) (2 ^ N) t) from rfl, hi.2.2, hf1]; exact m_s1_f (fun q => q.1 bk rfl c_46)⟩ (by omega)
          · refine qk_aloadn C dX6_seal_49 50 rfl rfl 2 rfl ?_
            refine qk_iloadn C dX6_seal_50 51 rfl rfl 0 rfl ?_
            refine qk_cast (pk_m1 f) ?_
            refine qk_iloadn C dX6_seal_51 52 rfl rfl 3 rfl ?_
            refine qk_callV C dX6_seal_52 55 rfl ql_X6_221 qc_X6_nobodyLeaves 53 (by decide) rfl rfl (c_X6_nobodyLeaves l G ρ N v hI (nI f) jn (by omega)) rfl rfl (Nat.le_of_ble_eq_true rfl) ⟨(Nat.le_of_ble_eq_true rfl), (Nat.le_of_ble_eq_true rfl)⟩ (qx_Ki ?_)
            refine qk_if_eqB C dX6_seal_55 62 rfl 58 rfl (fun c_55 => ?_) (fun c_55 => ?_)
            · refine qk_iloadn C dX6_seal_62 63 rfl rfl 1 rfl ?_
              refine qk_istoren C dX6_seal_63 64 rfl rfl (by decide) rfl ?_
              refine qk_iinc C (nI (2 ^ N - (t + 1)) + (-1)) dX6_seal_64 67 rfl 1 rfl (by rw [pk_m1 f, hf1]; rfl) (by decide) rfl ?_
              refine qk_goto C dX6_seal_67 30 rfl ?_
              exact ih_30 (t + 1) _ (some bk) ⟨by omega, hi.2.1.ua, by rw [show m_sb (fun s => z_ka N v jn (nI s)) (2 ^ N) (t + 1) = m_s1 (fun s => z_ka N v jn (nI s)) (2 ^ N - (t + 1)) (m_sb (fun s => z_ka N v jn (nI s)) (2 ^ N) t) from rfl, hi.2.2, hf1]; exact m_s1_f (fun q => c_55 q.2)⟩ (by omega)
            · refine qk_iloadn C dX6_seal_58 59 rfl rfl 0 rfl ?_
              refine qk_cast (pk_m1 f) ?_
              refine qk_goto C dX6_seal_59 63 rfl ?_
              refine qk_istoren C dX6_seal_63 64 rfl rfl (by decide) rfl ?_
              refine qk_iinc C (nI (2 ^ N - (t + 1)) + (-1)) dX6_seal_64 67 rfl 1 rfl (by rw [pk_m1 f, hf1]; rfl) (by decide) rfl ?_
              refine qk_goto C dX6_seal_67 30 rfl ?_
              exact ih_30 (t + 1) _ (some f) ⟨by omega, hi.2.1.ua, by rw [show m_sb (fun s => z_ka N v jn (nI s)) (2 ^ N) (t + 1) = m_s1 (fun s => z_ka N v jn (nI s)) (2 ^ N - (t + 1)) (m_sb (fun s => z_ka N v jn (nI s)) (2 ^ N) t) from rfl, hi.2.2, hf1]; exact m_s1_t ⟨fun b e => by cases e; exact c_46, c_55⟩⟩ (by omega)
    exact lp_30 _ 0 σ none ⟨Nat.zero_le _, mTr.rf, rfl⟩ (Nat.lt_succ_self _)
  · refine qk_aloadn C dX6_seal_10 11 rfl rfl 0 rfl ?_
    refine qk_ldc C dX6_seal_11 13 rfl qw_947 ?_
    refine qk_callV C dX6_seal_13 16 rfl ql_X6_66 qc_X6_finding 53 (by decide) rfl rfl (c_X6_finding l G _ _ 0 (by decide) (by decide)) rfl rfl (Nat.le_of_ble_eq_true rfl) ⟨(Nat.le_of_ble_eq_true rfl), (Nat.le_of_ble_eq_true rfl)⟩ (qx_Ki ?_)
    exact hret _ _ _ _ dX6_seal_16 (qMx_bad 0 (zif_f (by first | exact fun q => c_7 q)) rfl mTr.rf.up qx_up_eq) rfl

theorem c_X6_pathTo (l : Launch) (G : qx_G) (σ : qx_Sg) (N : Nat) (v : Nat → Int32) (hI : qv_ok v N) (b p : Int32) : qx_Ct l G yX6_pathTo cX6_pathTo 5 (some .int) 6 136 [.ref (qx_ad G 53), .int b, .int p] (va_up σ 54 v) (qMx σ (S_pathToM N v b p)) := by
  refine qx_of .int (lo := [(0, .ref (qx_ad G 53)), (1, .int b), (2, .int p)]) (by decide +kernel) (Nat.le_of_ble_eq_true rfl) rfl (fun Δ (C : qx_C G Δ cX6_pathTo RX6 5 6 136) hret => ?_)
  have hN8 := hI.1
  have hN1 := hI.2.1
  refine qk_aloadn C dX6_pathTo_0 1 rfl rfl 0 rfl ?_
  refine qk_iloadn C dX6_pathTo_1 2 rfl rfl 1 rfl ?_
  refine qk_callV C dX6_pathTo_2 5 rfl ql_X6_137 qc_X6_isBust 53 (by decide) rfl rfl (c_X6_isBust l G σ N v hI _) rfl rfl (Nat.le_of_ble_eq_true rfl) ⟨(Nat.le_of_ble_eq_true rfl), (Nat.le_of_ble_eq_true rfl)⟩ (qx_Ki ?_)
  refine qk_if_eqB C dX6_pathTo_5 15 rfl 8 rfl (fun c_5 => ?_) (fun c_5 => ?_)
  · refine qk_aloadn C dX6_pathTo_15 16 rfl rfl 0 rfl ?_
    refine qk_ldc C dX6_pathTo_16 18 rfl qw_947 ?_
    refine qk_callV C dX6_pathTo_18 21 rfl ql_X6_66 qc_X6_finding 53 (by decide) rfl rfl (c_X6_finding l G _ _ 0 (by decide) (by decide)) rfl rfl (Nat.le_of_ble_eq_true rfl) ⟨(Nat.le_of_ble_eq_true rfl), (Nat.le_of_ble_eq_true rfl)⟩ (qx_Ki ?_)
    exact hret _ _ _ _ dX6_pathTo_21 (qMx_bad 0 (zif_f (by first | exact fun q => c_5 q.1 | exact fun q => c_12 q.2)) rfl mTr.rf.up qx_up_eq) rfl
  · refine qk_iloadn C dX6_pathTo_8 9 rfl rfl 2 rfl ?_
    refine qk_callS C dX6_pathTo_9 12 rfl ql_X6_85 qc_X6_isPart (c_X6_isPart l G _ _) rfl rfl (Nat.le_of_ble_eq_true rfl) ⟨(Nat.le_of_ble_eq_true rfl), (Nat.le_of_ble_eq_true rfl)⟩ (qx_Ki ?_)
    refine qk_if_neB C dX6_pathTo_12 22 rfl 15 rfl (fun c_12 => ?_) (fun c_12 => ?_)
    · obtain ⟨jb, hjb, rfl⟩ := z_ib_ex c_5 hN8
      refine qk_iconst C ((-1)) dX6_pathTo_22 23 rfl rfl ?_
      refine qk_istoren C dX6_pathTo_23 24 rfl rfl (by decide) rfl ?_
      refine qk_sipush C (nI 4096 + (-1)) dX6_pathTo_24 27 rfl rfl ?_
      refine qk_istore C dX6_pathTo_27 29 rfl (by decide) rfl ?_
      have lp_29 : ∀ (n_29 : Nat) (t : Nat) (ρ : qx_Sg) (o : Option Nat), (t ≤ 4096 ∧ mTr σ ρ ∧ m_sb (fun s => z_hs (m_lt (v (32 + 7 * jb + 0)) (nI s) 12 (v (32 + 7 * jb + 2))) p) (4096) t = o) → 4096 - t < n_29 → qx_K l G Δ (va_up ρ 54 v) 29 [(4, .int (nI (4096 - t) + (-1))), (3, .int (z_oi o)), (0, .ref (qx_ad G 53)), (1, .int (nI jb)), (2, .int p)] [] := by
        intro n_29
        induction n_29 with
        | zero => intro _ _ _ _ h9; exact absurd h9 (Nat.not_lt_zero _)
        | succ n_29 ih_29 =>
          intro t ρ o hi hm_29
          have hMM : 4096 ≤ 4096 := (Nat.le_refl _)
          have hk := fun bk e => m_sb_lt (b := bk) hi.1 (hi.2.2.trans e)
          rcases hf : 4096 - t with _ | f <;> rcases o with _ | bk
          · refine qk_iload C dX6_pathTo_29 31 rfl 0 rfl ?_
            refine qk_if_lt C dX6_pathTo_31 74 rfl 34 rfl (fun _ => ?_) (fun c => absurd (by decide) c)
            refine qk_aloadn C dX6_pathTo_74 75 rfl rfl 2 rfl ?_
            refine qk_iloadn C dX6_pathTo_75 76 rfl rfl 1 rfl ?_
            refine qk_callV C dX6_pathTo_76 79 rfl ql_X6_155 qc_X6_orNone 53 (by decide) rfl rfl (c_X6_orNone l G _ none (fun b e => by cases e)) rfl rfl (Nat.le_of_ble_eq_true rfl) ⟨(Nat.le_of_ble_eq_true rfl), (Nat.le_of_ble_eq_true rfl)⟩ (qx_Ki ?_)
            exact hret _ _ _ _ dX6_pathTo_79 (qMx_on ((zif_t ⟨z_ib_nI hjb hN8, c_12⟩).trans (by rw [zn_nI (show jb < 2 ^ 31 by omega)]; exact congrArg (fun o => z_on o N v) (show m_sb (fun s => z_hs (m_lt (v (32 + 7 * jb + 0)) (nI s) 12 (v (32 + 7 * jb + 2))) p) (4096) (4096) = _ from by have h9 := hi.2.2; rw [show t = 4096 by omega] at h9; exact h9))) rfl hi.2.1.up qx_up_eq) rfl
          · have hb := hk bk rfl
            refine qk_iload C dX6_pathTo_29 31 rfl 0 rfl ?_
            refine qk_if_lt C dX6_pathTo_31 74 rfl 34 rfl (fun _ => ?_) (fun c => absurd (by decide) c)
            refine qk_aloadn C dX6_pathTo_74 75 rfl rfl 2 rfl ?_
            refine qk_iloadn C dX6_pathTo_75 76 rfl rfl 1 rfl ?_
            refine qk_callV C dX6_pathTo_76 79 rfl ql_X6_155 qc_X6_orNone 53 (by decide) rfl rfl (c_X6_orNone l G _ (some bk) (fun b e => by cases e; omega)) rfl rfl (Nat.le_of_ble_eq_true rfl) ⟨(Nat.le_of_ble_eq_true rfl), (Nat.le_of_ble_eq_true rfl)⟩ (qx_Ki ?_)
            exact hret _ _ _ _ dX6_pathTo_79 (qMx_on ((zif_t ⟨z_ib_nI hjb hN8, c_12⟩).trans (by rw [zn_nI (show jb < 2 ^ 31 by omega)]; exact congrArg (fun o => z_on o N v) (show m_sb (fun s => z_hs (m_lt (v (32 + 7 * jb + 0)) (nI s) 12 (v (32 + 7 * jb + 2))) p) (4096) (4096) = _ from by have h9 := hi.2.2; rw [show t = 4096 by omega] at h9; exact h9))) rfl hi.2.1.up qx_up_eq) rfl
          · have hf1 : 4096 - (t + 1) = f := by omega
            refine qk_iload C dX6_pathTo_29 31 rfl 0 rfl ?_
            refine qk_cast (pk_m1 f) ?_
            refine qk_if_lt C dX6_pathTo_31 74 rfl 34 rfl (fun c_31 => absurd c_31 (nI_pos (by omega))) (fun c_31 => ?_)
            refine qk_iloadn C dX6_pathTo_34 35 rfl rfl 1 rfl ?_
            refine qk_if_lt C dX6_pathTo_35 50 rfl 38 rfl (fun _ => ?_) (fun c => absurd (by decide) c)
            refine qk_aloadn C dX6_pathTo_50 51 rfl rfl 2 rfl ?_
            refine qk_iload C dX6_pathTo_51 53 rfl 0 rfl ?_
            refine qk_cast (pk_m1 f) ?_
            refine qk_iloadn C dX6_pathTo_53 54 rfl rfl 3 rfl ?_
            refine qk_iloadn C dX6_pathTo_54 55 rfl rfl 4 rfl ?_
            refine qk_callV C dX6_pathTo_55 58 rfl ql_X6_218 qc_X6_leadsTo 53 (by decide) rfl rfl (c_X6_leadsTo l G ρ v jb (by omega) (nI f) p) rfl rfl (Nat.le_of_ble_eq_true rfl) ⟨(Nat.le_of_ble_eq_true rfl), (Nat.le_of_ble_eq_true rfl)⟩ (qx_Ki ?_)
            refine qk_if_eqB C dX6_pathTo_58 66 rfl 61 rfl (fun c_58 => ?_) (fun c_58 => ?_)
            · refine qk_iloadn C dX6_pathTo_66 67 rfl rfl 1 rfl ?_
              refine qk_istoren C dX6_pathTo_67 68 rfl rfl (by decide) rfl ?_
              refine qk_iinc C (nI (4096 - (t + 1)) + (-1)) dX6_pathTo_68 71 rfl 1 rfl (by rw [pk_m1 f, hf1]; rfl) (by decide) rfl ?_
              refine qk_goto C dX6_pathTo_71 29 rfl ?_
              exact ih_29 (t + 1) _ none ⟨by omega, hi.2.1, by rw [show m_sb (fun s => z_hs (m_lt (v (32 + 7 * jb + 0)) (nI s) 12 (v (32 + 7 * jb + 2))) p) (4096) (t + 1) = m_s1 (fun s => z_hs (m_lt (v (32 + 7 * jb + 0)) (nI s) 12 (v (32 + 7 * jb + 2))) p) (4096 - (t + 1)) (m_sb (fun s => z_hs (m_lt (v (32 + 7 * jb + 0)) (nI s) 12 (v (32 + 7 * jb + 2))) p) (4096) t) from rfl, hi.2.2, hf1]; exact m_s1_f (fun q => c_58 q.2)⟩ (by omega)
            · refine qk_iload C dX6_pathTo_61 63 rfl 0 rfl ?_
              refine qk_cast (pk_m1 f) ?_
              refine qk_goto C dX6_pathTo_63 67 rfl ?_
              refine qk_istoren C dX6_pathTo_67 68 rfl rfl (by decide) rfl ?_
              refine qk_iinc C (nI (4096 - (t + 1)) + (-1)) dX6_pathTo_68 71 rfl 1 rfl (by rw [pk_m1 f, hf1]; rfl) (by decide) rfl ?_
              refine qk_goto C dX6_pathTo_71 29 rfl ?_
              exact ih_29 (t + 1) _ (some f) ⟨by omega, hi.2.1, by rw [show m_sb (fun s => z_hs (m_lt (v (32 + 7 * jb + 0)) (nI s) 12 (v (32 + 7 * jb + 2))) p) (4096) (t + 1) = m_s1 (fun s => z_hs (m_lt (v (32 + 7 * jb + 0)) (nI s) 12 (v (32 + 7 * jb + 2))) p) (4096 - (t + 1)) (m_sb (fun s => z_hs (m_lt (v (32 + 7 * jb + 0)) (nI s) 12 (v (32 + 7 * jb + 2))) p) (4096) t) from rfl, hi.2.2, hf1]; exact m_s1_t ⟨fun b e => (by cases e), c_58⟩⟩ (by omega)
          · have hf1 : 4096 - (t + 1) = f := by omega
            have hb := hk bk rfl
            refine qk_iload C dX6_pathTo_29 31 rfl 0 rfl ?_
            refine qk_cast (pk_m1 f) ?_
            refine qk_if_lt C dX6_pathTo_31 74 rfl 34 rfl (fun c_31 => absurd c_31 (nI_pos (by omega))) (fun c_31 => ?_)
            refine qk_iloadn C dX6_pathTo_34 35 rfl rfl 1 rfl ?_
            refine qk_if_lt C dX6_pathTo_35 50 rfl 38 rfl (fun c_35 => absurd c_35 (nI_pos (by omega))) (fun c_35 => ?_)
            refine qk_iload C dX6_pathTo_38 40 rfl 0 rfl ?_
            refine qk_cast (pk_m1 f) ?_
            refine qk_callS C dX6_pathTo_40 43 rfl ql_X6_111 qc_X6_bits (c_X6_bits l G _ _ ⟨f, by omega, rfl⟩) rfl rfl (Nat.le_of_ble_eq_true rfl) ⟨(Nat.le_of_ble_eq_true rfl), (Nat.le_of_ble_eq_true rfl)⟩ (qx_Ki ?_)
            refine qk_iloadn C dX6_pathTo_43 44 rfl rfl 1 rfl ?_
            refine qk_callS C dX6_pathTo_44 47 rfl ql_X6_111 qc_X6_bits (c_X6_bits l G _ _ ⟨bk, by omega, rfl⟩) rfl rfl (Nat.le_of_ble_eq_true rfl) ⟨(Nat.le_of_ble_eq_true rfl), (Nat.le_of_ble_eq_true rfl)⟩ (qx_Ki ?_)
            refine qk_icmp_gt C dX6_pathTo_47 66 rfl 50 rfl (fun c_47 => ?_) (fun c_47 => ?_)
            · refine qk_iloadn C dX6_pathTo_66 67 rfl rfl 1 rfl ?_
              refine qk_istoren C dX6_pathTo_67 68 rfl rfl (by decide) rfl ?_
              refine qk_iinc C (nI (4096 - (t + 1)) + (-1)) dX6_pathTo_68 71 rfl 1 rfl (by rw [pk_m1 f, hf1]; rfl) (by decide) rfl ?_
              refine qk_goto C dX6_pathTo_71 29 rfl ?_
              exact ih_29 (t + 1) _ (some bk) ⟨by omega, hi.2.1, by rw [show m_sb (fun s => z_hs (m_lt (v (32 + 7 * jb + 0)) (nI s) 12 (v (32 + 7 * jb + 2))) p) (4096) (t + 1) = m_s1 (fun s => z_hs (m_lt (v (32 + 7 * jb + 0)) (nI s) 12 (v (32 + 7 * jb + 2))) p) (4096 - (t + 1)) (m_sb (fun s => z_hs (m_lt (v (32 + 7 * jb + 0)) (nI s) 12 (v (32 + 7 * jb + 2))) p) (4096) t) from rfl, hi.2.2, hf1]; exact m_s1_f (fun q => q.1 bk rfl c_47)⟩ (by omega)
            · refine qk_aloadn C dX6_pathTo_50 51 rfl rfl 2 rfl ?_
              refine qk_iload C dX6_pathTo_51 53 rfl 0 rfl ?_
              refine qk_cast (pk_m1 f) ?_
              refine qk_iloadn C dX6_pathTo_53 54 rfl rfl 3 rfl ?_
              refine qk_iloadn C dX6_pathTo_54 55 rfl rfl 4 rfl ?_
              refine qk_callV C dX6_pathTo_55 58 rfl ql_X6_218 qc_X6_leadsTo 53 (by decide) rfl rfl (c_X6_leadsTo l G ρ v jb (by omega) (nI f) p) rfl rfl (Nat.le_of_ble_eq_true rfl) ⟨(Nat.le_of_ble_eq_true rfl), (Nat.le_of_ble_eq_true rfl)⟩ (qx_Ki ?_)
              refine qk_if_eqB C dX6_pathTo_58 66 rfl 61 rfl (fun c_58 => ?_) (fun c_58 => ?_)
              · refine qk_iloadn C dX6_pathTo_66 67 rfl rfl 1 rfl ?_
                refine qk_istoren C dX6_pathTo_67 68 rfl rfl (by decide) rfl ?_
                refine qk_iinc C (nI (4096 - (t + 1)) + (-1)) dX6_pathTo_68 71 rfl 1 rfl (by rw [pk_m1 f, hf1]; rfl) (by decide) rfl ?_
                refine qk_goto C dX6_pathTo_71 29 rfl ?_
                exact ih_29 (t + 1) _ (some bk) ⟨by omega, hi.2.1, by rw [show m_sb (fun s => z_hs (m_lt (v (32 + 7 * jb + 0)) (nI s) 12 (v (32 + 7 * jb + 2))) p) (4096) (t + 1) = m_s1 (fun s => z_hs (m_lt (v (32 + 7 * jb + 0)) (nI s) 12 (v (32 + 7 * jb + 2))) p) (4096 - (t + 1)) (m_sb (fun s => z_hs (m_lt (v (32 + 7 * jb + 0)) (nI s) 12 (v (32 + 7 * jb + 2))) p) (4096) t) from rfl, hi.2.2, hf1]; exact m_s1_f (fun q => c_58 q.2)⟩ (by omega)
              · refine qk_iload C dX6_pathTo_61 63 rfl 0 rfl ?_
                refine qk_cast (pk_m1 f) ?_
                refine qk_goto C dX6_pathTo_63 67 rfl ?_
                refine qk_istoren C dX6_pathTo_67 68 rfl rfl (by decide) rfl ?_
                refine qk_iinc C (nI (4096 - (t + 1)) + (-1)) dX6_pathTo_68 71 rfl 1 rfl (by rw [pk_m1 f, hf1]; rfl) (by decide) rfl ?_
                refine qk_goto C dX6_pathTo_71 29 rfl ?_
                exact ih_29 (t + 1) _ (some f) ⟨by omega, hi.2.1, by rw [show m_sb (fun s => z_hs (m_lt (v (32 + 7 * jb + 0)) (nI s) 12 (v (32 + 7 * jb + 2))) p) (4096) (t + 1) = m_s1 (fun s => z_hs (m_lt (v (32 + 7 * jb + 0)) (nI s) 12 (v (32 + 7 * jb + 2))) p) (4096 - (t + 1)) (m_sb (fun s => z_hs (m_lt (v (32 + 7 * jb + 0)) (nI s) 12 (v (32 + 7 * jb + 2))) p) (4096) t) from rfl, hi.2.2, hf1]; exact m_s1_t ⟨fun b e => by cases e; exact c_47, c_58⟩⟩ (by omega)
      exact lp_29 _ 0 σ none ⟨Nat.zero_le _, mTr.rf, rfl⟩ (Nat.lt_succ_self _)
    · refine qk_aloadn C dX6_pathTo_15 16 rfl rfl 0 rfl ?_
      refine qk_ldc C dX6_pathTo_16 18 rfl qw_947 ?_
      refine qk_callV C dX6_pathTo_18 21 rfl ql_X6_66 qc_X6_finding 53 (by decide) rfl rfl (c_X6_finding l G _ _ 0 (by decide) (by decide)) rfl rfl (Nat.le_of_ble_eq_true rfl) ⟨(Nat.le_of_ble_eq_true rfl), (Nat.le_of_ble_eq_true rfl)⟩ (qx_Ki ?_)
      exact hret _ _ _ _ dX6_pathTo_21 (qMx_bad 0 (zif_f (by first | exact fun q => c_5 q.1 | exact fun q => c_12 q.2)) rfl mTr.rf.up qx_up_eq) rfl

theorem c_X6_kinds (l : Launch) (G : qx_G) (σ : qx_Sg) (N : Nat) (v : Nat → Int32) (hI : qv_ok v N) (hSh : qS_ok (m_vw σ)) (s b : Int32) : qx_Ct l G yX6_kinds cX6_kinds 4 (some .int) 9 207 [.ref (qx_ad G 53), .int s, .int b] (va_up σ 54 v) (qMx σ (S_kinds N v (m_vw σ) s b)) := by
  refine qx_of .int (lo := [(0, .ref (qx_ad G 53)), (1, .int s), (2, .int b)]) (by decide +kernel) (Nat.le_of_ble_eq_true rfl) rfl (fun Δ (C : qx_C G Δ cX6_kinds RX6 4 9 207) hret => ?_)
  have hN8 := hI.1
  have hN1 := hI.2.1
  refine qk_aloadn C dX6_kinds_0 1 rfl rfl 0 rfl ?_
  refine qk_iloadn C dX6_kinds_1 2 rfl rfl 1 rfl ?_
  refine qk_aloadn C dX6_kinds_2 3 rfl rfl 0 rfl ?_
  refine qk_iloadn C dX6_kinds_3 4 rfl rfl 2 rfl ?_
  refine qk_callV C dX6_kinds_4 7 rfl ql_X6_137 qc_X6_isBust 53 (by decide) rfl rfl (c_X6_isBust l G σ N v hI _) rfl rfl (Nat.le_of_ble_eq_true rfl) ⟨(Nat.le_of_ble_eq_true rfl), (Nat.le_of_ble_eq_true rfl)⟩ (qx_Ki ?_)
  refine qk_callV C dX6_kinds_7 10 rfl ql_X6_231 qc_X6_lacks 53 (by decide) rfl rfl (c_X6_lacks l G _ _ _) rfl rfl (Nat.le_of_ble_eq_true rfl) ⟨(Nat.le_of_ble_eq_true rfl), (Nat.le_of_ble_eq_true rfl)⟩ (qx_Ki ?_)
  rcases m_lk_cases (va_up σ 54 v) s (qb (z_ib N b)) with ⟨h1, e⟩ | ⟨h1, h2, e⟩ | ⟨h1, h2, h3, e⟩ | ⟨h1, h2, h3, e⟩
  · refine qk_cast e ?_
    refine qk_istoren C dX6_kinds_10 11 rfl rfl (by decide) rfl ?_
    refine qk_iloadn C dX6_kinds_11 12 rfl rfl 0 rfl ?_
    refine qk_if_eq C dX6_kinds_12 23 rfl 15 rfl (fun c => absurd c (by decide)) (fun _ => ?_)
    refine qk_aloadn C dX6_kinds_15 16 rfl rfl 1 rfl ?_
    refine qk_iloadn C dX6_kinds_16 17 rfl rfl 0 rfl ?_
    refine qk_callV C dX6_kinds_17 20 rfl ql_X6_66 qc_X6_finding 53 (by decide) rfl rfl (c_X6_finding l G _ _ 0 (by decide) (by decide)) rfl rfl (Nat.le_of_ble_eq_true rfl) ⟨(Nat.le_of_ble_eq_true rfl), (Nat.le_of_ble_eq_true rfl)⟩ (qx_Ki ?_)
    refine qk_goto C dX6_kinds_20 36 rfl ?_
    exact hret _ _ _ _ dX6_kinds_36 (qMx_bad 0 (zif_f h1) rfl mTr.rf.up qx_up_eq) rfl
  · refine qk_cast e ?_
    refine qk_istoren C dX6_kinds_10 11 rfl rfl (by decide) rfl ?_
    refine qk_iloadn C dX6_kinds_11 12 rfl rfl 0 rfl ?_
    refine qk_if_eq C dX6_kinds_12 23 rfl 15 rfl (fun c => absurd c (by decide)) (fun _ => ?_)
    refine qk_aloadn C dX6_kinds_15 16 rfl rfl 1 rfl ?_
    refine qk_iloadn C dX6_kinds_16 17 rfl rfl 0 rfl ?_
    refine qk_callV C dX6_kinds_17 20 rfl ql_X6_66 qc_X6_finding 53 (by decide) rfl rfl (c_X6_finding l G _ _ 5 (by decide) (by decide)) rfl rfl (Nat.le_of_ble_eq_true rfl) ⟨(Nat.le_of_ble_eq_true rfl), (Nat.le_of_ble_eq_true rfl)⟩ (qx_Ki ?_)
    refine qk_goto C dX6_kinds_20 36 rfl ?_
    exact hret _ _ _ _ dX6_kinds_36 (qMx_bad 5 ((zif_t h1).trans (zif_t (by rw [show m_vw σ (44 + zn s) 0 = σ 61 (zn s) from by obtain ⟨j, hj, rfl⟩ := z_in_ex 3 rfl (by omega) h1; rw [zn_nI (show j < 2 ^ 31 by omega), m_vw0 (by omega)]]; exact h2))) rfl mTr.rf.up qx_up_eq) rfl
  · refine qk_cast e ?_
    refine qk_istoren C dX6_kinds_10 11 rfl rfl (by decide) rfl ?_
    refine qk_iloadn C dX6_kinds_11 12 rfl rfl 0 rfl ?_
    refine qk_if_eq C dX6_kinds_12 23 rfl 15 rfl (fun c => absurd c (by decide)) (fun _ => ?_)
    refine qk_aloadn C dX6_kinds_15 16 rfl rfl 1 rfl ?_
    refine qk_iloadn C dX6_kinds_16 17 rfl rfl 0 rfl ?_
    refine qk_callV C dX6_kinds_17 20 rfl ql_X6_66 qc_X6_finding 53 (by decide) rfl rfl (c_X6_finding l G _ _ 0 (by decide) (by decide)) rfl rfl (Nat.le_of_ble_eq_true rfl) ⟨(Nat.le_of_ble_eq_true rfl), (Nat.le_of_ble_eq_true rfl)⟩ (qx_Ki ?_)
    refine qk_goto C dX6_kinds_20 36 rfl ?_
    exact hret _ _ _ _ dX6_kinds_36 (qMx_bad 0 ((zif_t h1).trans ((zif_f (fun q => h2 (by rw [show m_vw σ (44 + zn s) 0 = σ 61 (zn s) from by obtain ⟨j, hj, rfl⟩ := z_in_ex 3 rfl (by omega) h1; rw [zn_nI (show j < 2 ^ 31 by omega), m_vw0 (by omega)]] at q; exact q))).trans (zif_f (qb_eq0.mp h3)))) rfl mTr.rf.up qx_up_eq) rfl
  · refine qk_cast e ?_
    obtain ⟨js, hjs, rfl⟩ := z_in_ex 3 rfl (by omega) h1
    have h2s := h2
    rw [zn_nI (show js < 2 ^ 31 by omega)] at h2
    have h2s : ¬ m_vw σ (44 + zn (nI js)) 0 = 0 := by rw [zn_nI (show js < 2 ^ 31 by omega), m_vw0 (by omega)]; exact h2
    obtain ⟨n, hn, en⟩ := (hSh js (by omega)).2
    rw [m_vw1 (by omega)] at en
    refine qk_istoren C dX6_kinds_10 11 rfl rfl (by decide) rfl ?_
    refine qk_iloadn C dX6_kinds_11 12 rfl rfl 0 rfl ?_
    refine qk_if_eq C dX6_kinds_12 23 rfl 15 rfl (fun _ => ?_) (fun c => absurd rfl c)
    have hz := Classical.byContradiction (fun q => h3 (qb_f q))
    obtain ⟨jb, hjb, rfl⟩ := z_ib_ex hz hN8
    refine qk_aloadn C dX6_kinds_23 24 rfl rfl 1 rfl ?_
    refine qk_iloadn C dX6_kinds_24 25 rfl rfl 2 rfl ?_
    refine qk_iloadn C dX6_kinds_25 26 rfl rfl 3 rfl ?_
    refine qk_iloadn C dX6_kinds_26 27 rfl rfl 3 rfl ?_
    refine qk_iconst C (0) dX6_kinds_27 28 rfl rfl ?_
    refine qk_callS C dX6_kinds_28 31 rfl ql_X6_88 qc_X6_bustAt (c_X6_bustAt l G _ jb 0 (by omega) (by omega)) rfl rfl (Nat.le_of_ble_eq_true rfl) ⟨(Nat.le_of_ble_eq_true rfl), (Nat.le_of_ble_eq_true rfl)⟩ (qx_Ki ?_)
    refine qk_bipush C (nI 7) dX6_kinds_31 33 rfl rfl ?_
    refine qk_callV C dX6_kinds_33 36 rfl ql_X6_235 qc_X6_fitting 53 (by decide) rfl rfl (c_X6_fitting l G σ N v hI jb hjb js (by omega) n hn en (32 + 7 * jb + 0) (by omega) 7 (by omega) (fun t ht => qv_kd hI hjb (by omega))) rfl rfl (Nat.le_of_ble_eq_true rfl) ⟨(Nat.le_of_ble_eq_true rfl), (Nat.le_of_ble_eq_true rfl)⟩ (qx_KF ?_)
    intro ρ hρ
    exact hret _ _ _ _ dX6_kinds_36 (qMx_ok ((zif_t h1).trans <| (zif_f h2s).trans (by rw [zn_nI (show js < 2 ^ 31 by omega)]; exact (zif_t hz).trans (by rw [zn_nI (show jb < 2 ^ 31 by omega), m_vw1 (by omega), en, zn_nI (show n < 2 ^ 31 by omega), m_vwn]; rfl))) rfl hρ.up qx_up_eq) rfl

theorem c_X6_fits (l : Launch) (G : qx_G) (σ : qx_Sg) (N : Nat) (v : Nat → Int32) (hI : qv_ok v N) (hSh : qS_ok (m_vw σ)) (s b : Int32) : qx_Ct l G yX6_fits cX6_fits 4 (some .int) 9 207 [.ref (qx_ad G 53), .int s, .int b] (va_up σ 54 v) (qMx σ (S_fits N v (m_vw σ) s b)) := by
  refine qx_of .int (lo := [(0, .ref (qx_ad G 53)), (1, .int s), (2, .int b)]) (by decide +kernel) (Nat.le_of_ble_eq_true rfl) rfl (fun Δ (C : qx_C G Δ cX6_fits RX6 4 9 207) hret => ?_)
  have hN8 := hI.1
  have hN1 := hI.2.1
  refine qk_aloadn C dX6_fits_0 1 rfl rfl 0 rfl ?_
  refine qk_iloadn C dX6_fits_1 2 rfl rfl 1 rfl ?_
  refine qk_aloadn C dX6_fits_2 3 rfl rfl 0 rfl ?_
  refine qk_iloadn C dX6_fits_3 4 rfl rfl 2 rfl ?_
  refine qk_callV C dX6_fits_4 7 rfl ql_X6_137 qc_X6_isBust 53 (by decide) rfl rfl (c_X6_isBust l G σ N v hI _) rfl rfl (Nat.le_of_ble_eq_true rfl) ⟨(Nat.le_of_ble_eq_true rfl), (Nat.le_of_ble_eq_true rfl)⟩ (qx_Ki ?_)
  refine qk_callV C dX6_fits_7 10 rfl ql_X6_231 qc_X6_lacks 53 (by decide) rfl rfl (c_X6_lacks l G _ _ _) rfl rfl (Nat.le_of_ble_eq_true rfl) ⟨(Nat.le_of_ble_eq_true rfl), (Nat.le_of_ble_eq_true rfl)⟩ (qx_Ki ?_)
  rcases m_lk_cases (va_up σ 54 v) s (qb (z_ib N b)) with ⟨h1, e⟩ | ⟨h1, h2, e⟩ | ⟨h1, h2, h3, e⟩ | ⟨h1, h2, h3, e⟩
  · refine qk_cast e ?_
    refine qk_istoren C dX6_fits_10 11 rfl rfl (by decide) rfl ?_
    refine qk_iloadn C dX6_fits_11 12 rfl rfl 0 rfl ?_
    refine qk_if_eq C dX6_fits_12 23 rfl 15 rfl (fun c => absurd c (by decide)) (fun _ => ?_)
    refine qk_aloadn C dX6_fits_15 16 rfl rfl 1 rfl ?_
    refine qk_iloadn C dX6_fits_16 17 rfl rfl 0 rfl ?_
    refine qk_callV C dX6_fits_17 20 rfl ql_X6_66 qc_X6_finding 53 (by decide) rfl rfl (c_X6_finding l G _ _ 0 (by decide) (by decide)) rfl rfl (Nat.le_of_ble_eq_true rfl) ⟨(Nat.le_of_ble_eq_true rfl), (Nat.le_of_ble_eq_true rfl)⟩ (qx_Ki ?_)
    refine qk_goto C dX6_fits_20 38 rfl ?_
    exact hret _ _ _ _ dX6_fits_38 (qMx_bad 0 (zif_f h1) rfl mTr.rf.up qx_up_eq) rfl
  · refine qk_cast e ?_
    refine qk_istoren C dX6_fits_10 11 rfl rfl (by decide) rfl ?_
    refine qk_iloadn C dX6_fits_11 12 rfl rfl 0 rfl ?_
    refine qk_if_eq C dX6_fits_12 23 rfl 15 rfl (fun c => absurd c (by decide)) (fun _ => ?_)
    refine qk_aloadn C dX6_fits_15 16 rfl rfl 1 rfl ?_
    refine qk_iloadn C dX6_fits_16 17 rfl rfl 0 rfl ?_
    refine qk_callV C dX6_fits_17 20 rfl ql_X6_66 qc_X6_finding 53 (by decide) rfl rfl (c_X6_finding l G _ _ 5 (by decide) (by decide)) rfl rfl (Nat.le_of_ble_eq_true rfl) ⟨(Nat.le_of_ble_eq_true rfl), (Nat.le_of_ble_eq_true rfl)⟩ (qx_Ki ?_)
    refine qk_goto C dX6_fits_20 38 rfl ?_
    exact hret _ _ _ _ dX6_fits_38 (qMx_bad 5 ((zif_t h1).trans (zif_t (by rw [show m_vw σ (44 + zn s) 0 = σ 61 (zn s) from by obtain ⟨j, hj, rfl⟩ := z_in_ex 3 rfl (by omega) h1; rw [zn_nI (show j < 2 ^ 31 by omega), m_vw0 (by omega)]]; exact h2))) rfl mTr.rf.up qx_up_eq) rfl
  · refine qk_cast e ?_
    refine qk_istoren C dX6_fits_10 11 rfl rfl (by decide) rfl ?_
    refine qk_iloadn C dX6_fits_11 12 rfl rfl 0 rfl ?_
    refine qk_if_eq C dX6_fits_12 23 rfl 15 rfl (fun c => absurd c (by decide)) (fun _ => ?_)
    refine qk_aloadn C dX6_fits_15 16 rfl rfl 1 rfl ?_
    refine qk_iloadn C dX6_fits_16 17 rfl rfl 0 rfl ?_
    refine qk_callV C dX6_fits_17 20 rfl ql_X6_66 qc_X6_finding 53 (by decide) rfl rfl (c_X6_finding l G _ _ 0 (by decide) (by decide)) rfl rfl (Nat.le_of_ble_eq_true rfl) ⟨(Nat.le_of_ble_eq_true rfl), (Nat.le_of_ble_eq_true rfl)⟩ (qx_Ki ?_)
    refine qk_goto C dX6_fits_20 38 rfl ?_
    exact hret _ _ _ _ dX6_fits_38 (qMx_bad 0 ((zif_t h1).trans ((zif_f (fun q => h2 (by rw [show m_vw σ (44 + zn s) 0 = σ 61 (zn s) from by obtain ⟨j, hj, rfl⟩ := z_in_ex 3 rfl (by omega) h1; rw [zn_nI (show j < 2 ^ 31 by omega), m_vw0 (by omega)]] at q; exact q))).trans (zif_f (qb_eq0.mp h3)))) rfl mTr.rf.up qx_up_eq) rfl
  · refine qk_cast e ?_
    obtain ⟨js, hjs, rfl⟩ := z_in_ex 3 rfl (by omega) h1
    have h2s := h2
    rw [zn_nI (show js < 2 ^ 31 by omega)] at h2
    have h2s : ¬ m_vw σ (44 + zn (nI js)) 0 = 0 := by rw [zn_nI (show js < 2 ^ 31 by omega), m_vw0 (by omega)]; exact h2
    obtain ⟨n, hn, en⟩ := (hSh js (by omega)).2
    rw [m_vw1 (by omega)] at en
    refine qk_istoren C dX6_fits_10 11 rfl rfl (by decide) rfl ?_
    refine qk_iloadn C dX6_fits_11 12 rfl rfl 0 rfl ?_
    refine qk_if_eq C dX6_fits_12 23 rfl 15 rfl (fun _ => ?_) (fun c => absurd rfl c)
    have hz := Classical.byContradiction (fun q => h3 (qb_f q))
    obtain ⟨jb, hjb, rfl⟩ := z_ib_ex hz hN8
    have hdd : z_dd v < 6 := Nat.mod_lt _ (by omega)
    refine qk_aloadn C dX6_fits_23 24 rfl rfl 1 rfl ?_
    refine qk_iloadn C dX6_fits_24 25 rfl rfl 2 rfl ?_
    refine qk_iloadn C dX6_fits_25 26 rfl rfl 3 rfl ?_
    refine qk_aloadn C dX6_fits_26 27 rfl rfl 1 rfl ?_
    refine qk_callV C dX6_fits_27 30 rfl ql_X6_172 qc_X6_placeNow 53 (by decide) rfl rfl (c_X6_placeNow l G σ N v hI) rfl rfl (Nat.le_of_ble_eq_true rfl) ⟨(Nat.le_of_ble_eq_true rfl), (Nat.le_of_ble_eq_true rfl)⟩ (qx_Ki ?_)
    refine qk_bipush C (nI 13) dX6_fits_30 32 rfl rfl ?_
    refine qk_callV C dX6_fits_32 35 rfl ql_X6_235 qc_X6_fitting 53 (by decide) rfl rfl (c_X6_fitting l G σ N v hI jb hjb js (by omega) n hn en (4 + z_dd v) (by omega) 13 (by omega) (fun t ht => qv_li hI hdd (by omega))) rfl rfl (Nat.le_of_ble_eq_true rfl) ⟨(Nat.le_of_ble_eq_true rfl), (Nat.le_of_ble_eq_true rfl)⟩ (qx_KF ?_)
    intro ρ hρ
    obtain ⟨g, hg, eg, ec⟩ := m_ft (P := fun t => z_vs N (upd v (4 + z_dd v) (nI t)) (fun i => σ 63 (40 * js + i)) n jb) (t := 13) (by omega)
    refine qk_callS C dX6_fits_35 38 rfl ql_X6_111 qc_X6_bits (c_X6_bits l G _ _ ⟨g, hg, eg⟩) rfl rfl (Nat.le_of_ble_eq_true rfl) ⟨(Nat.le_of_ble_eq_true rfl), (Nat.le_of_ble_eq_true rfl)⟩ (qx_Ki ?_)
    refine qk_cast (show _ = z_fo (fun i a => z_sel (z_vs N (upd v (4 + z_dd v) (nI i)) (fun i => σ 63 (40 * js + i)) n jb) (a + 1) a) 13 from by rw [← ec, ← eg]) ?_
    exact hret _ _ _ _ dX6_fits_38 (qMx_ok ((zif_t h1).trans <| (zif_f h2s).trans (by rw [zn_nI (show js < 2 ^ 31 by omega)]; exact (zif_t hz).trans (by rw [zn_nI (show jb < 2 ^ 31 by omega), m_vw1 (by omega), en, zn_nI (show n < 2 ^ 31 by omega), m_vwn]; rfl))) rfl hρ.up qx_up_eq) rfl

theorem c_X6_hold (l : Launch) (G : qx_G) (σ : qx_Sg) (N : Nat) (v : Nat → Int32) (hI : qv_ok v N) (i b : Int32) : qx_Ct l G yX6_hold cX6_hold 3 (some .int) 2 43 [.ref (qx_ad G 53), .int i, .int b] (va_up σ 54 v) (qMx σ (S_hold N v i b)) := by
  refine qx_of .int (lo := [(0, .ref (qx_ad G 53)), (1, .int i), (2, .int b)]) (by decide +kernel) (Nat.le_of_ble_eq_true rfl) rfl (fun Δ (C : qx_C G Δ cX6_hold RX6 3 2 43) hret => ?_)
  have hN8 := hI.1
  have hN1 := hI.2.1
  refine qk_iloadn C dX6_hold_0 1 rfl rfl 1 rfl ?_
  refine qk_callS C dX6_hold_1 4 rfl ql_X6_318 qc_X6_isSpot (c_X6_isSpot l G _ _) rfl rfl (Nat.le_of_ble_eq_true rfl) ⟨(Nat.le_of_ble_eq_true rfl), (Nat.le_of_ble_eq_true rfl)⟩ (qx_Ki ?_)
  refine qk_if_eqB C dX6_hold_4 20 rfl 7 rfl (fun c_4 => ?_) (fun c_4 => ?_)
  · refine qk_aloadn C dX6_hold_20 21 rfl rfl 0 rfl ?_
    refine qk_ldc C dX6_hold_21 23 rfl qw_947 ?_
    refine qk_callV C dX6_hold_23 26 rfl ql_X6_66 qc_X6_finding 53 (by decide) rfl rfl (c_X6_finding l G _ _ 0 (by decide) (by decide)) rfl rfl (Nat.le_of_ble_eq_true rfl) ⟨(Nat.le_of_ble_eq_true rfl), (Nat.le_of_ble_eq_true rfl)⟩ (qx_Ki ?_)
    exact hret _ _ _ _ dX6_hold_26 (qMx_bad 0 (zif_f (by first | exact fun q => c_4 q.1 | exact fun q => q.2.elim c_9 c_17)) rfl mTr.rf.up qx_up_eq) rfl
  · refine qk_iloadn C dX6_hold_7 8 rfl rfl 2 rfl ?_
    refine qk_iconst C ((-1)) dX6_hold_8 9 rfl rfl ?_
    refine qk_icmp_eq C dX6_hold_9 27 rfl 12 rfl (fun c_9 => ?_) (fun c_9 => ?_)
    · obtain ⟨ji, hji, rfl⟩ := z_in_ex 9 rfl (by omega) c_4
      refine qk_aloadn C dX6_hold_27 28 rfl rfl 0 rfl ?_
      refine qk_get C dX6_hold_28 31 rfl qf_X6_9 53 (by decide) rfl rfl ?_
      refine qk_bipush C (22) dX6_hold_31 33 rfl rfl ?_
      refine qk_iloadn C dX6_hold_33 34 rfl rfl 1 rfl ?_
      refine qk_iadd C dX6_hold_34 35 rfl ?_
      refine qk_cast (show _ = nI (22 + ji) from by rw [show (22 : Int32) = nI 22 from rfl, nI_add]) ?_
      refine qk_iloadn C dX6_hold_35 36 rfl rfl 2 rfl ?_
      refine qk_iast C dX6_hold_36 37 rfl 54 (by decide) (fun _ => rfl) (22 + ji) rfl (by omega) (by decide) ?_
      refine qk_sg _ (m_w) ?_
      refine qk_iconst C (1) dX6_hold_37 38 rfl rfl ?_
      exact hret _ _ _ _ dX6_hold_38 (qMx_ok ((zif_t ⟨c_4, by first | exact Or.inl c_9 | exact Or.inr c_17⟩).trans (by rw [zn_nI (show ji < 2 ^ 31 by omega)])) rfl mTr.rf.up qx_up_eq) rfl
    · refine qk_aloadn C dX6_hold_12 13 rfl rfl 0 rfl ?_
      refine qk_iloadn C dX6_hold_13 14 rfl rfl 2 rfl ?_
      refine qk_callV C dX6_hold_14 17 rfl ql_X6_137 qc_X6_isBust 53 (by decide) rfl rfl (c_X6_isBust l G σ N v hI _) rfl rfl (Nat.le_of_ble_eq_true rfl) ⟨(Nat.le_of_ble_eq_true rfl), (Nat.le_of_ble_eq_true rfl)⟩ (qx_Ki ?_)
      refine qk_if_neB C dX6_hold_17 27 rfl 20 rfl (fun c_17 => ?_) (fun c_17 => ?_)
      · obtain ⟨ji, hji, rfl⟩ := z_in_ex 9 rfl (by omega) c_4
        refine qk_aloadn C dX6_hold_27 28 rfl rfl 0 rfl ?_
        refine qk_get C dX6_hold_28 31 rfl qf_X6_9 53 (by decide) rfl rfl ?_
        refine qk_bipush C (22) dX6_hold_31 33 rfl rfl ?_
        refine qk_iloadn C dX6_hold_33 34 rfl rfl 1 rfl ?_
        refine qk_iadd C dX6_hold_34 35 rfl ?_
        refine qk_cast (show _ = nI (22 + ji) from by rw [show (22 : Int32) = nI 22 from rfl, nI_add]) ?_
        refine qk_iloadn C dX6_hold_35 36 rfl rfl 2 rfl ?_
        refine qk_iast C dX6_hold_36 37 rfl 54 (by decide) (fun _ => rfl) (22 + ji) rfl (by omega) (by decide) ?_
        refine qk_sg _ (m_w) ?_
        refine qk_iconst C (1) dX6_hold_37 38 rfl rfl ?_
        exact hret _ _ _ _ dX6_hold_38 (qMx_ok ((zif_t ⟨c_4, by first | exact Or.inl c_9 | exact Or.inr c_17⟩).trans (by rw [zn_nI (show ji < 2 ^ 31 by omega)])) rfl mTr.rf.up qx_up_eq) rfl
      · refine qk_aloadn C dX6_hold_20 21 rfl rfl 0 rfl ?_
        refine qk_ldc C dX6_hold_21 23 rfl qw_947 ?_
        refine qk_callV C dX6_hold_23 26 rfl ql_X6_66 qc_X6_finding 53 (by decide) rfl rfl (c_X6_finding l G _ _ 0 (by decide) (by decide)) rfl rfl (Nat.le_of_ble_eq_true rfl) ⟨(Nat.le_of_ble_eq_true rfl), (Nat.le_of_ble_eq_true rfl)⟩ (qx_Ki ?_)
        exact hret _ _ _ _ dX6_hold_26 (qMx_bad 0 (zif_f (by first | exact fun q => c_4 q.1 | exact fun q => q.2.elim c_9 c_17)) rfl mTr.rf.up qx_up_eq) rfl

theorem c_X6_as (l : Launch) (G : qx_G) (σ : qx_Sg) (N : Nat) (v : Nat → Int32) (hI : qv_ok v N) (i k : Int32) : qx_Ct l G yX6_as cX6_as 4 (some .int) 2 43 [.ref (qx_ad G 53), .int i, .int k] (va_up σ 54 v) (qMx σ (S_as N v i k)) := by
  refine qx_of .int (lo := [(0, .ref (qx_ad G 53)), (1, .int i), (2, .int k)]) (by decide +kernel) (Nat.le_of_ble_eq_true rfl) rfl (fun Δ (C : qx_C G Δ cX6_as RX6 4 2 43) hret => ?_)
  have hN8 := hI.1
  have hN1 := hI.2.1
  refine qk_iloadn C dX6_as_0 1 rfl rfl 1 rfl ?_
  refine qk_callS C dX6_as_1 4 rfl ql_X6_318 qc_X6_isSpot (c_X6_isSpot l G _ _) rfl rfl (Nat.le_of_ble_eq_true rfl) ⟨(Nat.le_of_ble_eq_true rfl), (Nat.le_of_ble_eq_true rfl)⟩ (qx_Ki ?_)
  refine qk_if_eqB C dX6_as_4 14 rfl 7 rfl (fun c_4 => ?_) (fun c_4 => ?_)
  · refine qk_aloadn C dX6_as_14 15 rfl rfl 0 rfl ?_
    refine qk_ldc C dX6_as_15 17 rfl qw_947 ?_
    refine qk_callV C dX6_as_17 20 rfl ql_X6_66 qc_X6_finding 53 (by decide) rfl rfl (c_X6_finding l G _ _ 0 (by decide) (by decide)) rfl rfl (Nat.le_of_ble_eq_true rfl) ⟨(Nat.le_of_ble_eq_true rfl), (Nat.le_of_ble_eq_true rfl)⟩ (qx_Ki ?_)
    exact hret _ _ _ _ dX6_as_20 (qMx_bad 0 (zif_f (by first | exact fun q => c_4 q.1 | exact fun q => c_11 q.2)) rfl mTr.rf.up qx_up_eq) rfl
  · refine qk_iloadn C dX6_as_7 8 rfl rfl 2 rfl ?_
    refine qk_callS C dX6_as_8 11 rfl ql_X6_91 qc_X6_isKind (c_X6_isKind l G _ _) rfl rfl (Nat.le_of_ble_eq_true rfl) ⟨(Nat.le_of_ble_eq_true rfl), (Nat.le_of_ble_eq_true rfl)⟩ (qx_Ki ?_)
    refine qk_if_neB C dX6_as_11 21 rfl 14 rfl (fun c_11 => ?_) (fun c_11 => ?_)
    · obtain ⟨ji, hji, rfl⟩ := z_in_ex 9 rfl (by omega) c_4
      refine qk_aloadn C dX6_as_21 22 rfl rfl 0 rfl ?_
      refine qk_get C dX6_as_22 25 rfl qf_X6_9 53 (by decide) rfl rfl ?_
      refine qk_bipush C (22) dX6_as_25 27 rfl rfl ?_
      refine qk_iloadn C dX6_as_27 28 rfl rfl 1 rfl ?_
      refine qk_iadd C dX6_as_28 29 rfl ?_
      refine qk_cast (show _ = nI (22 + ji) from by rw [show (22 : Int32) = nI 22 from rfl, nI_add]) ?_
      refine qk_iald C dX6_as_29 30 rfl 54 (by decide) (fun _ => rfl) (22 + ji) rfl (by omega) (by decide) ?_
      refine qk_cast (show _ = v (22 + ji) from rfl) ?_
      rcases hI.2.2.2.2.2 ji (by omega) with e | ⟨c, hc, e⟩
      · refine qk_cast e ?_
        refine qk_istoren C dX6_as_30 31 rfl rfl (by decide) rfl ?_
        refine qk_iloadn C dX6_as_31 32 rfl rfl 0 rfl ?_
        refine qk_if_ge C dX6_as_32 42 rfl 35 rfl (fun c => absurd c (by decide)) (fun _ => ?_)
        refine qk_aloadn C dX6_as_35 36 rfl rfl 1 rfl ?_
        refine qk_ldc C dX6_as_36 38 rfl qw_1209 ?_
        refine qk_callV C dX6_as_38 41 rfl ql_X6_66 qc_X6_finding 53 (by decide) rfl rfl (c_X6_finding l G _ _ 5 (by decide) (by decide)) rfl rfl (Nat.le_of_ble_eq_true rfl) ⟨(Nat.le_of_ble_eq_true rfl), (Nat.le_of_ble_eq_true rfl)⟩ (qx_Ki ?_)
        exact hret _ _ _ _ dX6_as_41 (qMx_bad 5 ((zif_t ⟨c_4, c_11⟩).trans (zif_f (by rw [zn_nI (show ji < 2 ^ 31 by omega), e]; exact fun q => q.1 (by decide)))) rfl mTr.rf.up qx_up_eq) rfl
      · refine qk_cast e ?_
        obtain ⟨kd, hkd, ekd⟩ := (hI.2.2.2.2.1 c hc).1
        refine qk_istoren C dX6_as_30 31 rfl rfl (by decide) rfl ?_
        refine qk_iloadn C dX6_as_31 32 rfl rfl 0 rfl ?_
        refine qk_if_ge C dX6_as_32 42 rfl 35 rfl (fun c_32 => ?_) (fun c_32 => absurd (nI_pos' (by omega)) c_32)
        refine qk_aloadn C dX6_as_42 43 rfl rfl 1 rfl ?_
        refine qk_iloadn C dX6_as_43 44 rfl rfl 0 rfl ?_
        refine qk_iconst C (0) dX6_as_44 45 rfl rfl ?_
        refine qk_callV C dX6_as_45 48 rfl ql_X6_101 qc_X6_bustIs 53 (by decide) rfl rfl (c_X6_bustIs l G σ v c 0 (by omega) (by omega)) rfl rfl (Nat.le_of_ble_eq_true rfl) ⟨(Nat.le_of_ble_eq_true rfl), (Nat.le_of_ble_eq_true rfl)⟩ (qx_Ki ?_)
        refine qk_cast (ekd) ?_
        refine qk_iloadn C dX6_as_48 49 rfl rfl 3 rfl ?_
        refine qk_callS C dX6_as_49 52 rfl ql_X6_321 qc_X6_isUnder (c_X6_isUnder l G _ kd (by omega) _) rfl rfl (Nat.le_of_ble_eq_true rfl) ⟨(Nat.le_of_ble_eq_true rfl), (Nat.le_of_ble_eq_true rfl)⟩ (qx_Ki ?_)
        refine qk_if_eqB C dX6_as_52 59 rfl 55 rfl (fun c_52 => ?_) (fun c_52 => ?_)
        · refine qk_aloadn C dX6_as_59 60 rfl rfl 1 rfl ?_
          refine qk_ldcw C dX6_as_60 63 rfl qw_1315 ?_
          refine qk_callV C dX6_as_63 66 rfl ql_X6_66 qc_X6_finding 53 (by decide) rfl rfl (c_X6_finding l G _ _ 2 (by decide) (by decide)) rfl rfl (Nat.le_of_ble_eq_true rfl) ⟨(Nat.le_of_ble_eq_true rfl), (Nat.le_of_ble_eq_true rfl)⟩ (qx_Ki ?_)
          exact hret _ _ _ _ dX6_as_66 (qMx_bad 2 ((zif_t ⟨c_4, c_11⟩).trans ((zif_t (by rw [zn_nI (show ji < 2 ^ 31 by omega), e]; exact z_ib_nI hc hN8)).trans (zif_f (by rw [zn_nI (show ji < 2 ^ 31 by omega), e, zn_nI (show c < 2 ^ 31 by omega), ekd, zn_nI (show kd < 2 ^ 31 by omega)]; exact c_52)))) rfl mTr.rf.up qx_up_eq) rfl
        · refine qk_iloadn C dX6_as_55 56 rfl rfl 0 rfl ?_
          refine qk_goto C dX6_as_56 66 rfl ?_
          exact hret _ _ _ _ dX6_as_66 (qMx_ok ((zif_t ⟨c_4, c_11⟩).trans ((zif_t (by rw [zn_nI (show ji < 2 ^ 31 by omega), e]; exact z_ib_nI hc hN8)).trans ((zif_t (by rw [zn_nI (show ji < 2 ^ 31 by omega), e, zn_nI (show c < 2 ^ 31 by omega), ekd, zn_nI (show kd < 2 ^ 31 by omega)]; exact c_52)).trans (by rw [zn_nI (show ji < 2 ^ 31 by omega), e])))) rfl mTr.rf.up qx_up_eq) rfl
    · refine qk_aloadn C dX6_as_14 15 rfl rfl 0 rfl ?_
      refine qk_ldc C dX6_as_15 17 rfl qw_947 ?_
      refine qk_callV C dX6_as_17 20 rfl ql_X6_66 qc_X6_finding 53 (by decide) rfl rfl (c_X6_finding l G _ _ 0 (by decide) (by decide)) rfl rfl (Nat.le_of_ble_eq_true rfl) ⟨(Nat.le_of_ble_eq_true rfl), (Nat.le_of_ble_eq_true rfl)⟩ (qx_Ki ?_)
      exact hret _ _ _ _ dX6_as_20 (qMx_bad 0 (zif_f (by first | exact fun q => c_4 q.1 | exact fun q => c_11 q.2)) rfl mTr.rf.up qx_up_eq) rfl

theorem c_X6_count (l : Launch) (G : qx_G) (σ : qx_Sg) (N : Nat) (v : Nat → Int32) (hI : qv_ok v N) (x : Int32) : qx_Ct l G yX6_count cX6_count 4 (some .int) 3 65 [.ref (qx_ad G 53), .int x] (va_up σ 54 v) (qMx σ (S_count N v (σ 53 6) x)) := by
  refine qx_of .int (lo := [(0, .ref (qx_ad G 53)), (1, .int x)]) (by decide +kernel) (Nat.le_of_ble_eq_true rfl) rfl (fun Δ (C : qx_C G Δ cX6_count RX6 4 3 65) hret => ?_)
  have hN8 := hI.1
  have hN1 := hI.2.1
  refine qk_iconst C (0) dX6_count_0 1 rfl rfl ?_
  refine qk_istoren C dX6_count_1 2 rfl rfl (by decide) rfl ?_
  refine qk_iloadn C dX6_count_2 3 rfl rfl 2 rfl ?_
  refine qk_eqc (0) (fun c_3_0 => ?_) (fun c_3_0 => ?_)
  · refine qk_tableIn C dX6_count_3 (0) c_3_0 (by decide) (by decide) rfl 48 rfl ?_
    refine qk_aloadn C dX6_count_48 49 rfl rfl 1 rfl ?_
    refine qk_get C dX6_count_49 52 rfl qf_X6_9 53 (by decide) rfl rfl ?_
    refine qk_iconst C (0) dX6_count_52 53 rfl rfl ?_
    refine qk_iald C dX6_count_53 54 rfl 54 (by decide) (fun _ => rfl) (0) rfl (by omega) (by decide) ?_
    refine qk_cast (show _ = v (0) from rfl) ?_
    exact hret _ _ _ _ dX6_count_54 (qMx_ok (N := N) (by simp [S_count, c_3_0]) rfl mTr.rf.up qx_up_eq) rfl
  refine qk_eqc (1) (fun c_3_1 => ?_) (fun c_3_1 => ?_)
  · refine qk_tableIn C dX6_count_3 (1) c_3_1 (by decide) (by decide) rfl 55 rfl ?_
    refine qk_aloadn C dX6_count_55 56 rfl rfl 1 rfl ?_
    refine qk_get C dX6_count_56 59 rfl qf_X6_9 53 (by decide) rfl rfl ?_
    refine qk_iconst C (1) dX6_count_59 60 rfl rfl ?_
    refine qk_iald C dX6_count_60 61 rfl 54 (by decide) (fun _ => rfl) (1) rfl (by omega) (by decide) ?_
    refine qk_cast (hN1) ?_
    exact hret _ _ _ _ dX6_count_61 (qMx_ok (N := N) (by simp [S_count, c_3_0, c_3_1]) rfl mTr.rf.up qx_up_eq) rfl
  refine qk_eqc (2) (fun c_3_2 => ?_) (fun c_3_2 => ?_)
  · refine qk_tableIn C dX6_count_3 (2) c_3_2 (by decide) (by decide) rfl 62 rfl ?_
    refine qk_aloadn C dX6_count_62 63 rfl rfl 1 rfl ?_
    refine qk_get C dX6_count_63 66 rfl qf_X6_9 53 (by decide) rfl rfl ?_
    refine qk_iconst C (3) dX6_count_66 67 rfl rfl ?_
    refine qk_iald C dX6_count_67 68 rfl 54 (by decide) (fun _ => rfl) (3) rfl (by omega) (by decide) ?_
    refine qk_cast (show _ = v (3) from rfl) ?_
    exact hret _ _ _ _ dX6_count_68 (qMx_ok (N := N) (by simp [S_count, c_3_0, c_3_1, c_3_2]) rfl mTr.rf.up qx_up_eq) rfl
  refine qk_eqc (3) (fun c_3_3 => ?_) (fun c_3_3 => ?_)
  · refine qk_tableIn C dX6_count_3 (3) c_3_3 (by decide) (by decide) rfl 69 rfl ?_
    refine qk_aloadn C dX6_count_69 70 rfl rfl 1 rfl ?_
    refine qk_callV C dX6_count_70 73 rfl ql_X6_187 qc_X6_inStore 53 (by decide) rfl rfl (c_X6_inStore l G σ N v hI) rfl rfl (Nat.le_of_ble_eq_true rfl) ⟨(Nat.le_of_ble_eq_true rfl), (Nat.le_of_ble_eq_true rfl)⟩ (qx_Ki ?_)
    exact hret _ _ _ _ dX6_count_73 (qMx_ok (N := N) (by simp [S_count, c_3_0, c_3_1, c_3_2, c_3_3]) rfl mTr.rf.up qx_up_eq) rfl
  refine qk_eqc (4) (fun c_3_4 => ?_) (fun c_3_4 => ?_)
  · refine qk_tableIn C dX6_count_3 (4) c_3_4 (by decide) (by decide) rfl 74 rfl ?_
    refine qk_aloadn C dX6_count_74 75 rfl rfl 1 rfl ?_
    refine qk_callV C dX6_count_75 78 rfl ql_X6_202 qc_X6_goneOnes 53 (by decide) rfl rfl (c_X6_goneOnes l G σ N v hI) rfl rfl (Nat.le_of_ble_eq_true rfl) ⟨(Nat.le_of_ble_eq_true rfl), (Nat.le_of_ble_eq_true rfl)⟩ (qx_Ki ?_)
    refine qk_callS C dX6_count_78 81 rfl ql_X6_111 qc_X6_bits (c_X6_bits l G _ _ (m_go hN8)) rfl rfl (Nat.le_of_ble_eq_true rfl) ⟨(Nat.le_of_ble_eq_true rfl), (Nat.le_of_ble_eq_true rfl)⟩ (qx_Ki ?_)
    exact hret _ _ _ _ dX6_count_81 (qMx_ok (N := N) (by simp [S_count, c_3_0, c_3_1, c_3_2, c_3_3, c_3_4]) rfl mTr.rf.up qx_up_eq) rfl
  refine qk_eqc (5) (fun c_3_5 => ?_) (fun c_3_5 => ?_)
  · refine qk_tableIn C dX6_count_3 (5) c_3_5 (by decide) (by decide) rfl 82 rfl ?_
    refine qk_aloadn C dX6_count_82 83 rfl rfl 1 rfl ?_
    refine qk_get C dX6_count_83 86 rfl qf_X6_243 53 (by decide) rfl rfl ?_
    refine qk_cast (show _ = σ 53 6 from rfl) ?_
    exact hret _ _ _ _ dX6_count_86 (qMx_ok (N := N) (by simp [S_count, c_3_0, c_3_1, c_3_2, c_3_3, c_3_4, c_3_5]) rfl mTr.rf.up qx_up_eq) rfl
  refine qk_eqc (6) (fun c_3_6 => ?_) (fun c_3_6 => ?_)
  · refine qk_tableIn C dX6_count_3 (6) c_3_6 (by decide) (by decide) rfl 87 rfl ?_
    refine qk_aloadn C dX6_count_87 88 rfl rfl 1 rfl ?_
    refine qk_get C dX6_count_88 91 rfl qf_X6_9 53 (by decide) rfl rfl ?_
    refine qk_iconst C (2) dX6_count_91 92 rfl rfl ?_
    refine qk_iald C dX6_count_92 93 rfl 54 (by decide) (fun _ => rfl) (2) rfl (by omega) (by decide) ?_
    refine qk_cast (show _ = v (2) from rfl) ?_
    exact hret _ _ _ _ dX6_count_93 (qMx_ok (N := N) (by simp [S_count, c_3_0, c_3_1, c_3_2, c_3_3, c_3_4, c_3_5, c_3_6]) rfl mTr.rf.up qx_up_eq) rfl
  refine qk_eqc (7) (fun c_3_7 => ?_) (fun c_3_7 => ?_)
  · refine qk_tableIn C dX6_count_3 (7) c_3_7 (by decide) (by decide) rfl 94 rfl ?_
    refine qk_iconst C (nI 0) dX6_count_94 95 rfl rfl ?_
    refine qk_istoren C dX6_count_95 96 rfl rfl (by decide) rfl ?_
    have lp_96 : ∀ (n_96 : Nat) (i : Nat) (a : Int32), (i ≤ 10 ∧ a = z_fo (z_Fsp v) i) → 10 - i < n_96 → qx_K l G Δ (va_up σ 54 v) 96 [(3, .int (nI i)), (2, .int a), (0, .ref (qx_ad G 53))] [] := by
      intro n_96
      induction n_96 with
      | zero => intro _ _ _ h9; exact absurd h9 (Nat.not_lt_zero _)
      | succ n_96 ih_96 =>
        intro i a hi hm_96
        refine qk_iloadn C dX6_count_96 97 rfl rfl 0 rfl ?_
        refine qk_bipush C (nI 10) dX6_count_97 99 rfl rfl ?_
        refine qk_icmp_ge C dX6_count_99 128 rfl 102 rfl (fun c_99 => ?_) (fun c_99 => ?_)
        · have h10 : 10 ≤ i := (nI_leI (by omega) (by omega)).mp c_99
          refine qk_iloadn C dX6_count_128 129 rfl rfl 1 rfl ?_
          exact hret _ _ _ _ dX6_count_129 (qMx_ok (by rw [c_3_7, hi.2, show i = 10 by omega]; rfl) rfl mTr.rf.up qx_up_eq) rfl
        · have h10 : i < 10 := Nat.not_le.mp (fun q => c_99 (nI_le q (by omega)))
          refine qk_iloadn C dX6_count_102 103 rfl rfl 1 rfl ?_
          refine qk_aloadn C dX6_count_103 104 rfl rfl 2 rfl ?_
          refine qk_get C dX6_count_104 107 rfl qf_X6_9 53 (by decide) rfl rfl ?_
          refine qk_bipush C (22) dX6_count_107 109 rfl rfl ?_
          refine qk_iloadn C dX6_count_109 110 rfl rfl 0 rfl ?_
          refine qk_iadd C dX6_count_110 111 rfl ?_
          refine qk_cast (show _ = nI (22 + i) from by rw [show (22 : Int32) = nI 22 from rfl, nI_add]) ?_
          refine qk_iald C dX6_count_111 112 rfl 54 (by decide) (fun _ => rfl) (22 + i) rfl (by omega) (by decide) ?_
          refine qk_cast (show _ = v (22 + i) from rfl) ?_
          refine qk_if_ge C dX6_count_112 119 rfl 115 rfl (fun c_112 => ?_) (fun c_112 => ?_)
          · refine qk_iconst C (1) dX6_count_119 120 rfl rfl ?_
            refine qk_iadd C dX6_count_120 121 rfl ?_
            refine qk_istoren C dX6_count_121 122 rfl rfl (by decide) rfl ?_
            refine qk_iinc C (nI (i + 1)) dX6_count_122 125 rfl 1 rfl (nI_1 i) (by decide) rfl ?_
            refine qk_goto C dX6_count_125 96 rfl ?_
            exact ih_96 (i + 1) _ ⟨by omega, by rw [hi.2]; exact (z_sel_f (Int32.not_lt.mpr c_112)).symm⟩ (by omega)
          · refine qk_iconst C (0) dX6_count_115 116 rfl rfl ?_
            refine qk_goto C dX6_count_116 120 rfl ?_
            refine qk_iadd C dX6_count_120 121 rfl ?_
            refine qk_istoren C dX6_count_121 122 rfl rfl (by decide) rfl ?_
            refine qk_iinc C (nI (i + 1)) dX6_count_122 125 rfl 1 rfl (nI_1 i) (by decide) rfl ?_
            refine qk_goto C dX6_count_125 96 rfl ?_
            exact ih_96 (i + 1) _ ⟨by omega, by rw [hi.2]; exact (Int32.add_zero _).trans (z_sel_t (Int32.not_le.mp c_112)).symm⟩ (by omega)
    exact qk_lo [0, 1, 2] rfl (lp_96 _ 0 _ ⟨by omega, rfl⟩ (Nat.lt_succ_self _))
  refine qk_tableOut C dX6_count_3 (by have h0 := lv_neT c_3_0 (show (0 : Int32).toInt = 0 from rfl); have h1 := lv_neT c_3_1 (show (1 : Int32).toInt = 1 from rfl); have h2 := lv_neT c_3_2 (show (2 : Int32).toInt = 2 from rfl); have h3 := lv_neT c_3_3 (show (3 : Int32).toInt = 3 from rfl); have h4 := lv_neT c_3_4 (show (4 : Int32).toInt = 4 from rfl); have h5 := lv_neT c_3_5 (show (5 : Int32).toInt = 5 from rfl); have h6 := lv_neT c_3_6 (show (6 : Int32).toInt = 6 from rfl); have h7 := lv_neT c_3_7 (show (7 : Int32).toInt = 7 from rfl); omega) 130 rfl ?_
  refine qk_aloadn C dX6_count_130 131 rfl rfl 1 rfl ?_
  refine qk_ldc C dX6_count_131 133 rfl qw_947 ?_
  refine qk_callV C dX6_count_133 136 rfl ql_X6_66 qc_X6_finding 53 (by decide) rfl rfl (c_X6_finding l G _ _ 0 (by decide) (by decide)) rfl rfl (Nat.le_of_ble_eq_true rfl) ⟨(Nat.le_of_ble_eq_true rfl), (Nat.le_of_ble_eq_true rfl)⟩ (qx_Ki ?_)
  exact hret _ _ _ _ dX6_count_136 (qMx_bad (N := N) 0 (by simp [S_count, c_3_0, c_3_1, c_3_2, c_3_3, c_3_4, c_3_5, c_3_6, c_3_7]) rfl mTr.rf.up qx_up_eq) rfl

theorem c_X6_chance (l : Launch) (G : qx_G) (σ : qx_Sg) (N : Nat) (v : Nat → Int32) (hI : qv_ok v N) (n : Int32) : qx_Ct l G yX6_chance cX6_chance 5 (some .int) 7 155 [.ref (qx_ad G 53), .int n] (va_up σ 54 v) (qMx σ (S_chance N v n)) := by
  refine qx_of .int (lo := [(0, .ref (qx_ad G 53)), (1, .int n)]) (by decide +kernel) (Nat.le_of_ble_eq_true rfl) rfl (fun Δ (C : qx_C G Δ cX6_chance RX6 5 7 155) hret => ?_)
  have hN8 := hI.1
  have hN1 := hI.2.1
  refine qk_iloadn C dX6_chance_0 1 rfl rfl 1 rfl ?_
  refine qk_iconst C (1) dX6_chance_1 2 rfl rfl ?_
  refine qk_bipush C (20) dX6_chance_2 4 rfl rfl ?_
  refine qk_callS C dX6_chance_4 7 rfl ql_X6_70 qc_X6_within (c_X6_within l G _ _ _ _) rfl rfl (Nat.le_of_ble_eq_true rfl) ⟨(Nat.le_of_ble_eq_true rfl), (Nat.le_of_ble_eq_true rfl)⟩ (qx_Ki ?_)
  refine qk_if_neB C dX6_chance_7 17 rfl 10 rfl (fun c_7 => ?_) (fun c_7 => ?_)
  · have hc : ¬ n < 1 ∧ n ≤ 20 := ⟨c_7.1, Int32.not_lt.mp c_7.2⟩
    obtain ⟨jn, hjn, rfl⟩ := nI_of2 (M := 20) (n := 20) rfl (fun q => hc.1 (Int32.lt_of_lt_of_le q (by decide))) hc.2
    refine qk_aloadn C dX6_chance_17 18 rfl rfl 0 rfl ?_
    refine qk_get C dX6_chance_18 21 rfl qf_X6_9 53 (by decide) rfl rfl ?_
    refine qk_iconst C (0) dX6_chance_21 22 rfl rfl ?_
    refine qk_iald C dX6_chance_22 23 rfl 54 (by decide) (fun _ => rfl) (0) rfl (by omega) (by decide) ?_
    refine qk_cast (show _ = v (0) from rfl) ?_
    refine qk_iloadn C dX6_chance_23 24 rfl rfl 1 rfl ?_
    refine qk_iadd C dX6_chance_24 25 rfl ?_
    refine qk_ldc C dX6_chance_25 27 rfl qw_1078 ?_
    refine qk_icmp_le C dX6_chance_27 37 rfl 30 rfl (fun c_27 => ?_) (fun c_27 => ?_)
    · refine qk_iconst C (nI 0) dX6_chance_37 38 rfl rfl ?_
      refine qk_istoren C dX6_chance_38 39 rfl rfl (by decide) rfl ?_
      have lp_39 : ∀ (n_39 : Nat) (k : Nat), k ≤ jn → jn - k < n_39 → qx_K l G Δ (va_up σ 54 (z_cn v N k)) 39 [(2, .int (nI k)), (0, .ref (qx_ad G 53)), (1, .int (nI jn))] [] := by
        intro n_39
        induction n_39 with
        | zero => intro _ _ h9; exact absurd h9 (Nat.not_lt_zero _)
        | succ n_39 ih_39 =>
          intro k hi hm_39
          have hJ := qv_cn hI k
          generalize hu : z_cn v N k = u at hJ
          have r1 := z_rn_lt (z_dr u 2)
          have r2 := z_rn_lt (z_dr (z_dr u) 2)
          have hdd : z_dd (z_dr u) < 6 := Nat.mod_lt _ (by omega)
          have hq2 : z_q2 u < 8 := Nat.mod_lt _ (by omega)
          have hsu : z_cn v N (k + 1) = z_ch u N := by rw [← hu]; rfl
          refine qk_iloadn C dX6_chance_39 40 rfl rfl 0 rfl ?_
          refine qk_iloadn C dX6_chance_40 41 rfl rfl 2 rfl ?_
          refine qk_icmp_ge C dX6_chance_41 104 rfl 44 rfl (fun c_41 => ?_) (fun c_41 => ?_)
          · have hkn : jn ≤ k := (nI_leI (by omega) (by omega)).mp c_41
            have hke : k = jn := by omega
            subst hke
            refine qk_aloadn C dX6_chance_104 105 rfl rfl 1 rfl ?_
            refine qk_get C dX6_chance_105 108 rfl qf_X6_9 53 (by decide) rfl rfl ?_
            refine qk_iconst C (3) dX6_chance_108 109 rfl rfl ?_
            refine qk_iald C dX6_chance_109 110 rfl 54 (by decide) (fun _ => rfl) (3) rfl (by omega) (by decide) ?_
            refine qk_cast (show _ = u (3) from rfl) ?_
            exact hret _ _ _ _ dX6_chance_110 (qMx_ok (N := N) ((zif_t hc).trans ((zif_t c_27).trans (by rw [zn_nI (show k < 2 ^ 31 by omega), hu]))) rfl mTr.rf.up qx_up_eq) rfl
          · have hkn : k < jn := Nat.not_le.mp (fun q => c_41 (nI_le q (by omega)))
            refine qk_aloadn C dX6_chance_44 45 rfl rfl 1 rfl ?_
            refine qk_callV C dX6_chance_45 48 rfl ql_X6_240 qc_X6_drawn 53 (by decide) rfl rfl (c_X6_drawn l G σ u) rfl rfl (Nat.le_of_ble_eq_true rfl) ⟨(Nat.le_of_ble_eq_true rfl), (Nat.le_of_ble_eq_true rfl)⟩ (qx_Ki ?_)
            refine qk_bipush C (nI 13) dX6_chance_48 50 rfl rfl ?_
            refine qk_irem C dX6_chance_50 51 rfl (nI_ne0 (by omega) (by omega)) ?_
            refine qk_cast (pk_rem (by omega) (by omega) (by omega)) ?_
            refine qk_istoren C dX6_chance_51 52 rfl rfl (by decide) rfl ?_
            refine qk_aloadn C dX6_chance_52 53 rfl rfl 2 rfl ?_
            refine qk_get C dX6_chance_53 56 rfl qf_X6_9 53 (by decide) rfl rfl ?_
            refine qk_aloadn C dX6_chance_56 57 rfl rfl 2 rfl ?_
            refine qk_callV C dX6_chance_57 60 rfl ql_X6_172 qc_X6_placeNow 53 (by decide) rfl rfl (c_X6_placeNow l G σ N (z_dr u) (qv_dr hJ)) rfl rfl (Nat.le_of_ble_eq_true rfl) ⟨(Nat.le_of_ble_eq_true rfl), (Nat.le_of_ble_eq_true rfl)⟩ (qx_Ki ?_)
            refine qk_iloadn C dX6_chance_60 61 rfl rfl 0 rfl ?_
            refine qk_iast C dX6_chance_61 62 rfl 54 (by decide) (fun _ => rfl) (4 + z_dd (z_dr u)) rfl (by omega) (by decide) ?_
            refine qk_sg _ (m_w) ?_
            refine qk_aloadn C dX6_chance_62 63 rfl rfl 2 rfl ?_
            refine qk_callV C dX6_chance_63 66 rfl ql_X6_240 qc_X6_drawn 53 (by decide) rfl rfl (c_X6_drawn l G σ _) rfl rfl (Nat.le_of_ble_eq_true rfl) ⟨(Nat.le_of_ble_eq_true rfl), (Nat.le_of_ble_eq_true rfl)⟩ (qx_Ki ?_)
            refine qk_sg (va_up σ 54 (z_c3 u)) (congrArg (va_up σ 54) m_dr) ?_
            refine qk_cast (show _ = nI (z_rn (z_dr (z_dr u) 2)) from by rw [m_dr, upd_ne (by omega)]) ?_
            refine qk_bipush C (nI 8) dX6_chance_66 68 rfl rfl ?_
            refine qk_irem C dX6_chance_68 69 rfl (nI_ne0 (by omega) (by omega)) ?_
            refine qk_cast ((pk_rem (by omega) (by omega) (by omega)).trans (show _ = nI (z_q2 u) from rfl)) ?_
            refine qk_istore C dX6_chance_69 71 rfl (by decide) rfl ?_
            refine qk_aloadn C dX6_chance_71 72 rfl rfl 3 rfl ?_
            refine qk_iload C dX6_chance_72 74 rfl 0 rfl ?_
            refine qk_callV C dX6_chance_74 77 rfl ql_X6_137 qc_X6_isBust 53 (by decide) rfl rfl (c_X6_isBust l G σ N (z_c3 u) (qv_c3 hJ) _) rfl rfl (Nat.le_of_ble_eq_true rfl) ⟨(Nat.le_of_ble_eq_true rfl), (Nat.le_of_ble_eq_true rfl)⟩ (qx_Ki ?_)
            refine qk_if_eqB C dX6_chance_77 94 rfl 80 rfl (fun c_77 => ?_) (fun c_77 => ?_)
            · refine qk_sg (va_up σ 54 (z_c4 u N)) (congrArg (va_up σ 54) (if_neg (fun q => c_77 (z_ib_nI q hN8))).symm) ?_
              refine qk_aloadn C dX6_chance_94 95 rfl rfl 3 rfl ?_
              refine qk_callV C dX6_chance_95 98 rfl ql_X6_181 qc_X6_day 53 (by decide) rfl rfl (c_X6_day l G σ N (z_c4 u N) (qv_c4 hJ)) rfl rfl (Nat.le_of_ble_eq_true rfl) ⟨(Nat.le_of_ble_eq_true rfl), (Nat.le_of_ble_eq_true rfl)⟩ (qx_Kv ?_)
              refine qk_sg (va_up σ 54 (z_cn v N (k + 1))) (by rw [hsu]; rfl) ?_
              refine qk_iinc C (nI (k + 1)) dX6_chance_98 101 rfl 2 rfl (nI_1 k) (by decide) rfl ?_
              refine qk_goto C dX6_chance_101 39 rfl ?_
              exact qk_lo [0, 3, 4] rfl (ih_39 (k + 1) (by omega) (by omega))
            · have hqN : z_q2 u < N := by
                obtain ⟨j, hj, ej⟩ := z_ib_ex c_77 hN8
                have := (nI_eq (by omega) (by omega)).mp ej
                omega
              refine qk_aloadn C dX6_chance_80 81 rfl rfl 3 rfl ?_
              refine qk_iload C dX6_chance_81 83 rfl 0 rfl ?_
              refine qk_iconst C (4) dX6_chance_83 84 rfl rfl ?_
              refine qk_callS C dX6_chance_84 87 rfl ql_X6_88 qc_X6_bustAt (c_X6_bustAt l G _ (z_q2 u) 4 (by omega) (by omega)) rfl rfl (Nat.le_of_ble_eq_true rfl) ⟨(Nat.le_of_ble_eq_true rfl), (Nat.le_of_ble_eq_true rfl)⟩ (qx_Ki ?_)
              refine qk_bipush C (10) dX6_chance_87 89 rfl rfl ?_
              refine qk_bipush C (99) dX6_chance_89 91 rfl rfl ?_
              refine qk_callV C dX6_chance_91 94 rfl ql_X6_165 qc_X6_more 53 (by decide) rfl rfl (c_X6_more l G σ (z_c3 u) (32 + 7 * z_q2 u + 4) (by omega) _ _) rfl rfl (Nat.le_of_ble_eq_true rfl) ⟨(Nat.le_of_ble_eq_true rfl), (Nat.le_of_ble_eq_true rfl)⟩ (qx_Kv ?_)
              refine qk_sg (va_up σ 54 (z_c4 u N)) (congrArg (va_up σ 54) (if_pos hqN).symm) ?_
              refine qk_aloadn C dX6_chance_94 95 rfl rfl 3 rfl ?_
              refine qk_callV C dX6_chance_95 98 rfl ql_X6_181 qc_X6_day 53 (by decide) rfl rfl (c_X6_day l G σ N (z_c4 u N) (qv_c4 hJ)) rfl rfl (Nat.le_of_ble_eq_true rfl) ⟨(Nat.le_of_ble_eq_true rfl), (Nat.le_of_ble_eq_true rfl)⟩ (qx_Kv ?_)
              refine qk_sg (va_up σ 54 (z_cn v N (k + 1))) (by rw [hsu]; rfl) ?_
              refine qk_iinc C (nI (k + 1)) dX6_chance_98 101 rfl 2 rfl (nI_1 k) (by decide) rfl ?_
              refine qk_goto C dX6_chance_101 39 rfl ?_
              exact qk_lo [0, 3, 4] rfl (ih_39 (k + 1) (by omega) (by omega))
      exact lp_39 _ 0 (Nat.zero_le _) (Nat.lt_succ_self _)
    · refine qk_aloadn C dX6_chance_30 31 rfl rfl 0 rfl ?_
      refine qk_ldc C dX6_chance_31 33 rfl qw_1069 ?_
      refine qk_callV C dX6_chance_33 36 rfl ql_X6_66 qc_X6_finding 53 (by decide) rfl rfl (c_X6_finding l G _ _ 4 (by decide) (by decide)) rfl rfl (Nat.le_of_ble_eq_true rfl) ⟨(Nat.le_of_ble_eq_true rfl), (Nat.le_of_ble_eq_true rfl)⟩ (qx_Ki ?_)
      exact hret _ _ _ _ dX6_chance_36 (qMx_bad 4 ((zif_t hc).trans (zif_f c_27)) rfl mTr.rf.up qx_up_eq) rfl
  · refine qk_aloadn C dX6_chance_10 11 rfl rfl 0 rfl ?_
    refine qk_ldc C dX6_chance_11 13 rfl qw_947 ?_
    refine qk_callV C dX6_chance_13 16 rfl ql_X6_66 qc_X6_finding 53 (by decide) rfl rfl (c_X6_finding l G _ _ 0 (by decide) (by decide)) rfl rfl (Nat.le_of_ble_eq_true rfl) ⟨(Nat.le_of_ble_eq_true rfl), (Nat.le_of_ble_eq_true rfl)⟩ (qx_Ki ?_)
    exact hret _ _ _ _ dX6_chance_16 (qMx_bad 0 (zif_f (by first | exact fun q => c_7 ⟨q.1, Int32.not_lt.mpr q.2⟩)) rfl mTr.rf.up qx_up_eq) rfl

