/-! items come true -/
theorem c_X6_isToldSoA (l : Launch) (G : qx_G) (σ : qx_Sg) (N : Nat) (v : Nat → Int32) (hI : qv_ok v N) (k : Nat) (hk : k + 4 < 600) (h0 : σ 60 k = 10) (i : Nat) (hi : i < 6) (h1 : σ 60 (k + 1) = nI i) : qx_Ct l G yX6_isToldSo cX6_isToldSo 5 none 2 45 [.ref (qx_ad G 53), .int (nI k)] (va_up σ 54 v) (qx_pv (va_up σ 54 (upd v (4 + i) (σ 60 (k + 2))))) := by
  refine qx_ofV (lo := [(0, .ref (qx_ad G 53)), (1, .int (nI k))]) (by decide +kernel) (Nat.le_of_ble_eq_true rfl) rfl (fun Δ (C : qx_C G Δ cX6_isToldSo RX6 5 2 45) hret => ?_)
  have hN8 := hI.1
  have hN1 := hI.2.1
  refine qk_aloadn C dX6_isToldSo_0 1 rfl rfl 0 rfl ?_
  refine qk_get C dX6_isToldSo_1 4 rfl qf_X6_45 53 (by decide) rfl rfl ?_
  refine qk_iloadn C dX6_isToldSo_4 5 rfl rfl 1 rfl ?_
  refine qk_iconst C (1) dX6_isToldSo_5 6 rfl rfl ?_
  refine qk_iadd C dX6_isToldSo_6 7 rfl ?_
  refine qk_cast (nI_add _ 1) ?_
  refine qk_iald C dX6_isToldSo_7 8 rfl 60 (by decide) (fun _ => rfl) (k + 1) rfl (by omega) (by decide) ?_
  refine qk_cast (h1) ?_
  refine qk_istoren C dX6_isToldSo_8 9 rfl rfl (by decide) rfl ?_
  refine qk_aloadn C dX6_isToldSo_9 10 rfl rfl 1 rfl ?_
  refine qk_get C dX6_isToldSo_10 13 rfl qf_X6_45 53 (by decide) rfl rfl ?_
  refine qk_iloadn C dX6_isToldSo_13 14 rfl rfl 2 rfl ?_
  refine qk_iconst C (2) dX6_isToldSo_14 15 rfl rfl ?_
  refine qk_iadd C dX6_isToldSo_15 16 rfl ?_
  refine qk_cast (nI_add _ 2) ?_
  refine qk_iald C dX6_isToldSo_16 17 rfl 60 (by decide) (fun _ => rfl) (k + 2) rfl (by omega) (by decide) ?_
  refine qk_cast (show _ = σ 60 (k + 2) from rfl) ?_
  refine qk_istoren C dX6_isToldSo_17 18 rfl rfl (by decide) rfl ?_
  refine qk_aloadn C dX6_isToldSo_18 19 rfl rfl 2 rfl ?_
  refine qk_get C dX6_isToldSo_19 22 rfl qf_X6_45 53 (by decide) rfl rfl ?_
  refine qk_iloadn C dX6_isToldSo_22 23 rfl rfl 3 rfl ?_
  refine qk_iald C dX6_isToldSo_23 24 rfl 60 (by decide) (fun _ => rfl) (k) rfl (by omega) (by decide) ?_
  refine qk_cast (show _ = σ 60 k from rfl) ?_
  refine qk_eqc (10) (fun c_24_10 => ?_) (fun c_24_10 => ?_)
  · refine qk_lookup C (off := 28) dX6_isToldSo_24 (by decide) (by rw [c_24_10]; try rfl) 52 rfl ?_
    refine qk_aloadn C dX6_isToldSo_52 53 rfl rfl 2 rfl ?_
    refine qk_get C dX6_isToldSo_53 56 rfl qf_X6_9 53 (by decide) rfl rfl ?_
    refine qk_iconst C (4) dX6_isToldSo_56 57 rfl rfl ?_
    refine qk_iloadn C dX6_isToldSo_57 58 rfl rfl 1 rfl ?_
    refine qk_iadd C dX6_isToldSo_58 59 rfl ?_
    refine qk_cast (show _ = nI (4 + i) from by rw [show (4 : Int32) = nI 4 from rfl, nI_add]) ?_
    refine qk_iloadn C dX6_isToldSo_59 60 rfl rfl 0 rfl ?_
    refine qk_iast C dX6_isToldSo_60 61 rfl 54 (by decide) (fun _ => rfl) (4 + i) rfl (by omega) (by decide) ?_
    refine qk_sg _ (m_w) ?_
    refine qk_goto C dX6_isToldSo_61 140 rfl ?_
    exact hret _ _ _ dX6_isToldSo_140 ⟨rfl, rfl⟩
  refine qk_eqc (11) (fun c_24_11 => ?_) (fun c_24_11 => ?_)
  · refine qk_lookup C (off := 40) dX6_isToldSo_24 (by decide) (by rw [c_24_11]; try rfl) 64 rfl ?_
    exact absurd (h0.symm.trans c_24_11) (by decide)
  refine qk_lookup C (off := 53) dX6_isToldSo_24 (by decide) (False.elim (c_24_10 h0)) 77 rfl ?_
  exact absurd h0 c_24_10

theorem c_X6_isToldSoB (l : Launch) (G : qx_G) (σ : qx_Sg) (N : Nat) (v : Nat → Int32) (hI : qv_ok v N) (k : Nat) (hk : k + 4 < 600) (h0 : σ 60 k = 11) (i : Nat) (hi : i < 12) (h1 : σ 60 (k + 1) = nI i) : qx_Ct l G yX6_isToldSo cX6_isToldSo 5 none 2 45 [.ref (qx_ad G 53), .int (nI k)] (va_up σ 54 v) (qx_pv (va_up σ 54 (upd v (10 + i) (σ 60 (k + 2))))) := by
  refine qx_ofV (lo := [(0, .ref (qx_ad G 53)), (1, .int (nI k))]) (by decide +kernel) (Nat.le_of_ble_eq_true rfl) rfl (fun Δ (C : qx_C G Δ cX6_isToldSo RX6 5 2 45) hret => ?_)
  have hN8 := hI.1
  have hN1 := hI.2.1
  refine qk_aloadn C dX6_isToldSo_0 1 rfl rfl 0 rfl ?_
  refine qk_get C dX6_isToldSo_1 4 rfl qf_X6_45 53 (by decide) rfl rfl ?_
  refine qk_iloadn C dX6_isToldSo_4 5 rfl rfl 1 rfl ?_
  refine qk_iconst C (1) dX6_isToldSo_5 6 rfl rfl ?_
  refine qk_iadd C dX6_isToldSo_6 7 rfl ?_
  refine qk_cast (nI_add _ 1) ?_
  refine qk_iald C dX6_isToldSo_7 8 rfl 60 (by decide) (fun _ => rfl) (k + 1) rfl (by omega) (by decide) ?_
  refine qk_cast (h1) ?_
  refine qk_istoren C dX6_isToldSo_8 9 rfl rfl (by decide) rfl ?_
  refine qk_aloadn C dX6_isToldSo_9 10 rfl rfl 1 rfl ?_
  refine qk_get C dX6_isToldSo_10 13 rfl qf_X6_45 53 (by decide) rfl rfl ?_
  refine qk_iloadn C dX6_isToldSo_13 14 rfl rfl 2 rfl ?_
  refine qk_iconst C (2) dX6_isToldSo_14 15 rfl rfl ?_
  refine qk_iadd C dX6_isToldSo_15 16 rfl ?_
  refine qk_cast (nI_add _ 2) ?_
  refine qk_iald C dX6_isToldSo_16 17 rfl 60 (by decide) (fun _ => rfl) (k + 2) rfl (by omega) (by decide) ?_
  refine qk_cast (show _ = σ 60 (k + 2) from rfl) ?_
  refine qk_istoren C dX6_isToldSo_17 18 rfl rfl (by decide) rfl ?_
  refine qk_aloadn C dX6_isToldSo_18 19 rfl rfl 2 rfl ?_
  refine qk_get C dX6_isToldSo_19 22 rfl qf_X6_45 53 (by decide) rfl rfl ?_
  refine qk_iloadn C dX6_isToldSo_22 23 rfl rfl 3 rfl ?_
  refine qk_iald C dX6_isToldSo_23 24 rfl 60 (by decide) (fun _ => rfl) (k) rfl (by omega) (by decide) ?_
  refine qk_cast (show _ = σ 60 k from rfl) ?_
  refine qk_eqc (10) (fun c_24_10 => ?_) (fun c_24_10 => ?_)
  · refine qk_lookup C (off := 28) dX6_isToldSo_24 (by decide) (by rw [c_24_10]; try rfl) 52 rfl ?_
    exact absurd (h0.symm.trans c_24_10) (by decide)
  refine qk_eqc (11) (fun c_24_11 => ?_) (fun c_24_11 => ?_)
  · refine qk_lookup C (off := 40) dX6_isToldSo_24 (by decide) (by rw [c_24_11]; try rfl) 64 rfl ?_
    refine qk_aloadn C dX6_isToldSo_64 65 rfl rfl 2 rfl ?_
    refine qk_get C dX6_isToldSo_65 68 rfl qf_X6_9 53 (by decide) rfl rfl ?_
    refine qk_bipush C (10) dX6_isToldSo_68 70 rfl rfl ?_
    refine qk_iloadn C dX6_isToldSo_70 71 rfl rfl 1 rfl ?_
    refine qk_iadd C dX6_isToldSo_71 72 rfl ?_
    refine qk_cast (show _ = nI (10 + i) from by rw [show (10 : Int32) = nI 10 from rfl, nI_add]) ?_
    refine qk_iloadn C dX6_isToldSo_72 73 rfl rfl 0 rfl ?_
    refine qk_iast C dX6_isToldSo_73 74 rfl 54 (by decide) (fun _ => rfl) (10 + i) rfl (by omega) (by decide) ?_
    refine qk_sg _ (m_w) ?_
    refine qk_goto C dX6_isToldSo_74 140 rfl ?_
    exact hret _ _ _ dX6_isToldSo_140 ⟨rfl, rfl⟩
  refine qk_lookup C (off := 53) dX6_isToldSo_24 (by decide) (False.elim (c_24_11 h0)) 77 rfl ?_
  exact absurd h0 c_24_11

theorem c_X6_isToldSoC (l : Launch) (G : qx_G) (σ : qx_Sg) (N : Nat) (v : Nat → Int32) (hI : qv_ok v N) (k : Nat) (hk : k + 4 < 600) (hN7 : N < 8) (kd : Nat) (hkd : kd ≤ 6) (h0 : σ 60 k = nI kd) : qx_Ct l G yX6_isToldSo cX6_isToldSo 5 none 2 45 [.ref (qx_ad G 53), .int (nI k)] (va_up σ 54 v) (qx_pv (va_up σ 54 (upd (upd (upd (z_cm v N (nI kd) (σ 60 (k + 1))) (32 + 7 * N + 2) (σ 60 (k + 2))) (32 + 7 * N + 3) (σ 60 (k + 3))) (32 + 7 * N + 5) (σ 60 (k + 4))))) := by
  refine qx_ofV (lo := [(0, .ref (qx_ad G 53)), (1, .int (nI k))]) (by decide +kernel) (Nat.le_of_ble_eq_true rfl) rfl (fun Δ (C : qx_C G Δ cX6_isToldSo RX6 5 2 45) hret => ?_)
  have hN8 := hI.1
  have hN1 := hI.2.1
  refine qk_aloadn C dX6_isToldSo_0 1 rfl rfl 0 rfl ?_
  refine qk_get C dX6_isToldSo_1 4 rfl qf_X6_45 53 (by decide) rfl rfl ?_
  refine qk_iloadn C dX6_isToldSo_4 5 rfl rfl 1 rfl ?_
  refine qk_iconst C (1) dX6_isToldSo_5 6 rfl rfl ?_
  refine qk_iadd C dX6_isToldSo_6 7 rfl ?_
  refine qk_cast (nI_add _ 1) ?_
  refine qk_iald C dX6_isToldSo_7 8 rfl 60 (by decide) (fun _ => rfl) (k + 1) rfl (by omega) (by decide) ?_
  refine qk_cast (show _ = σ 60 (k + 1) from rfl) ?_
  refine qk_istoren C dX6_isToldSo_8 9 rfl rfl (by decide) rfl ?_
  refine qk_aloadn C dX6_isToldSo_9 10 rfl rfl 1 rfl ?_
  refine qk_get C dX6_isToldSo_10 13 rfl qf_X6_45 53 (by decide) rfl rfl ?_
  refine qk_iloadn C dX6_isToldSo_13 14 rfl rfl 2 rfl ?_
  refine qk_iconst C (2) dX6_isToldSo_14 15 rfl rfl ?_
  refine qk_iadd C dX6_isToldSo_15 16 rfl ?_
  refine qk_cast (nI_add _ 2) ?_
  refine qk_iald C dX6_isToldSo_16 17 rfl 60 (by decide) (fun _ => rfl) (k + 2) rfl (by omega) (by decide) ?_
  refine qk_cast (show _ = σ 60 (k + 2) from rfl) ?_
  refine qk_istoren C dX6_isToldSo_17 18 rfl rfl (by decide) rfl ?_
  refine qk_aloadn C dX6_isToldSo_18 19 rfl rfl 2 rfl ?_
  refine qk_get C dX6_isToldSo_19 22 rfl qf_X6_45 53 (by decide) rfl rfl ?_
  refine qk_iloadn C dX6_isToldSo_22 23 rfl rfl 3 rfl ?_
  refine qk_iald C dX6_isToldSo_23 24 rfl 60 (by decide) (fun _ => rfl) (k) rfl (by omega) (by decide) ?_
  refine qk_cast (show _ = σ 60 k from rfl) ?_
  refine qk_eqc (10) (fun c_24_10 => ?_) (fun c_24_10 => ?_)
  · refine qk_lookup C (off := 28) dX6_isToldSo_24 (by decide) (by rw [c_24_10]; try rfl) 52 rfl ?_
    exact absurd (show nI kd = nI 10 from h0.symm.trans c_24_10) (fun e => by have := (nI_eq (by omega) (by omega)).mp e; omega)
  refine qk_eqc (11) (fun c_24_11 => ?_) (fun c_24_11 => ?_)
  · refine qk_lookup C (off := 40) dX6_isToldSo_24 (by decide) (by rw [c_24_11]; try rfl) 64 rfl ?_
    exact absurd (show nI kd = nI 11 from h0.symm.trans c_24_11) (fun e => by have := (nI_eq (by omega) (by omega)).mp e; omega)
  refine qk_lookup C (off := 53) dX6_isToldSo_24 (by decide) (by simp only [Op.lookupswitch.offset]; have h10 := lv_neT c_24_10 (show (10 : Int32).toInt = 10 from rfl); have h11 := lv_neT c_24_11 (show (11 : Int32).toInt = 11 from rfl); rw [if_neg (fun e => h10 e.symm), if_neg (fun e => h11 e.symm)]) 77 rfl ?_
  refine qk_aloadn C dX6_isToldSo_77 78 rfl rfl 2 rfl ?_
  refine qk_aloadn C dX6_isToldSo_78 79 rfl rfl 2 rfl ?_
  refine qk_get C dX6_isToldSo_79 82 rfl qf_X6_45 53 (by decide) rfl rfl ?_
  refine qk_iloadn C dX6_isToldSo_82 83 rfl rfl 3 rfl ?_
  refine qk_iald C dX6_isToldSo_83 84 rfl 60 (by decide) (fun _ => rfl) (k) rfl (by omega) (by decide) ?_
  refine qk_cast (h0) ?_
  refine qk_iloadn C dX6_isToldSo_84 85 rfl rfl 1 rfl ?_
  refine qk_callV C dX6_isToldSo_85 88 rfl ql_X6_98 qc_X6_comes 53 (by decide) rfl rfl (c_X6_comes l G σ N v hI hN7 _ _) rfl rfl (Nat.le_of_ble_eq_true rfl) ⟨(Nat.le_of_ble_eq_true rfl), (Nat.le_of_ble_eq_true rfl)⟩ (qx_Ki ?_)
  refine qk_istore C dX6_isToldSo_88 90 rfl (by decide) rfl ?_
  refine qk_aloadn C dX6_isToldSo_90 91 rfl rfl 3 rfl ?_
  refine qk_get C dX6_isToldSo_91 94 rfl qf_X6_9 53 (by decide) rfl rfl ?_
  refine qk_iload C dX6_isToldSo_94 96 rfl 0 rfl ?_
  refine qk_iconst C (2) dX6_isToldSo_96 97 rfl rfl ?_
  refine qk_callS C dX6_isToldSo_97 100 rfl ql_X6_88 qc_X6_bustAt (c_X6_bustAt l G _ N 2 (by omega) (by omega)) rfl rfl (Nat.le_of_ble_eq_true rfl) ⟨(Nat.le_of_ble_eq_true rfl), (Nat.le_of_ble_eq_true rfl)⟩ (qx_Ki ?_)
  refine qk_iloadn C dX6_isToldSo_100 101 rfl rfl 1 rfl ?_
  refine qk_iast C dX6_isToldSo_101 102 rfl 54 (by decide) (fun _ => rfl) (32 + 7 * N + 2) rfl (by omega) (by decide) ?_
  refine qk_sg _ (m_w) ?_
  refine qk_aloadn C dX6_isToldSo_102 103 rfl rfl 3 rfl ?_
  refine qk_get C dX6_isToldSo_103 106 rfl qf_X6_9 53 (by decide) rfl rfl ?_
  refine qk_iload C dX6_isToldSo_106 108 rfl 0 rfl ?_
  refine qk_iconst C (3) dX6_isToldSo_108 109 rfl rfl ?_
  refine qk_callS C dX6_isToldSo_109 112 rfl ql_X6_88 qc_X6_bustAt (c_X6_bustAt l G _ N 3 (by omega) (by omega)) rfl rfl (Nat.le_of_ble_eq_true rfl) ⟨(Nat.le_of_ble_eq_true rfl), (Nat.le_of_ble_eq_true rfl)⟩ (qx_Ki ?_)
  refine qk_aloadn C dX6_isToldSo_112 113 rfl rfl 3 rfl ?_
  refine qk_get C dX6_isToldSo_113 116 rfl qf_X6_45 53 (by decide) rfl rfl ?_
  refine qk_iloadn C dX6_isToldSo_116 117 rfl rfl 4 rfl ?_
  refine qk_iconst C (3) dX6_isToldSo_117 118 rfl rfl ?_
  refine qk_iadd C dX6_isToldSo_118 119 rfl ?_
  refine qk_cast (nI_add _ 3) ?_
  refine qk_iald C dX6_isToldSo_119 120 rfl 60 (by decide) (fun _ => rfl) (k + 3) rfl (by omega) (by decide) ?_
  refine qk_cast (show _ = σ 60 (k + 3) from rfl) ?_
  refine qk_iast C dX6_isToldSo_120 121 rfl 54 (by decide) (fun _ => rfl) (32 + 7 * N + 3) rfl (by omega) (by decide) ?_
  refine qk_sg _ (m_w) ?_
  refine qk_aloadn C dX6_isToldSo_121 122 rfl rfl 3 rfl ?_
  refine qk_get C dX6_isToldSo_122 125 rfl qf_X6_9 53 (by decide) rfl rfl ?_
  refine qk_iload C dX6_isToldSo_125 127 rfl 0 rfl ?_
  refine qk_iconst C (5) dX6_isToldSo_127 128 rfl rfl ?_
  refine qk_callS C dX6_isToldSo_128 131 rfl ql_X6_88 qc_X6_bustAt (c_X6_bustAt l G _ N 5 (by omega) (by omega)) rfl rfl (Nat.le_of_ble_eq_true rfl) ⟨(Nat.le_of_ble_eq_true rfl), (Nat.le_of_ble_eq_true rfl)⟩ (qx_Ki ?_)
  refine qk_aloadn C dX6_isToldSo_131 132 rfl rfl 3 rfl ?_
  refine qk_get C dX6_isToldSo_132 135 rfl qf_X6_45 53 (by decide) rfl rfl ?_
  refine qk_iloadn C dX6_isToldSo_135 136 rfl rfl 4 rfl ?_
  refine qk_iconst C (4) dX6_isToldSo_136 137 rfl rfl ?_
  refine qk_iadd C dX6_isToldSo_137 138 rfl ?_
  refine qk_cast (nI_add _ 4) ?_
  refine qk_iald C dX6_isToldSo_138 139 rfl 60 (by decide) (fun _ => rfl) (k + 4) rfl (by omega) (by decide) ?_
  refine qk_cast (show _ = σ 60 (k + 4) from rfl) ?_
  refine qk_iast C dX6_isToldSo_139 140 rfl 54 (by decide) (fun _ => rfl) (32 + 7 * N + 5) rfl (by omega) (by decide) ?_
  refine qk_sg _ (m_w) ?_
  exact hret _ _ _ dX6_isToldSo_140 ⟨rfl, rfl⟩

