/-! the model: counts, findings, draws, bytes, odds -/
theorem m_go {v : Nat → Int32} {N : Nat} (hN : N ≤ 8) : ∃ g, g < 8192 ∧ z_fo (z_Fgo v) N = nI g := by
  obtain ⟨g, hg, e, -⟩ := m_ft (P := fun i => v (32 + 7 * i + 6) = 1) (t := N) (by omega)
  exact ⟨g, by have := (m_2N hN).2; omega, e⟩
theorem m_x1 {x : Int32} (h : ¬ x < -1 ∧ ¬ 6 < x) : ∃ j, j < 8 ∧ x + 1 = nI j := by
  by_cases hx : x < 0
  · have h1 : ¬ x.toInt < (-1 : Int32).toInt := fun q => h.1 (Int32.lt_iff_toInt_lt.mpr q)
    have h2 := Int32.lt_iff_toInt_lt.mp hx
    rw [show (-1 : Int32).toInt = -1 from rfl] at h1
    rw [show (0 : Int32).toInt = 0 from rfl] at h2
    have : x = -1 := Int32.toInt_inj.mp (by rw [show (-1 : Int32).toInt = -1 from rfl]; omega)
    subst this
    exact ⟨0, by omega, rfl⟩
  · obtain ⟨j, hj, rfl⟩ := z_in_ex 6 rfl (by omega) (show z_in x 6 from ⟨hx, h.2⟩)
    exact ⟨j + 1, by omega, nI_1 j⟩
theorem m_x1z {x : Int32} (h : ¬ x < -1 ∧ ¬ 6 < x) : zn (x + 1) < 8 ∧ x + 1 = nI (zn (x + 1)) := by
  obtain ⟨j, hj, e⟩ := m_x1 h
  rw [e, zn_nI (by omega)]
  exact ⟨hj, rfl⟩
theorem m_sh {x : Int32} {k : Nat} (hk : k < 4) : (x >>> (8 * nI k &&& 31)) &&& 255 = z_us x (8 * nI k) &&& 255 := by
  apply Int32.toBitVec_inj.mp
  apply BitVec.eq_of_getLsbD_eq
  intro i hi
  have : k = 0 ∨ k = 1 ∨ k = 2 ∨ k = 3 := by omega
  have h8 : (255#32).getLsbD i = decide (i < 8) := by
    have : ∀ i, i < 32 → (255#32).getLsbD i = decide (i < 8) := by decide
    exact this i hi
  rcases this with rfl | rfl | rfl | rfl
  · show (x.toBitVec.sshiftRight 0 &&& 255#32).getLsbD i = ((x.toBitVec >>> 0) &&& 255#32).getLsbD i
    simp [h8]
  · show (x.toBitVec.sshiftRight 8 &&& 255#32).getLsbD i = ((x.toBitVec >>> 8) &&& 255#32).getLsbD i
    rw [BitVec.getLsbD_and, BitVec.getLsbD_and, h8, BitVec.getLsbD_sshiftRight, BitVec.getLsbD_ushiftRight]
    by_cases h : i < 8
    · rw [if_pos (by omega), show decide (32 ≤ i) = false from decide_eq_false (by omega)]; rfl
    · simp [h]
  · show (x.toBitVec.sshiftRight 16 &&& 255#32).getLsbD i = ((x.toBitVec >>> 16) &&& 255#32).getLsbD i
    rw [BitVec.getLsbD_and, BitVec.getLsbD_and, h8, BitVec.getLsbD_sshiftRight, BitVec.getLsbD_ushiftRight]
    by_cases h : i < 8
    · rw [if_pos (by omega), show decide (32 ≤ i) = false from decide_eq_false (by omega)]; rfl
    · simp [h]
  · show (x.toBitVec.sshiftRight 24 &&& 255#32).getLsbD i = ((x.toBitVec >>> 24) &&& 255#32).getLsbD i
    rw [BitVec.getLsbD_and, BitVec.getLsbD_and, h8, BitVec.getLsbD_sshiftRight, BitVec.getLsbD_ushiftRight]
    by_cases h : i < 8
    · rw [if_pos (by omega), show decide (32 ≤ i) = false from decide_eq_false (by omega)]; rfl
    · simp [h]
theorem c_X6_status (l : Launch) (G : qx_G) (σ : qx_Sg) (x : Int32) : qx_Ct l G yX6_status cX6_status 2 (some .int) 1 22 [.ref (qx_ad G 53), .int x] (σ) (qPt (M_status σ x)) := by
  refine qx_of .int (lo := [(0, .ref (qx_ad G 53)), (1, .int x)]) (by decide +kernel) (Nat.le_of_ble_eq_true rfl) rfl (fun Δ (C : qx_C G Δ cX6_status RX6 2 1 22) hret => ?_)
  refine qk_iloadn C dX6_status_0 1 rfl rfl 1 rfl ?_
  refine qk_iconst C ((-1)) dX6_status_1 2 rfl rfl ?_
  refine qk_bipush C (6) dX6_status_2 4 rfl rfl ?_
  refine qk_callS C dX6_status_4 7 rfl ql_X6_70 qc_X6_within (c_X6_within l G _ _ _ _) rfl rfl (Nat.le_of_ble_eq_true rfl) ⟨(Nat.le_of_ble_eq_true rfl), (Nat.le_of_ble_eq_true rfl)⟩ (qx_Ki ?_)
  refine qk_if_eqB C dX6_status_7 21 rfl 10 rfl (fun c_7 => ?_) (fun c_7 => ?_)
  · refine qk_aloadn C dX6_status_21 22 rfl rfl 0 rfl ?_
    refine qk_ldc C dX6_status_22 24 rfl qw_947 ?_
    refine qk_callV C dX6_status_24 27 rfl ql_X6_66 qc_X6_finding 53 (by decide) rfl rfl (c_X6_finding l G _ _ 0 (by decide) (by decide)) rfl rfl (Nat.le_of_ble_eq_true rfl) ⟨(Nat.le_of_ble_eq_true rfl), (Nat.le_of_ble_eq_true rfl)⟩ (qx_Ki ?_)
    exact hret _ _ _ _ dX6_status_27 (qPt_of (zw_f c_7)) rfl
  · have hx := m_x1z c_7
    refine qk_aloadn C dX6_status_10 11 rfl rfl 0 rfl ?_
    refine qk_get C dX6_status_11 14 rfl qf_X6_19 53 (by decide) rfl rfl ?_
    refine qk_iloadn C dX6_status_14 15 rfl rfl 1 rfl ?_
    refine qk_iconst C (1) dX6_status_15 16 rfl rfl ?_
    refine qk_iadd C dX6_status_16 17 rfl ?_
    refine qk_iald C dX6_status_17 18 rfl 57 (by decide) (fun _ => rfl) (zn (x + 1)) hx.2 hx.1 (by decide) ?_
    refine qk_goto C dX6_status_18 27 rfl ?_
    exact hret _ _ _ _ dX6_status_27 (qPt_of (zw_t c_7)) rfl

theorem c_X6_drawn (l : Launch) (G : qx_G) (σ : qx_Sg) (v : Nat → Int32) : qx_Ct l G yX6_drawn cX6_drawn 1 (some .int) 0 0 [.ref (qx_ad G 53)] (va_up σ 54 v) (qx_pi (nI (z_rn (z_dr v 2))) (va_up σ 54 (z_dr v))) := by
  refine qx_of .int (lo := [(0, .ref (qx_ad G 53))]) (by decide +kernel) (Nat.le_of_ble_eq_true rfl) rfl (fun Δ (C : qx_C G Δ cX6_drawn RX6 1 0 0) hret => ?_)
  refine qk_aloadn C dX6_drawn_0 1 rfl rfl 0 rfl ?_
  refine qk_get C dX6_drawn_1 4 rfl qf_X6_9 53 (by decide) rfl rfl ?_
  refine qk_iconst C (2) dX6_drawn_4 5 rfl rfl ?_
  refine qk_aloadn C dX6_drawn_5 6 rfl rfl 0 rfl ?_
  refine qk_get C dX6_drawn_6 9 rfl qf_X6_9 53 (by decide) rfl rfl ?_
  refine qk_iconst C (2) dX6_drawn_9 10 rfl rfl ?_
  refine qk_iald C dX6_drawn_10 11 rfl 54 (by decide) (fun _ => rfl) (2) rfl (by omega) (by decide) ?_
  refine qk_cast (show _ = v (2) from rfl) ?_
  refine qk_ldc C dX6_drawn_11 13 rfl qw_1230 ?_
  refine qk_imul C dX6_drawn_13 14 rfl ?_
  refine qk_sipush C (12345) dX6_drawn_14 17 rfl rfl ?_
  refine qk_iadd C dX6_drawn_17 18 rfl ?_
  refine qk_iast C dX6_drawn_18 19 rfl 54 (by decide) (fun _ => rfl) (2) rfl (by omega) (by decide) ?_
  refine qk_sg _ (m_w) ?_
  refine qk_aloadn C dX6_drawn_19 20 rfl rfl 0 rfl ?_
  refine qk_get C dX6_drawn_20 23 rfl qf_X6_9 53 (by decide) rfl rfl ?_
  refine qk_iconst C (2) dX6_drawn_23 24 rfl rfl ?_
  refine qk_iald C dX6_drawn_24 25 rfl 54 (by decide) (fun _ => rfl) (2) rfl (by omega) (by decide) ?_
  refine qk_cast (show _ = z_dr v (2) from rfl) ?_
  refine qk_bipush C (8) dX6_drawn_25 27 rfl rfl ?_
  refine qk_iushr C dX6_drawn_27 28 rfl ?_
  exact hret _ _ _ _ dX6_drawn_28 ⟨congrArg (fun x => some (Value.int x)) (z_us8 _), rfl⟩ rfl

theorem c_X6_wipe (l : Launch) (G : qx_G) (σ : qx_Sg) : qx_Ct l G yX6_wipe cX6_wipe 2 (some .int) 0 0 [.ref (qx_ad G 53)] (σ) (qx_pi (σ 53 6) (va_up σ 53 (upd (σ 53) 6 0))) := by
  refine qx_of .int (lo := [(0, .ref (qx_ad G 53))]) (by decide +kernel) (Nat.le_of_ble_eq_true rfl) rfl (fun Δ (C : qx_C G Δ cX6_wipe RX6 2 0 0) hret => ?_)
  refine qk_aloadn C dX6_wipe_0 1 rfl rfl 0 rfl ?_
  refine qk_get C dX6_wipe_1 4 rfl qf_X6_243 53 (by decide) rfl rfl ?_
  refine qk_istoren C dX6_wipe_4 5 rfl rfl (by decide) rfl ?_
  refine qk_aloadn C dX6_wipe_5 6 rfl rfl 1 rfl ?_
  refine qk_iconst C (0) dX6_wipe_6 7 rfl rfl ?_
  refine qk_put C .int dX6_wipe_7 10 rfl qf_X6_243 53 (by decide) rfl (fun q hq => by cases hq; rfl) rfl rfl (Nat.le_of_ble_eq_true rfl) rfl ?_
  refine qk_iloadn C dX6_wipe_10 11 rfl rfl 0 rfl ?_
  exact hret _ _ _ _ dX6_wipe_11 ⟨congrArg (fun x => some (Value.int x)) (by first | rfl | (simp []; done) | (simp []; decide) | (simp []; rfl) | (simp_all []; done)), rfl⟩ rfl

theorem c_X6_feed (l : Launch) (G : qx_G) (σ : qx_Sg) (t : Nat) (ht : t ≤ 120) (et : σ 53 6 = nI t) (x n : Int32) : qx_Ct l G yX6_feed cX6_feed 4 (some .int) 1 22 [.ref (qx_ad G 53), .int x, .int n] (σ) (qPt (M_feed σ x n)) := by
  refine qx_of .int (lo := [(0, .ref (qx_ad G 53)), (1, .int x), (2, .int n)]) (by decide +kernel) (Nat.le_of_ble_eq_true rfl) rfl (fun Δ (C : qx_C G Δ cX6_feed RX6 4 1 22) hret => ?_)
  refine qk_iloadn C dX6_feed_0 1 rfl rfl 2 rfl ?_
  refine qk_iconst C (1) dX6_feed_1 2 rfl rfl ?_
  refine qk_iconst C (4) dX6_feed_2 3 rfl rfl ?_
  refine qk_callS C dX6_feed_3 6 rfl ql_X6_70 qc_X6_within (c_X6_within l G _ _ _ _) rfl rfl (Nat.le_of_ble_eq_true rfl) ⟨(Nat.le_of_ble_eq_true rfl), (Nat.le_of_ble_eq_true rfl)⟩ (qx_Ki ?_)
  refine qk_if_neB C dX6_feed_6 16 rfl 9 rfl (fun c_6 => ?_) (fun c_6 => ?_)
  · refine qk_aloadn C dX6_feed_16 17 rfl rfl 0 rfl ?_
    refine qk_get C dX6_feed_17 20 rfl qf_X6_243 53 (by decide) rfl rfl ?_
    refine qk_iloadn C dX6_feed_20 21 rfl rfl 2 rfl ?_
    refine qk_iadd C dX6_feed_21 22 rfl ?_
    refine qk_bipush C (120) dX6_feed_22 24 rfl rfl ?_
    refine qk_icmp_le C dX6_feed_24 34 rfl 27 rfl (fun c_24 => ?_) (fun c_24 => ?_)
    · obtain ⟨jn, hjn, rfl⟩ := nI_of2 (M := 4) (n := 4) rfl (fun q => c_6.1 (Int32.lt_of_lt_of_le q (by decide))) (Int32.not_lt.mp c_6.2)
      have hj1 : 0 < jn := Nat.pos_of_ne_zero (fun e => c_6.1 (by subst e; decide))
      have c24 := c_24
      rw [et] at c24
      have htn := nI_add_le c24 ht (by omega)
      refine qk_sg (va_up (va_up σ 58 (σ 58)) 53 (upd (σ 53) 6 (nI t))) (by rw [m_upid, ← et, m_ups]; exact m_upid.symm) ?_
      refine qk_iloadn C dX6_feed_34 35 rfl rfl 2 rfl ?_
      refine qk_iconst C (1) dX6_feed_35 36 rfl rfl ?_
      refine qk_isub C dX6_feed_36 37 rfl ?_
      refine qk_cast (show _ = nI jn + (-1) from by obtain ⟨q, rfl⟩ : ∃ q, jn = q + 1 := ⟨jn - 1, by omega⟩; rw [pk_m1]; exact nI_pred q) ?_
      refine qk_istoren C dX6_feed_37 38 rfl rfl (by decide) rfl ?_
      have lp_38 : ∀ (n_38 : Nat) (k : Nat) (r : Nat → Int32), (k ≤ jn ∧ z_fd x jn t (σ 58) = z_fd x k (t + (jn - k)) r) → k < n_38 → qx_K l G Δ (va_up (va_up σ 58 r) 53 (upd (σ 53) 6 (nI (t + (jn - k))))) 38 [(3, .int (nI k + (-1))), (0, .ref (qx_ad G 53)), (1, .int x)] [] := by
        intro n_38
        induction n_38 with
        | zero => intro _ _ _ h9; exact absurd h9 (Nat.not_lt_zero _)
        | succ n_38 ih_38 =>
          intro k r hi hm_38
          rcases k with _ | k
          · refine qk_iloadn C dX6_feed_38 39 rfl rfl 0 rfl ?_
            refine qk_if_lt C dX6_feed_39 77 rfl 42 rfl (fun _ => ?_) (fun c => absurd (by decide) c)
            refine qk_aloadn C dX6_feed_77 78 rfl rfl 1 rfl ?_
            refine qk_get C dX6_feed_78 81 rfl qf_X6_243 53 (by decide) rfl rfl ?_
            refine qk_cast (show _ = nI (t + jn) from by simp [va_up, upd]) ?_
            exact hret _ _ _ _ dX6_feed_81 (qPt_of (by unfold M_feed; rw [zn_nI (show jn < 2 ^ 31 by omega), et, zn_nI (show t < 2 ^ 31 by omega)]; exact (zw_t c_6).trans ((zw_t c24).trans (by rw [nI_add, hi.2]; rfl)))) rfl
          · refine qk_iloadn C dX6_feed_38 39 rfl rfl 0 rfl ?_
            refine qk_cast (pk_m1 k) ?_
            refine qk_if_lt C dX6_feed_39 77 rfl 42 rfl (fun c_39 => absurd c_39 (nI_pos (by omega))) (fun c_39 => ?_)
            refine qk_aloadn C dX6_feed_42 43 rfl rfl 1 rfl ?_
            refine qk_get C dX6_feed_43 46 rfl qf_X6_22 53 (by decide) rfl rfl ?_
            refine qk_aloadn C dX6_feed_46 47 rfl rfl 1 rfl ?_
            refine qk_get C dX6_feed_47 50 rfl qf_X6_243 53 (by decide) rfl rfl ?_
            refine qk_cast (show _ = nI (t + (jn - (k + 1))) from by simp [va_up, upd]) ?_
            refine qk_iloadn C dX6_feed_50 51 rfl rfl 2 rfl ?_
            refine qk_bipush C (8) dX6_feed_51 53 rfl rfl ?_
            refine qk_iloadn C dX6_feed_53 54 rfl rfl 0 rfl ?_
            refine qk_cast (pk_m1 k) ?_
            refine qk_imul C dX6_feed_54 55 rfl ?_
            refine qk_ishr C dX6_feed_55 56 rfl ?_
            refine qk_sipush C (255) dX6_feed_56 59 rfl rfl ?_
            refine qk_iand C dX6_feed_59 60 rfl ?_
            refine qk_cast (m_sh (by omega)) ?_
            refine qk_iast C dX6_feed_60 61 rfl 58 (by decide) (fun _ => rfl) (t + (jn - (k + 1))) rfl (by omega) (by decide) ?_
            refine qk_aloadn C dX6_feed_61 62 rfl rfl 1 rfl ?_
            refine qk_dup C dX6_feed_62 63 rfl rfl ?_
            refine qk_get C dX6_feed_63 66 rfl qf_X6_243 53 (by decide) rfl rfl ?_
            refine qk_cast (show _ = nI (t + (jn - (k + 1))) from by simp [va_up, upd]) ?_
            refine qk_iconst C (1) dX6_feed_66 67 rfl rfl ?_
            refine qk_iadd C dX6_feed_67 68 rfl ?_
            refine qk_cast (nI_1 _) ?_
            refine qk_put C .int dX6_feed_68 71 rfl qf_X6_243 53 (by decide) rfl (fun q hq => by cases hq; rfl) rfl rfl (Nat.le_of_ble_eq_true rfl) rfl ?_
            refine qk_sg (va_up (va_up σ 58 (upd r (t + (jn - (k + 1))) (z_us x (8 * nI k) &&& 255))) 53 (upd (σ 53) 6 (nI (t + (jn - k))))) (by
              rw [show t + (jn - (k + 1)) + 1 = t + (jn - k) by omega]
              funext a b
              unfold va_up upd
              by_cases e : a = 53
              · subst e; by_cases hb : b = 6 <;> simp [hb]
              · by_cases e2 : a = 58
                · subst e2; simp
                · simp [e, e2]) ?_
            refine qk_iinc C (nI k + (-1)) dX6_feed_71 74 rfl 0 rfl (by rw [pk_m1 k]; rfl) (by decide) rfl ?_
            refine qk_goto C dX6_feed_74 38 rfl ?_
            exact ih_38 k _ ⟨by omega, by rw [hi.2]; show z_fd x k (t + (jn - (k + 1)) + 1) _ = _; rw [show t + (jn - (k + 1)) + 1 = t + (jn - k) by omega]⟩ (by omega)
      refine qk_sg (va_up (va_up σ 58 (σ 58)) 53 (upd (σ 53) 6 (nI (t + (jn - jn))))) (by rw [Nat.sub_self]; rfl) ?_
      exact qk_lo [0, 1, 2] rfl (lp_38 _ jn _ ⟨by omega, by rw [Nat.sub_self]; rfl⟩ (Nat.lt_succ_self _))
    · refine qk_aloadn C dX6_feed_27 28 rfl rfl 0 rfl ?_
      refine qk_ldc C dX6_feed_28 30 rfl qw_973 ?_
      refine qk_callV C dX6_feed_30 33 rfl ql_X6_66 qc_X6_finding 53 (by decide) rfl rfl (c_X6_finding l G _ _ 1 (by decide) (by decide)) rfl rfl (Nat.le_of_ble_eq_true rfl) ⟨(Nat.le_of_ble_eq_true rfl), (Nat.le_of_ble_eq_true rfl)⟩ (qx_Ki ?_)
      exact hret _ _ _ _ dX6_feed_33 (qPt_of ((zw_t c_6).trans (zw_f c_24))) rfl
  · refine qk_aloadn C dX6_feed_9 10 rfl rfl 0 rfl ?_
    refine qk_ldc C dX6_feed_10 12 rfl qw_947 ?_
    refine qk_callV C dX6_feed_12 15 rfl ql_X6_66 qc_X6_finding 53 (by decide) rfl rfl (c_X6_finding l G _ _ 0 (by decide) (by decide)) rfl rfl (Nat.le_of_ble_eq_true rfl) ⟨(Nat.le_of_ble_eq_true rfl), (Nat.le_of_ble_eq_true rfl)⟩ (qx_Ki ?_)
    exact hret _ _ _ _ dX6_feed_15 (qPt_of (zw_f c_6)) rfl

