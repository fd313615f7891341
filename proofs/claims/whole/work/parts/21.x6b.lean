/-! the model's days, and its calls about the row -/
theorem m_isF {w x m : Int32} (j : Nat) (hj : j ≤ 6) (e : w = nI j) (hm : m = qx_most.getD j 0) : z_in x m ↔ (z_in w 6 ∧ z_in x (qx_most.getD (zn w) 0)) := by
  subst e
  rw [zn_nI (by omega), ← hm]
  exact ⟨fun h => ⟨z_in_nI (n := 6) hj (by omega), h⟩, fun h => h.2⟩
theorem m_isF0 {w x : Int32} (h0 : ¬ w = 0) (h1 : ¬ w = 1) (h2 : ¬ w = 2) (h3 : ¬ w = 3) (h4 : ¬ w = 4) (h5 : ¬ w = 5) (h6 : ¬ w = 6) : ¬ (z_in w 6 ∧ z_in x (qx_most.getD (zn w) 0)) := by
  rintro ⟨h, -⟩
  obtain ⟨j, hj, rfl⟩ := z_in_ex 6 rfl (by omega) h
  have : j = 0 ∨ j = 1 ∨ j = 2 ∨ j = 3 ∨ j = 4 ∨ j = 5 ∨ j = 6 := by omega
  rcases this with rfl | rfl | rfl | rfl | rfl | rfl | rfl
  · exact h0 rfl
  · exact h1 rfl
  · exact h2 rfl
  · exact h3 rfl
  · exact h4 rfl
  · exact h5 rfl
  · exact h6 rfl
def m_zr (r : Nat → Int32) (a i : Nat) : Nat → Int32 := fun j => if a ≤ j ∧ j < a + i then 0 else r j
theorem m_zr_s {r : Nat → Int32} {a i : Nat} : upd (m_zr r a i) (a + i) 0 = m_zr r a (i + 1) := by
  funext j
  unfold upd m_zr
  by_cases e : j = a + i
  · rw [if_pos e, if_pos (by omega)]
  · rw [if_neg e]
    by_cases h : a ≤ j ∧ j < a + i
    · rw [if_pos h, if_pos (by omega)]
    · rw [if_neg h, if_neg (by omega)]
theorem m_cm {v : Nat → Int32} {N : Nat} {k d : Int32} : upd (upd (upd (upd (m_zr v (32 + 7 * N) 7) (32 + 7 * N + 0) k) (32 + 7 * N + 1) d) (32 + 7 * N + 2) 3) 1 (nI (N + 1)) = z_cm v N k d := by
  funext j
  unfold upd m_zr z_cm
  by_cases e1 : j = 1
  · rw [if_pos e1, if_pos e1]
  · rw [if_neg e1, if_neg e1]
    by_cases h : 32 + 7 * N ≤ j ∧ j < 32 + 7 * N + 7
    · rw [if_pos h]
      obtain ⟨q, hq, rfl⟩ : ∃ q, q < 7 ∧ j = 32 + 7 * N + q := ⟨j - (32 + 7 * N), by omega, by omega⟩
      rw [show 32 + 7 * N + q - (32 + 7 * N) = q by omega]
      have : q = 0 ∨ q = 1 ∨ q = 2 ∨ (3 ≤ q) := by omega
      rcases this with rfl | rfl | rfl | h3
      · simp [z_bg]
      · simp [z_bg]
      · simp [z_bg]
      · rw [if_neg (by omega), if_neg (by omega), if_neg (by omega), if_pos (by omega)]
        unfold z_bg
        rw [if_neg (by omega), if_neg (by omega), if_neg (by omega)]
    · rw [if_neg h, if_neg (by omega), if_neg (by omega), if_neg (by omega), if_neg h]
theorem c_X6_told (l : Launch) (G : qx_G) (σ : qx_Sg) (N : Nat) (v : Nat → Int32) (hI : qv_ok v N) (b : Nat) (hb : b < N) (x : Nat) (hx : x ≤ 10) : qx_Ct l G yX6_told cX6_told 3 (some .int) 5 110 [.ref (qx_ad G 53), .int (nI b), .int (nI x)] (va_up σ 54 v) (qx_pi (z_tell (z_row v b) (nI x)) (va_up σ 54 v)) := by
  refine qx_of .int (lo := [(0, .ref (qx_ad G 53)), (1, .int (nI b)), (2, .int (nI x))]) (by decide +kernel) (Nat.le_of_ble_eq_true rfl) rfl (fun Δ (C : qx_C G Δ cX6_told RX6 3 5 110) hret => ?_)
  have hN8 := hI.1
  have hN1 := hI.2.1
  refine qk_iloadn C dX6_told_0 1 rfl rfl 2 rfl ?_
  refine qk_eqc (7) (fun c_1_7 => ?_) (fun c_1_7 => ?_)
  · refine qk_tableIn C dX6_told_1 (7) c_1_7 (by decide) (by decide) rfl 32 rfl ?_
    refine qk_aloadn C dX6_told_32 33 rfl rfl 0 rfl ?_
    refine qk_iloadn C dX6_told_33 34 rfl rfl 1 rfl ?_
    refine qk_callV C dX6_told_34 37 rfl ql_X6_125 qc_X6_yearns 53 (by decide) rfl rfl (c_X6_yearns l G σ N v hI b hb) rfl rfl (Nat.le_of_ble_eq_true rfl) ⟨(Nat.le_of_ble_eq_true rfl), (Nat.le_of_ble_eq_true rfl)⟩ (qx_Ki ?_)
    exact hret _ _ _ _ dX6_told_37 ⟨congrArg (fun x => some (Value.int x)) (by rw [c_1_7]; rfl), rfl⟩ rfl
  refine qk_eqc (8) (fun c_1_8 => ?_) (fun c_1_8 => ?_)
  · refine qk_tableIn C dX6_told_1 (8) c_1_8 (by decide) (by decide) rfl 38 rfl ?_
    refine qk_aloadn C dX6_told_38 39 rfl rfl 0 rfl ?_
    refine qk_iloadn C dX6_told_39 40 rfl rfl 1 rfl ?_
    refine qk_callV C dX6_told_40 43 rfl ql_X6_128 qc_X6_leavesWith 53 (by decide) rfl rfl (c_X6_leavesWith l G σ v b (by omega)) rfl rfl (Nat.le_of_ble_eq_true rfl) ⟨(Nat.le_of_ble_eq_true rfl), (Nat.le_of_ble_eq_true rfl)⟩ (qx_Ki ?_)
    exact hret _ _ _ _ dX6_told_43 ⟨congrArg (fun x => some (Value.int x)) (by rw [c_1_8]; rfl), rfl⟩ rfl
  refine qk_eqc (9) (fun c_1_9 => ?_) (fun c_1_9 => ?_)
  · refine qk_tableIn C dX6_told_1 (9) c_1_9 (by decide) (by decide) rfl 44 rfl ?_
    refine qk_aloadn C dX6_told_44 45 rfl rfl 0 rfl ?_
    refine qk_iloadn C dX6_told_45 46 rfl rfl 1 rfl ?_
    refine qk_callV C dX6_told_46 49 rfl ql_X6_131 qc_X6_steps 53 (by decide) rfl rfl (c_X6_steps l G σ v b (by omega)) rfl rfl (Nat.le_of_ble_eq_true rfl) ⟨(Nat.le_of_ble_eq_true rfl), (Nat.le_of_ble_eq_true rfl)⟩ (qx_Ki ?_)
    exact hret _ _ _ _ dX6_told_49 ⟨congrArg (fun x => some (Value.int x)) (by rw [c_1_9]; rfl), rfl⟩ rfl
  refine qk_eqc (10) (fun c_1_10 => ?_) (fun c_1_10 => ?_)
  · refine qk_tableIn C dX6_told_1 (10) c_1_10 (by decide) (by decide) rfl 50 rfl ?_
    refine qk_aloadn C dX6_told_50 51 rfl rfl 0 rfl ?_
    refine qk_iloadn C dX6_told_51 52 rfl rfl 1 rfl ?_
    refine qk_callV C dX6_told_52 55 rfl ql_X6_134 qc_X6_says 53 (by decide) rfl rfl (c_X6_says l G σ N v hI b hb) rfl rfl (Nat.le_of_ble_eq_true rfl) ⟨(Nat.le_of_ble_eq_true rfl), (Nat.le_of_ble_eq_true rfl)⟩ (qx_Ki ?_)
    exact hret _ _ _ _ dX6_told_55 ⟨congrArg (fun x => some (Value.int x)) (by rw [c_1_10]; rfl), rfl⟩ rfl
  refine qk_tableOut C dX6_told_1 (by have h7 := lv_neT c_1_7 (show (7 : Int32).toInt = 7 from rfl); have h8 := lv_neT c_1_8 (show (8 : Int32).toInt = 8 from rfl); have h9 := lv_neT c_1_9 (show (9 : Int32).toInt = 9 from rfl); have h10 := lv_neT c_1_10 (show (10 : Int32).toInt = 10 from rfl); omega) 56 rfl ?_
  have hx7 : x < 7 := by
    have h7 : ¬ x = 7 := fun e => c_1_7 (by rw [e]; rfl)
    have h8 : ¬ x = 8 := fun e => c_1_8 (by rw [e]; rfl)
    have h9 : ¬ x = 9 := fun e => c_1_9 (by rw [e]; rfl)
    have h10 : ¬ x = 10 := fun e => c_1_10 (by rw [e]; rfl)
    omega
  refine qk_aloadn C dX6_told_56 57 rfl rfl 0 rfl ?_
  refine qk_iloadn C dX6_told_57 58 rfl rfl 1 rfl ?_
  refine qk_iloadn C dX6_told_58 59 rfl rfl 2 rfl ?_
  refine qk_callV C dX6_told_59 62 rfl ql_X6_101 qc_X6_bustIs 53 (by decide) rfl rfl (c_X6_bustIs l G σ v b x (by omega) hx7) rfl rfl (Nat.le_of_ble_eq_true rfl) ⟨(Nat.le_of_ble_eq_true rfl), (Nat.le_of_ble_eq_true rfl)⟩ (qx_Ki ?_)
  exact hret _ _ _ _ dX6_told_62 ⟨congrArg (fun x => some (Value.int x)) ((z_tell_w (r := z_row v b) hx7).symm), rfl⟩ rfl

theorem c_X6_of (l : Launch) (G : qx_G) (σ : qx_Sg) (N : Nat) (v : Nat → Int32) (hI : qv_ok v N) (b x : Int32) : qx_Ct l G yX6_of cX6_of 3 (some .int) 6 132 [.ref (qx_ad G 53), .int b, .int x] (va_up σ 54 v) (qMx σ (S_of N v b x)) := by
  refine qx_of .int (lo := [(0, .ref (qx_ad G 53)), (1, .int b), (2, .int x)]) (by decide +kernel) (Nat.le_of_ble_eq_true rfl) rfl (fun Δ (C : qx_C G Δ cX6_of RX6 3 6 132) hret => ?_)
  have hN8 := hI.1
  have hN1 := hI.2.1
  refine qk_aloadn C dX6_of_0 1 rfl rfl 0 rfl ?_
  refine qk_iloadn C dX6_of_1 2 rfl rfl 1 rfl ?_
  refine qk_callV C dX6_of_2 5 rfl ql_X6_137 qc_X6_isBust 53 (by decide) rfl rfl (c_X6_isBust l G σ N v hI _) rfl rfl (Nat.le_of_ble_eq_true rfl) ⟨(Nat.le_of_ble_eq_true rfl), (Nat.le_of_ble_eq_true rfl)⟩ (qx_Ki ?_)
  refine qk_if_eqB C dX6_of_5 27 rfl 8 rfl (fun c_5 => ?_) (fun c_5 => ?_)
  · refine qk_aloadn C dX6_of_27 28 rfl rfl 0 rfl ?_
    refine qk_ldc C dX6_of_28 30 rfl qw_947 ?_
    refine qk_callV C dX6_of_30 33 rfl ql_X6_66 qc_X6_finding 53 (by decide) rfl rfl (c_X6_finding l G _ _ 0 (by decide) (by decide)) rfl rfl (Nat.le_of_ble_eq_true rfl) ⟨(Nat.le_of_ble_eq_true rfl), (Nat.le_of_ble_eq_true rfl)⟩ (qx_Ki ?_)
    exact hret _ _ _ _ dX6_of_33 (qMx_bad 0 (zif_f (by first | exact fun q => c_5 q.1 | exact fun q => c_15 q.2)) rfl mTr.rf.up qx_up_eq) rfl
  · refine qk_iloadn C dX6_of_8 9 rfl rfl 2 rfl ?_
    refine qk_iconst C (0) dX6_of_9 10 rfl rfl ?_
    refine qk_bipush C (10) dX6_of_10 12 rfl rfl ?_
    refine qk_callS C dX6_of_12 15 rfl ql_X6_70 qc_X6_within (c_X6_within l G _ _ _ _) rfl rfl (Nat.le_of_ble_eq_true rfl) ⟨(Nat.le_of_ble_eq_true rfl), (Nat.le_of_ble_eq_true rfl)⟩ (qx_Ki ?_)
    refine qk_if_eqB C dX6_of_15 27 rfl 18 rfl (fun c_15 => ?_) (fun c_15 => ?_)
    · refine qk_aloadn C dX6_of_27 28 rfl rfl 0 rfl ?_
      refine qk_ldc C dX6_of_28 30 rfl qw_947 ?_
      refine qk_callV C dX6_of_30 33 rfl ql_X6_66 qc_X6_finding 53 (by decide) rfl rfl (c_X6_finding l G _ _ 0 (by decide) (by decide)) rfl rfl (Nat.le_of_ble_eq_true rfl) ⟨(Nat.le_of_ble_eq_true rfl), (Nat.le_of_ble_eq_true rfl)⟩ (qx_Ki ?_)
      exact hret _ _ _ _ dX6_of_33 (qMx_bad 0 (zif_f (by first | exact fun q => c_5 q.1 | exact fun q => c_15 q.2)) rfl mTr.rf.up qx_up_eq) rfl
    · obtain ⟨jb, hjb, rfl⟩ := z_ib_ex c_5 hN8
      obtain ⟨jx, hjx, rfl⟩ := z_in_ex 10 rfl (by omega) (show z_in x 10 from c_15)
      refine qk_aloadn C dX6_of_18 19 rfl rfl 0 rfl ?_
      refine qk_iloadn C dX6_of_19 20 rfl rfl 1 rfl ?_
      refine qk_iloadn C dX6_of_20 21 rfl rfl 2 rfl ?_
      refine qk_callV C dX6_of_21 24 rfl ql_X6_140 qc_X6_told 53 (by decide) rfl rfl (c_X6_told l G σ N v hI jb hjb jx hjx) rfl rfl (Nat.le_of_ble_eq_true rfl) ⟨(Nat.le_of_ble_eq_true rfl), (Nat.le_of_ble_eq_true rfl)⟩ (qx_Ki ?_)
      refine qk_goto C dX6_of_24 33 rfl ?_
      exact hret _ _ _ _ dX6_of_33 (qMx_ok ((zif_t ⟨z_ib_nI hjb hN8, c_15⟩).trans (by rw [zn_nI (show jb < 2 ^ 31 by omega)])) rfl mTr.rf.up qx_up_eq) rfl

theorem c_X6_isField (l : Launch) (G : qx_G) (σ : qx_Sg) (w x : Int32) : qx_Ct l G yX6_isField cX6_isField 2 (some .boolean) 2 42 [.int w, .int x] (σ) (qx_pi (qb (z_in w 6 ∧ z_in x (qx_most.getD (zn w) 0))) (σ)) := by
  refine qx_of .boolean (lo := [(0, .int w), (1, .int x)]) (by decide +kernel) (Nat.le_of_ble_eq_true rfl) rfl (fun Δ (C : qx_C G Δ cX6_isField RX6 2 2 42) hret => ?_)
  refine qk_iloadn C dX6_isField_0 1 rfl rfl 0 rfl ?_
  refine qk_eqc (0) (fun c_1_0 => ?_) (fun c_1_0 => ?_)
  · refine qk_tableIn C dX6_isField_1 (0) c_1_0 (by decide) (by decide) rfl 44 rfl ?_
    refine qk_iloadn C dX6_isField_44 45 rfl rfl 1 rfl ?_
    refine qk_callS C dX6_isField_45 48 rfl ql_X6_91 qc_X6_isKind (c_X6_isKind l G _ _) rfl rfl (Nat.le_of_ble_eq_true rfl) ⟨(Nat.le_of_ble_eq_true rfl), (Nat.le_of_ble_eq_true rfl)⟩ (qx_Ki ?_)
    exact hret _ _ _ _ dX6_isField_48 ⟨congrArg (fun x => some (Value.int x)) (qb_iff (m_isF 0 (by omega) c_1_0 rfl)), rfl⟩ (qb_nar _)
  refine qk_eqc (1) (fun c_1_1 => ?_) (fun c_1_1 => ?_)
  · refine qk_tableIn C dX6_isField_1 (1) c_1_1 (by decide) (by decide) rfl 49 rfl ?_
    refine qk_iloadn C dX6_isField_49 50 rfl rfl 1 rfl ?_
    refine qk_callS C dX6_isField_50 53 rfl ql_X6_94 qc_X6_isDate (c_X6_isDate l G _ _) rfl rfl (Nat.le_of_ble_eq_true rfl) ⟨(Nat.le_of_ble_eq_true rfl), (Nat.le_of_ble_eq_true rfl)⟩ (qx_Ki ?_)
    exact hret _ _ _ _ dX6_isField_53 ⟨congrArg (fun x => some (Value.int x)) (qb_iff (m_isF 1 (by omega) c_1_1 rfl)), rfl⟩ (qb_nar _)
  refine qk_eqc (2) (fun c_1_2 => ?_) (fun c_1_2 => ?_)
  · refine qk_tableIn C dX6_isField_1 (2) c_1_2 (by decide) (by decide) rfl 54 rfl ?_
    refine qk_iloadn C dX6_isField_54 55 rfl rfl 1 rfl ?_
    refine qk_iconst C (0) dX6_isField_55 56 rfl rfl ?_
    refine qk_sipush C (4095) dX6_isField_56 59 rfl rfl ?_
    refine qk_callS C dX6_isField_59 62 rfl ql_X6_70 qc_X6_within (c_X6_within l G _ _ _ _) rfl rfl (Nat.le_of_ble_eq_true rfl) ⟨(Nat.le_of_ble_eq_true rfl), (Nat.le_of_ble_eq_true rfl)⟩ (qx_Ki ?_)
    exact hret _ _ _ _ dX6_isField_62 ⟨congrArg (fun x => some (Value.int x)) (qb_iff (m_isF 2 (by omega) c_1_2 rfl)), rfl⟩ (qb_nar _)
  refine qk_eqc (3) (fun c_1_3 => ?_) (fun c_1_3 => ?_)
  · refine qk_tableIn C dX6_isField_1 (3) c_1_3 (by decide) (by decide) rfl 63 rfl ?_
    refine qk_iloadn C dX6_isField_63 64 rfl rfl 1 rfl ?_
    refine qk_iconst C (0) dX6_isField_64 65 rfl rfl ?_
    refine qk_bipush C (15) dX6_isField_65 67 rfl rfl ?_
    refine qk_callS C dX6_isField_67 70 rfl ql_X6_70 qc_X6_within (c_X6_within l G _ _ _ _) rfl rfl (Nat.le_of_ble_eq_true rfl) ⟨(Nat.le_of_ble_eq_true rfl), (Nat.le_of_ble_eq_true rfl)⟩ (qx_Ki ?_)
    exact hret _ _ _ _ dX6_isField_70 ⟨congrArg (fun x => some (Value.int x)) (qb_iff (m_isF 3 (by omega) c_1_3 rfl)), rfl⟩ (qb_nar _)
  refine qk_eqc (4) (fun c_1_4 => ?_) (fun c_1_4 => ?_)
  · refine qk_tableIn C dX6_isField_1 (4) c_1_4 (by decide) (by decide) rfl 71 rfl ?_
    refine qk_iloadn C dX6_isField_71 72 rfl rfl 1 rfl ?_
    refine qk_iconst C (0) dX6_isField_72 73 rfl rfl ?_
    refine qk_bipush C (99) dX6_isField_73 75 rfl rfl ?_
    refine qk_callS C dX6_isField_75 78 rfl ql_X6_70 qc_X6_within (c_X6_within l G _ _ _ _) rfl rfl (Nat.le_of_ble_eq_true rfl) ⟨(Nat.le_of_ble_eq_true rfl), (Nat.le_of_ble_eq_true rfl)⟩ (qx_Ki ?_)
    exact hret _ _ _ _ dX6_isField_78 ⟨congrArg (fun x => some (Value.int x)) (qb_iff (m_isF 4 (by omega) c_1_4 rfl)), rfl⟩ (qb_nar _)
  refine qk_eqc (5) (fun c_1_5 => ?_) (fun c_1_5 => ?_)
  · refine qk_tableIn C dX6_isField_1 (5) c_1_5 (by decide) (by decide) rfl 79 rfl ?_
    refine qk_iloadn C dX6_isField_79 80 rfl rfl 1 rfl ?_
    refine qk_iconst C (0) dX6_isField_80 81 rfl rfl ?_
    refine qk_iconst C (1) dX6_isField_81 82 rfl rfl ?_
    refine qk_callS C dX6_isField_82 85 rfl ql_X6_70 qc_X6_within (c_X6_within l G _ _ _ _) rfl rfl (Nat.le_of_ble_eq_true rfl) ⟨(Nat.le_of_ble_eq_true rfl), (Nat.le_of_ble_eq_true rfl)⟩ (qx_Ki ?_)
    exact hret _ _ _ _ dX6_isField_85 ⟨congrArg (fun x => some (Value.int x)) (qb_iff (m_isF 5 (by omega) c_1_5 rfl)), rfl⟩ (qb_nar _)
  refine qk_eqc (6) (fun c_1_6 => ?_) (fun c_1_6 => ?_)
  · refine qk_tableIn C dX6_isField_1 (6) c_1_6 (by decide) (by decide) rfl 79 rfl ?_
    refine qk_iloadn C dX6_isField_79 80 rfl rfl 1 rfl ?_
    refine qk_iconst C (0) dX6_isField_80 81 rfl rfl ?_
    refine qk_iconst C (1) dX6_isField_81 82 rfl rfl ?_
    refine qk_callS C dX6_isField_82 85 rfl ql_X6_70 qc_X6_within (c_X6_within l G _ _ _ _) rfl rfl (Nat.le_of_ble_eq_true rfl) ⟨(Nat.le_of_ble_eq_true rfl), (Nat.le_of_ble_eq_true rfl)⟩ (qx_Ki ?_)
    exact hret _ _ _ _ dX6_isField_85 ⟨congrArg (fun x => some (Value.int x)) (qb_iff (m_isF 6 (by omega) c_1_6 rfl)), rfl⟩ (qb_nar _)
  refine qk_tableOut C dX6_isField_1 (by have h0 := lv_neT c_1_0 (show (0 : Int32).toInt = 0 from rfl); have h1 := lv_neT c_1_1 (show (1 : Int32).toInt = 1 from rfl); have h2 := lv_neT c_1_2 (show (2 : Int32).toInt = 2 from rfl); have h3 := lv_neT c_1_3 (show (3 : Int32).toInt = 3 from rfl); have h4 := lv_neT c_1_4 (show (4 : Int32).toInt = 4 from rfl); have h5 := lv_neT c_1_5 (show (5 : Int32).toInt = 5 from rfl); have h6 := lv_neT c_1_6 (show (6 : Int32).toInt = 6 from rfl); omega) 86 rfl ?_
  refine qk_iconst C (0) dX6_isField_86 87 rfl rfl ?_
  exact hret _ _ _ _ dX6_isField_87 ⟨congrArg (fun x => some (Value.int x)) ((qb_f (m_isF0 c_1_0 c_1_1 c_1_2 c_1_3 c_1_4 c_1_5 c_1_6)).symm), rfl⟩ rfl

theorem c_X6_change (l : Launch) (G : qx_G) (σ : qx_Sg) (N : Nat) (v : Nat → Int32) (hI : qv_ok v N) (b x y : Int32) : qx_Ct l G yX6_change cX6_change 4 (some .int) 3 63 [.ref (qx_ad G 53), .int b, .int x, .int y] (va_up σ 54 v) (qMx σ (S_change N v b x y)) := by
  refine qx_of .int (lo := [(0, .ref (qx_ad G 53)), (1, .int b), (2, .int x), (3, .int y)]) (by decide +kernel) (Nat.le_of_ble_eq_true rfl) rfl (fun Δ (C : qx_C G Δ cX6_change RX6 4 3 63) hret => ?_)
  have hN8 := hI.1
  have hN1 := hI.2.1
  refine qk_aloadn C dX6_change_0 1 rfl rfl 0 rfl ?_
  refine qk_iloadn C dX6_change_1 2 rfl rfl 1 rfl ?_
  refine qk_callV C dX6_change_2 5 rfl ql_X6_137 qc_X6_isBust 53 (by decide) rfl rfl (c_X6_isBust l G σ N v hI _) rfl rfl (Nat.le_of_ble_eq_true rfl) ⟨(Nat.le_of_ble_eq_true rfl), (Nat.le_of_ble_eq_true rfl)⟩ (qx_Ki ?_)
  refine qk_if_eqB C dX6_change_5 29 rfl 8 rfl (fun c_5 => ?_) (fun c_5 => ?_)
  · refine qk_aloadn C dX6_change_29 30 rfl rfl 0 rfl ?_
    refine qk_ldc C dX6_change_30 32 rfl qw_947 ?_
    refine qk_callV C dX6_change_32 35 rfl ql_X6_66 qc_X6_finding 53 (by decide) rfl rfl (c_X6_finding l G _ _ 0 (by decide) (by decide)) rfl rfl (Nat.le_of_ble_eq_true rfl) ⟨(Nat.le_of_ble_eq_true rfl), (Nat.le_of_ble_eq_true rfl)⟩ (qx_Ki ?_)
    exact hret _ _ _ _ dX6_change_35 (qMx_bad 0 (zif_f (by first | exact fun q => c_5 q.1 | exact fun q => c_13 q.2)) rfl mTr.rf.up qx_up_eq) rfl
  · refine qk_iloadn C dX6_change_8 9 rfl rfl 2 rfl ?_
    refine qk_iloadn C dX6_change_9 10 rfl rfl 3 rfl ?_
    refine qk_callS C dX6_change_10 13 rfl ql_X6_143 qc_X6_isField (c_X6_isField l G _ _ _) rfl rfl (Nat.le_of_ble_eq_true rfl) ⟨(Nat.le_of_ble_eq_true rfl), (Nat.le_of_ble_eq_true rfl)⟩ (qx_Ki ?_)
    refine qk_if_eqB C dX6_change_13 29 rfl 16 rfl (fun c_13 => ?_) (fun c_13 => ?_)
    · refine qk_aloadn C dX6_change_29 30 rfl rfl 0 rfl ?_
      refine qk_ldc C dX6_change_30 32 rfl qw_947 ?_
      refine qk_callV C dX6_change_32 35 rfl ql_X6_66 qc_X6_finding 53 (by decide) rfl rfl (c_X6_finding l G _ _ 0 (by decide) (by decide)) rfl rfl (Nat.le_of_ble_eq_true rfl) ⟨(Nat.le_of_ble_eq_true rfl), (Nat.le_of_ble_eq_true rfl)⟩ (qx_Ki ?_)
      exact hret _ _ _ _ dX6_change_35 (qMx_bad 0 (zif_f (by first | exact fun q => c_5 q.1 | exact fun q => c_13 q.2)) rfl mTr.rf.up qx_up_eq) rfl
    · obtain ⟨jb, hjb, rfl⟩ := z_ib_ex c_5 hN8
      obtain ⟨jx, hjx, rfl⟩ := z_in_ex 6 rfl (by omega) c_13.1
      refine qk_aloadn C dX6_change_16 17 rfl rfl 0 rfl ?_
      refine qk_iloadn C dX6_change_17 18 rfl rfl 1 rfl ?_
      refine qk_iloadn C dX6_change_18 19 rfl rfl 2 rfl ?_
      refine qk_callS C dX6_change_19 22 rfl ql_X6_88 qc_X6_bustAt (c_X6_bustAt l G _ jb jx (by omega) (by omega)) rfl rfl (Nat.le_of_ble_eq_true rfl) ⟨(Nat.le_of_ble_eq_true rfl), (Nat.le_of_ble_eq_true rfl)⟩ (qx_Ki ?_)
      refine qk_iloadn C dX6_change_22 23 rfl rfl 3 rfl ?_
      refine qk_callV C dX6_change_23 26 rfl ql_X6_81 qc_X6_become 53 (by decide) rfl rfl (c_X6_become l G σ v (32 + 7 * jb + jx) (by omega) _) rfl rfl (Nat.le_of_ble_eq_true rfl) ⟨(Nat.le_of_ble_eq_true rfl), (Nat.le_of_ble_eq_true rfl)⟩ (qx_Ki ?_)
      refine qk_goto C dX6_change_26 35 rfl ?_
      exact hret _ _ _ _ dX6_change_35 (qMx_ok ((zif_t ⟨z_ib_nI hjb hN8, c_13⟩).trans (by rw [zn_nI (show jb < 2 ^ 31 by omega), zn_nI (show jx < 2 ^ 31 by omega)])) rfl mTr.rf.up qx_up_eq) rfl

theorem c_X6_accepts (l : Launch) (G : qx_G) (σ : qx_Sg) (N : Nat) (v : Nat → Int32) (hI : qv_ok v N) (b p : Int32) : qx_Ct l G yX6_accepts cX6_accepts 3 (some .int) 5 110 [.ref (qx_ad G 53), .int b, .int p] (va_up σ 54 v) (qMx σ (S_accepts N v b p)) := by
  refine qx_of .int (lo := [(0, .ref (qx_ad G 53)), (1, .int b), (2, .int p)]) (by decide +kernel) (Nat.le_of_ble_eq_true rfl) rfl (fun Δ (C : qx_C G Δ cX6_accepts RX6 3 5 110) hret => ?_)
  have hN8 := hI.1
  have hN1 := hI.2.1
  refine qk_aloadn C dX6_accepts_0 1 rfl rfl 0 rfl ?_
  refine qk_iloadn C dX6_accepts_1 2 rfl rfl 1 rfl ?_
  refine qk_callV C dX6_accepts_2 5 rfl ql_X6_137 qc_X6_isBust 53 (by decide) rfl rfl (c_X6_isBust l G σ N v hI _) rfl rfl (Nat.le_of_ble_eq_true rfl) ⟨(Nat.le_of_ble_eq_true rfl), (Nat.le_of_ble_eq_true rfl)⟩ (qx_Ki ?_)
  refine qk_if_eqB C dX6_accepts_5 32 rfl 8 rfl (fun c_5 => ?_) (fun c_5 => ?_)
  · refine qk_aloadn C dX6_accepts_32 33 rfl rfl 0 rfl ?_
    refine qk_ldc C dX6_accepts_33 35 rfl qw_947 ?_
    refine qk_callV C dX6_accepts_35 38 rfl ql_X6_66 qc_X6_finding 53 (by decide) rfl rfl (c_X6_finding l G _ _ 0 (by decide) (by decide)) rfl rfl (Nat.le_of_ble_eq_true rfl) ⟨(Nat.le_of_ble_eq_true rfl), (Nat.le_of_ble_eq_true rfl)⟩ (qx_Ki ?_)
    exact hret _ _ _ _ dX6_accepts_38 (qMx_bad 0 (zif_f (by first | exact fun q => c_5 q.1 | exact fun q => c_12 q.2)) rfl mTr.rf.up qx_up_eq) rfl
  · refine qk_iloadn C dX6_accepts_8 9 rfl rfl 2 rfl ?_
    refine qk_callS C dX6_accepts_9 12 rfl ql_X6_85 qc_X6_isPart (c_X6_isPart l G _ _) rfl rfl (Nat.le_of_ble_eq_true rfl) ⟨(Nat.le_of_ble_eq_true rfl), (Nat.le_of_ble_eq_true rfl)⟩ (qx_Ki ?_)
    refine qk_if_eqB C dX6_accepts_12 32 rfl 15 rfl (fun c_12 => ?_) (fun c_12 => ?_)
    · refine qk_aloadn C dX6_accepts_32 33 rfl rfl 0 rfl ?_
      refine qk_ldc C dX6_accepts_33 35 rfl qw_947 ?_
      refine qk_callV C dX6_accepts_35 38 rfl ql_X6_66 qc_X6_finding 53 (by decide) rfl rfl (c_X6_finding l G _ _ 0 (by decide) (by decide)) rfl rfl (Nat.le_of_ble_eq_true rfl) ⟨(Nat.le_of_ble_eq_true rfl), (Nat.le_of_ble_eq_true rfl)⟩ (qx_Ki ?_)
      exact hret _ _ _ _ dX6_accepts_38 (qMx_bad 0 (zif_f (by first | exact fun q => c_5 q.1 | exact fun q => c_12 q.2)) rfl mTr.rf.up qx_up_eq) rfl
    · obtain ⟨jb, hjb, rfl⟩ := z_ib_ex c_5 hN8
      refine qk_aloadn C dX6_accepts_15 16 rfl rfl 0 rfl ?_
      refine qk_iloadn C dX6_accepts_16 17 rfl rfl 1 rfl ?_
      refine qk_iloadn C dX6_accepts_17 18 rfl rfl 2 rfl ?_
      refine qk_callV C dX6_accepts_18 21 rfl ql_X6_146 qc_X6_takes 53 (by decide) rfl rfl (c_X6_takes l G σ v jb (by omega) _) rfl rfl (Nat.le_of_ble_eq_true rfl) ⟨(Nat.le_of_ble_eq_true rfl), (Nat.le_of_ble_eq_true rfl)⟩ (qx_Ki ?_)
      refine qk_if_eqB C dX6_accepts_21 28 rfl 24 rfl (fun c_21 => ?_) (fun c_21 => ?_)
      · refine qk_iconst C (0) dX6_accepts_28 29 rfl rfl ?_
        refine qk_goto C dX6_accepts_29 38 rfl ?_
        exact hret _ _ _ _ dX6_accepts_38 (qMx_ok ((zif_t ⟨z_ib_nI hjb hN8, c_12⟩).trans (by rw [zn_nI (show jb < 2 ^ 31 by omega)])) ((qb_f c_21).symm) mTr.rf.up qx_up_eq) rfl
      · refine qk_iconst C (1) dX6_accepts_24 25 rfl rfl ?_
        refine qk_goto C dX6_accepts_25 38 rfl ?_
        exact hret _ _ _ _ dX6_accepts_38 (qMx_ok ((zif_t ⟨z_ib_nI hjb hN8, c_12⟩).trans (by rw [zn_nI (show jb < 2 ^ 31 by omega)])) ((qb_t c_21).symm) mTr.rf.up qx_up_eq) rfl

theorem c_X6_bequest (l : Launch) (G : qx_G) (σ : qx_Sg) (N : Nat) (v : Nat → Int32) (hI : qv_ok v N) (i p : Int32) : qx_Ct l G yX6_bequest cX6_bequest 3 (some .int) 2 42 [.ref (qx_ad G 53), .int i, .int p] (va_up σ 54 v) (qMx σ (S_bequest N v i p)) := by
  refine qx_of .int (lo := [(0, .ref (qx_ad G 53)), (1, .int i), (2, .int p)]) (by decide +kernel) (Nat.le_of_ble_eq_true rfl) rfl (fun Δ (C : qx_C G Δ cX6_bequest RX6 3 2 42) hret => ?_)
  have hN8 := hI.1
  have hN1 := hI.2.1
  refine qk_iloadn C dX6_bequest_0 1 rfl rfl 1 rfl ?_
  refine qk_callS C dX6_bequest_1 4 rfl ql_X6_74 qc_X6_isPlace (c_X6_isPlace l G _ _) rfl rfl (Nat.le_of_ble_eq_true rfl) ⟨(Nat.le_of_ble_eq_true rfl), (Nat.le_of_ble_eq_true rfl)⟩ (qx_Ki ?_)
  refine qk_if_eqB C dX6_bequest_4 25 rfl 7 rfl (fun c_4 => ?_) (fun c_4 => ?_)
  · refine qk_aloadn C dX6_bequest_25 26 rfl rfl 0 rfl ?_
    refine qk_ldc C dX6_bequest_26 28 rfl qw_947 ?_
    refine qk_callV C dX6_bequest_28 31 rfl ql_X6_66 qc_X6_finding 53 (by decide) rfl rfl (c_X6_finding l G _ _ 0 (by decide) (by decide)) rfl rfl (Nat.le_of_ble_eq_true rfl) ⟨(Nat.le_of_ble_eq_true rfl), (Nat.le_of_ble_eq_true rfl)⟩ (qx_Ki ?_)
    exact hret _ _ _ _ dX6_bequest_31 (qMx_bad 0 (zif_f (by first | exact fun q => c_4 q.1 | exact fun q => c_11 q.2)) rfl mTr.rf.up qx_up_eq) rfl
  · refine qk_iloadn C dX6_bequest_7 8 rfl rfl 2 rfl ?_
    refine qk_callS C dX6_bequest_8 11 rfl ql_X6_78 qc_X6_isBequest (c_X6_isBequest l G _ _) rfl rfl (Nat.le_of_ble_eq_true rfl) ⟨(Nat.le_of_ble_eq_true rfl), (Nat.le_of_ble_eq_true rfl)⟩ (qx_Ki ?_)
    refine qk_if_eqB C dX6_bequest_11 25 rfl 14 rfl (fun c_11 => ?_) (fun c_11 => ?_)
    · refine qk_aloadn C dX6_bequest_25 26 rfl rfl 0 rfl ?_
      refine qk_ldc C dX6_bequest_26 28 rfl qw_947 ?_
      refine qk_callV C dX6_bequest_28 31 rfl ql_X6_66 qc_X6_finding 53 (by decide) rfl rfl (c_X6_finding l G _ _ 0 (by decide) (by decide)) rfl rfl (Nat.le_of_ble_eq_true rfl) ⟨(Nat.le_of_ble_eq_true rfl), (Nat.le_of_ble_eq_true rfl)⟩ (qx_Ki ?_)
      exact hret _ _ _ _ dX6_bequest_31 (qMx_bad 0 (zif_f (by first | exact fun q => c_4 q.1 | exact fun q => c_11 q.2)) rfl mTr.rf.up qx_up_eq) rfl
    · obtain ⟨ji, hji, rfl⟩ := z_in_ex 5 rfl (by omega) c_4
      refine qk_aloadn C dX6_bequest_14 15 rfl rfl 0 rfl ?_
      refine qk_iconst C (4) dX6_bequest_15 16 rfl rfl ?_
      refine qk_iloadn C dX6_bequest_16 17 rfl rfl 1 rfl ?_
      refine qk_iadd C dX6_bequest_17 18 rfl ?_
      refine qk_cast (show _ = nI (4 + ji) from by rw [show (4 : Int32) = nI 4 from rfl, nI_add]) ?_
      refine qk_iloadn C dX6_bequest_18 19 rfl rfl 2 rfl ?_
      refine qk_callV C dX6_bequest_19 22 rfl ql_X6_81 qc_X6_become 53 (by decide) rfl rfl (c_X6_become l G σ v (4 + ji) (by omega) _) rfl rfl (Nat.le_of_ble_eq_true rfl) ⟨(Nat.le_of_ble_eq_true rfl), (Nat.le_of_ble_eq_true rfl)⟩ (qx_Ki ?_)
      refine qk_goto C dX6_bequest_22 31 rfl ?_
      exact hret _ _ _ _ dX6_bequest_31 (qMx_ok ((zif_t ⟨c_4, c_11⟩).trans (by rw [zn_nI (show ji < 2 ^ 31 by omega)])) rfl mTr.rf.up qx_up_eq) rfl

theorem c_X6_listed (l : Launch) (G : qx_G) (σ : qx_Sg) (N : Nat) (v : Nat → Int32) (hI : qv_ok v N) (i : Int32) : qx_Ct l G yX6_listed cX6_listed 2 (some .int) 2 42 [.ref (qx_ad G 53), .int i] (va_up σ 54 v) (qMx σ (S_listed N v i)) := by
  refine qx_of .int (lo := [(0, .ref (qx_ad G 53)), (1, .int i)]) (by decide +kernel) (Nat.le_of_ble_eq_true rfl) rfl (fun Δ (C : qx_C G Δ cX6_listed RX6 2 2 42) hret => ?_)
  have hN8 := hI.1
  have hN1 := hI.2.1
  refine qk_iloadn C dX6_listed_0 1 rfl rfl 1 rfl ?_
  refine qk_callS C dX6_listed_1 4 rfl ql_X6_74 qc_X6_isPlace (c_X6_isPlace l G _ _) rfl rfl (Nat.le_of_ble_eq_true rfl) ⟨(Nat.le_of_ble_eq_true rfl), (Nat.le_of_ble_eq_true rfl)⟩ (qx_Ki ?_)
  refine qk_if_eqB C dX6_listed_4 18 rfl 7 rfl (fun c_4 => ?_) (fun c_4 => ?_)
  · refine qk_aloadn C dX6_listed_18 19 rfl rfl 0 rfl ?_
    refine qk_ldc C dX6_listed_19 21 rfl qw_947 ?_
    refine qk_callV C dX6_listed_21 24 rfl ql_X6_66 qc_X6_finding 53 (by decide) rfl rfl (c_X6_finding l G _ _ 0 (by decide) (by decide)) rfl rfl (Nat.le_of_ble_eq_true rfl) ⟨(Nat.le_of_ble_eq_true rfl), (Nat.le_of_ble_eq_true rfl)⟩ (qx_Ki ?_)
    exact hret _ _ _ _ dX6_listed_24 (qMx_bad 0 (zif_f (by first | exact fun q => c_4 q)) rfl mTr.rf.up qx_up_eq) rfl
  · obtain ⟨ji, hji, rfl⟩ := z_in_ex 5 rfl (by omega) c_4
    refine qk_aloadn C dX6_listed_7 8 rfl rfl 0 rfl ?_
    refine qk_get C dX6_listed_8 11 rfl qf_X6_9 53 (by decide) rfl rfl ?_
    refine qk_iconst C (4) dX6_listed_11 12 rfl rfl ?_
    refine qk_iloadn C dX6_listed_12 13 rfl rfl 1 rfl ?_
    refine qk_iadd C dX6_listed_13 14 rfl ?_
    refine qk_cast (show _ = nI (4 + ji) from by rw [show (4 : Int32) = nI 4 from rfl, nI_add]) ?_
    refine qk_iald C dX6_listed_14 15 rfl 54 (by decide) (fun _ => rfl) (4 + ji) rfl (by omega) (by decide) ?_
    refine qk_cast (show _ = v (4 + ji) from rfl) ?_
    refine qk_goto C dX6_listed_15 24 rfl ?_
    exact hret _ _ _ _ dX6_listed_24 (qMx_ok ((zif_t c_4).trans (by rw [zn_nI (show ji < 2 ^ 31 by omega)])) rfl mTr.rf.up qx_up_eq) rfl

theorem c_X6_stored (l : Launch) (G : qx_G) (σ : qx_Sg) (N : Nat) (v : Nat → Int32) (hI : qv_ok v N) (p : Int32) : qx_Ct l G yX6_stored cX6_stored 2 (some .int) 2 42 [.ref (qx_ad G 53), .int p] (va_up σ 54 v) (qMx σ (S_stored N v p)) := by
  refine qx_of .int (lo := [(0, .ref (qx_ad G 53)), (1, .int p)]) (by decide +kernel) (Nat.le_of_ble_eq_true rfl) rfl (fun Δ (C : qx_C G Δ cX6_stored RX6 2 2 42) hret => ?_)
  have hN8 := hI.1
  have hN1 := hI.2.1
  refine qk_iloadn C dX6_stored_0 1 rfl rfl 1 rfl ?_
  refine qk_callS C dX6_stored_1 4 rfl ql_X6_85 qc_X6_isPart (c_X6_isPart l G _ _) rfl rfl (Nat.le_of_ble_eq_true rfl) ⟨(Nat.le_of_ble_eq_true rfl), (Nat.le_of_ble_eq_true rfl)⟩ (qx_Ki ?_)
  refine qk_if_eqB C dX6_stored_4 19 rfl 7 rfl (fun c_4 => ?_) (fun c_4 => ?_)
  · refine qk_aloadn C dX6_stored_19 20 rfl rfl 0 rfl ?_
    refine qk_ldc C dX6_stored_20 22 rfl qw_947 ?_
    refine qk_callV C dX6_stored_22 25 rfl ql_X6_66 qc_X6_finding 53 (by decide) rfl rfl (c_X6_finding l G _ _ 0 (by decide) (by decide)) rfl rfl (Nat.le_of_ble_eq_true rfl) ⟨(Nat.le_of_ble_eq_true rfl), (Nat.le_of_ble_eq_true rfl)⟩ (qx_Ki ?_)
    exact hret _ _ _ _ dX6_stored_25 (qMx_bad 0 (zif_f (by first | exact fun q => c_4 q)) rfl mTr.rf.up qx_up_eq) rfl
  · obtain ⟨jp, hjp, rfl⟩ := z_in_ex 11 rfl (by omega) c_4
    refine qk_aloadn C dX6_stored_7 8 rfl rfl 0 rfl ?_
    refine qk_get C dX6_stored_8 11 rfl qf_X6_9 53 (by decide) rfl rfl ?_
    refine qk_bipush C (10) dX6_stored_11 13 rfl rfl ?_
    refine qk_iloadn C dX6_stored_13 14 rfl rfl 1 rfl ?_
    refine qk_iadd C dX6_stored_14 15 rfl ?_
    refine qk_cast (show _ = nI (10 + jp) from by rw [show (10 : Int32) = nI 10 from rfl, nI_add]) ?_
    refine qk_iald C dX6_stored_15 16 rfl 54 (by decide) (fun _ => rfl) (10 + jp) rfl (by omega) (by decide) ?_
    refine qk_cast (show _ = v (10 + jp) from rfl) ?_
    refine qk_goto C dX6_stored_16 25 rfl ?_
    exact hret _ _ _ _ dX6_stored_25 (qMx_ok ((zif_t c_4).trans (by rw [zn_nI (show jp < 2 ^ 31 by omega)])) rfl mTr.rf.up qx_up_eq) rfl

theorem c_X6_comes (l : Launch) (G : qx_G) (σ : qx_Sg) (N : Nat) (v : Nat → Int32) (hI : qv_ok v N) (hN7 : N < 8) (k d : Int32) : qx_Ct l G yX6_comes cX6_comes 5 (some .int) 1 21 [.ref (qx_ad G 53), .int k, .int d] (va_up σ 54 v) (qx_pi (nI N) (va_up σ 54 (z_cm v N k d))) := by
  refine qx_of .int (lo := [(0, .ref (qx_ad G 53)), (1, .int k), (2, .int d)]) (by decide +kernel) (Nat.le_of_ble_eq_true rfl) rfl (fun Δ (C : qx_C G Δ cX6_comes RX6 5 1 21) hret => ?_)
  have hN8 := hI.1
  have hN1 := hI.2.1
  refine qk_aloadn C dX6_comes_0 1 rfl rfl 0 rfl ?_
  refine qk_get C dX6_comes_1 4 rfl qf_X6_9 53 (by decide) rfl rfl ?_
  refine qk_iconst C (1) dX6_comes_4 5 rfl rfl ?_
  refine qk_iald C dX6_comes_5 6 rfl 54 (by decide) (fun _ => rfl) 1 rfl (by omega) (by decide) ?_
  refine qk_cast (hN1) ?_
  refine qk_istoren C dX6_comes_6 7 rfl rfl (by decide) rfl ?_
  refine qk_iconst C (nI 0) dX6_comes_7 8 rfl rfl ?_
  refine qk_istore C dX6_comes_8 10 rfl (by decide) rfl ?_
  have lp_10 : ∀ (n_10 : Nat) (i : Nat), i ≤ 7 → 7 - i < n_10 → qx_K l G Δ (va_up σ 54 (m_zr v (32 + 7 * N) i)) 10 [(4, .int (nI i)), (3, .int (nI N)), (0, .ref (qx_ad G 53)), (1, .int k), (2, .int d)] [] := by
    intro n_10
    induction n_10 with
    | zero => intro _ _ h9; exact absurd h9 (Nat.not_lt_zero _)
    | succ n_10 ih_10 =>
      intro i hi hm_10
      refine qk_iload C dX6_comes_10 12 rfl 0 rfl ?_
      refine qk_bipush C (nI 7) dX6_comes_12 14 rfl rfl ?_
      refine qk_icmp_ge C dX6_comes_14 35 rfl 17 rfl (fun c_14 => ?_) (fun c_14 => ?_)
      · have h7 : 7 ≤ i := (nI_leI (by omega) (by omega)).mp c_14
        have hi7 : i = 7 := by omega
        subst hi7
        refine qk_aloadn C dX6_comes_35 36 rfl rfl 2 rfl ?_
        refine qk_get C dX6_comes_36 39 rfl qf_X6_9 53 (by decide) rfl rfl ?_
        refine qk_iloadn C dX6_comes_39 40 rfl rfl 1 rfl ?_
        refine qk_iconst C (0) dX6_comes_40 41 rfl rfl ?_
        refine qk_callS C dX6_comes_41 44 rfl ql_X6_88 qc_X6_bustAt (c_X6_bustAt l G _ N 0 (by omega) (by omega)) rfl rfl (Nat.le_of_ble_eq_true rfl) ⟨(Nat.le_of_ble_eq_true rfl), (Nat.le_of_ble_eq_true rfl)⟩ (qx_Ki ?_)
        refine qk_iloadn C dX6_comes_44 45 rfl rfl 3 rfl ?_
        refine qk_iast C dX6_comes_45 46 rfl 54 (by decide) (fun _ => rfl) (32 + 7 * N + 0) rfl (by omega) (by decide) ?_
        refine qk_sg _ (m_w) ?_
        refine qk_aloadn C dX6_comes_46 47 rfl rfl 2 rfl ?_
        refine qk_get C dX6_comes_47 50 rfl qf_X6_9 53 (by decide) rfl rfl ?_
        refine qk_iloadn C dX6_comes_50 51 rfl rfl 1 rfl ?_
        refine qk_iconst C (1) dX6_comes_51 52 rfl rfl ?_
        refine qk_callS C dX6_comes_52 55 rfl ql_X6_88 qc_X6_bustAt (c_X6_bustAt l G _ N 1 (by omega) (by omega)) rfl rfl (Nat.le_of_ble_eq_true rfl) ⟨(Nat.le_of_ble_eq_true rfl), (Nat.le_of_ble_eq_true rfl)⟩ (qx_Ki ?_)
        refine qk_iloadn C dX6_comes_55 56 rfl rfl 4 rfl ?_
        refine qk_iast C dX6_comes_56 57 rfl 54 (by decide) (fun _ => rfl) (32 + 7 * N + 1) rfl (by omega) (by decide) ?_
        refine qk_sg _ (m_w) ?_
        refine qk_aloadn C dX6_comes_57 58 rfl rfl 2 rfl ?_
        refine qk_get C dX6_comes_58 61 rfl qf_X6_9 53 (by decide) rfl rfl ?_
        refine qk_iloadn C dX6_comes_61 62 rfl rfl 1 rfl ?_
        refine qk_iconst C (2) dX6_comes_62 63 rfl rfl ?_
        refine qk_callS C dX6_comes_63 66 rfl ql_X6_88 qc_X6_bustAt (c_X6_bustAt l G _ N 2 (by omega) (by omega)) rfl rfl (Nat.le_of_ble_eq_true rfl) ⟨(Nat.le_of_ble_eq_true rfl), (Nat.le_of_ble_eq_true rfl)⟩ (qx_Ki ?_)
        refine qk_iconst C (3) dX6_comes_66 67 rfl rfl ?_
        refine qk_iast C dX6_comes_67 68 rfl 54 (by decide) (fun _ => rfl) (32 + 7 * N + 2) rfl (by omega) (by decide) ?_
        refine qk_sg _ (m_w) ?_
        refine qk_aloadn C dX6_comes_68 69 rfl rfl 2 rfl ?_
        refine qk_get C dX6_comes_69 72 rfl qf_X6_9 53 (by decide) rfl rfl ?_
        refine qk_iconst C (1) dX6_comes_72 73 rfl rfl ?_
        refine qk_dup2 C dX6_comes_73 74 rfl rfl rfl ?_
        refine qk_iald C dX6_comes_74 75 rfl 54 (by decide) (fun _ => rfl) 1 rfl (by omega) (by decide) ?_
        refine qk_cast (show _ = nI N from by rw [show ∀ r : Nat → Int32, va_up σ 54 r 54 = r from fun r => qx_up_eq, upd_ne (by omega), upd_ne (by omega), upd_ne (by omega)]; unfold m_zr; rw [if_neg (by omega)]; exact hN1) ?_
        refine qk_iconst C (1) dX6_comes_75 76 rfl rfl ?_
        refine qk_iadd C dX6_comes_76 77 rfl ?_
        refine qk_cast (nI_1 N) ?_
        refine qk_iast C dX6_comes_77 78 rfl 54 (by decide) (fun _ => rfl) (1) rfl (by omega) (by decide) ?_
        refine qk_sg _ (m_w.trans (congrArg (va_up σ 54) m_cm)) ?_
        refine qk_iloadn C dX6_comes_78 79 rfl rfl 1 rfl ?_
        exact hret _ _ _ _ dX6_comes_79 ⟨congrArg (fun x => some (Value.int x)) (by first | rfl | (simp [c_14]; done) | (simp [c_14]; decide) | (simp [c_14]; rfl) | (simp_all []; done)), rfl⟩ rfl
      · have h7 : i < 7 := Nat.not_le.mp (fun q => c_14 (nI_le q (by omega)))
        refine qk_aloadn C dX6_comes_17 18 rfl rfl 2 rfl ?_
        refine qk_get C dX6_comes_18 21 rfl qf_X6_9 53 (by decide) rfl rfl ?_
        refine qk_iloadn C dX6_comes_21 22 rfl rfl 1 rfl ?_
        refine qk_iload C dX6_comes_22 24 rfl 0 rfl ?_
        refine qk_callS C dX6_comes_24 27 rfl ql_X6_88 qc_X6_bustAt (c_X6_bustAt l G _ N i (by omega) (by omega)) rfl rfl (Nat.le_of_ble_eq_true rfl) ⟨(Nat.le_of_ble_eq_true rfl), (Nat.le_of_ble_eq_true rfl)⟩ (qx_Ki ?_)
        refine qk_iconst C (0) dX6_comes_27 28 rfl rfl ?_
        refine qk_iast C dX6_comes_28 29 rfl 54 (by decide) (fun _ => rfl) (32 + 7 * N + i) rfl (by omega) (by decide) ?_
        refine qk_sg _ (m_w.trans (congrArg (va_up σ 54) m_zr_s)) ?_
        refine qk_iinc C (nI (i + 1)) dX6_comes_29 32 rfl 0 rfl (nI_1 i) (by decide) rfl ?_
        refine qk_goto C dX6_comes_32 10 rfl ?_
        exact ih_10 (i + 1) (by omega) (by omega)
  refine qk_sg (va_up σ 54 (m_zr v (32 + 7 * N) 0)) (congrArg (va_up σ 54) (by funext j; unfold m_zr; rw [if_neg (by omega)])) ?_
  exact lp_10 _ 0 (by omega) (Nat.lt_succ_self _)

theorem c_X6_bust (l : Launch) (G : qx_G) (σ : qx_Sg) (N : Nat) (v : Nat → Int32) (hI : qv_ok v N) (k d : Int32) : qx_Ct l G yX6_bust cX6_bust 3 (some .int) 2 45 [.ref (qx_ad G 53), .int k, .int d] (va_up σ 54 v) (qMx σ (S_bust N v k d)) := by
  refine qx_of .int (lo := [(0, .ref (qx_ad G 53)), (1, .int k), (2, .int d)]) (by decide +kernel) (Nat.le_of_ble_eq_true rfl) rfl (fun Δ (C : qx_C G Δ cX6_bust RX6 3 2 45) hret => ?_)
  have hN8 := hI.1
  have hN1 := hI.2.1
  refine qk_iloadn C dX6_bust_0 1 rfl rfl 1 rfl ?_
  refine qk_callS C dX6_bust_1 4 rfl ql_X6_91 qc_X6_isKind (c_X6_isKind l G _ _) rfl rfl (Nat.le_of_ble_eq_true rfl) ⟨(Nat.le_of_ble_eq_true rfl), (Nat.le_of_ble_eq_true rfl)⟩ (qx_Ki ?_)
  refine qk_if_eqB C dX6_bust_4 14 rfl 7 rfl (fun c_4 => ?_) (fun c_4 => ?_)
  · refine qk_aloadn C dX6_bust_14 15 rfl rfl 0 rfl ?_
    refine qk_ldc C dX6_bust_15 17 rfl qw_947 ?_
    refine qk_callV C dX6_bust_17 20 rfl ql_X6_66 qc_X6_finding 53 (by decide) rfl rfl (c_X6_finding l G _ _ 0 (by decide) (by decide)) rfl rfl (Nat.le_of_ble_eq_true rfl) ⟨(Nat.le_of_ble_eq_true rfl), (Nat.le_of_ble_eq_true rfl)⟩ (qx_Ki ?_)
    exact hret _ _ _ _ dX6_bust_20 (qMx_bad 0 (zif_f (by first | exact fun q => c_4 q.1 | exact fun q => c_11 q.2)) rfl mTr.rf.up qx_up_eq) rfl
  · refine qk_iloadn C dX6_bust_7 8 rfl rfl 2 rfl ?_
    refine qk_callS C dX6_bust_8 11 rfl ql_X6_94 qc_X6_isDate (c_X6_isDate l G _ _) rfl rfl (Nat.le_of_ble_eq_true rfl) ⟨(Nat.le_of_ble_eq_true rfl), (Nat.le_of_ble_eq_true rfl)⟩ (qx_Ki ?_)
    refine qk_if_neB C dX6_bust_11 21 rfl 14 rfl (fun c_11 => ?_) (fun c_11 => ?_)
    · refine qk_aloadn C dX6_bust_21 22 rfl rfl 0 rfl ?_
      refine qk_get C dX6_bust_22 25 rfl qf_X6_9 53 (by decide) rfl rfl ?_
      refine qk_iconst C (1) dX6_bust_25 26 rfl rfl ?_
      refine qk_iald C dX6_bust_26 27 rfl 54 (by decide) (fun _ => rfl) 1 rfl (by omega) (by decide) ?_
      refine qk_cast (hN1) ?_
      refine qk_bipush C (nI 8) dX6_bust_27 29 rfl rfl ?_
      refine qk_icmp_ne C dX6_bust_29 41 rfl 32 rfl (fun c_29 => ?_) (fun c_29 => ?_)
      · have h8 : ¬ N = 8 := fun e => c_29 (by rw [e])
        refine qk_aloadn C dX6_bust_41 42 rfl rfl 0 rfl ?_
        refine qk_iloadn C dX6_bust_42 43 rfl rfl 1 rfl ?_
        refine qk_iloadn C dX6_bust_43 44 rfl rfl 2 rfl ?_
        refine qk_callV C dX6_bust_44 47 rfl ql_X6_98 qc_X6_comes 53 (by decide) rfl rfl (c_X6_comes l G σ N v hI (by omega) _ _) rfl rfl (Nat.le_of_ble_eq_true rfl) ⟨(Nat.le_of_ble_eq_true rfl), (Nat.le_of_ble_eq_true rfl)⟩ (qx_Ki ?_)
        exact hret _ _ _ _ dX6_bust_47 (qMx_ok ((zif_t ⟨c_4, c_11⟩).trans (zif_f (by omega))) rfl mTr.rf.up qx_up_eq) rfl
      · have h8 : N = 8 := (nI_eq (by omega) (by omega)).mp c_29
        refine qk_aloadn C dX6_bust_32 33 rfl rfl 0 rfl ?_
        refine qk_ldc C dX6_bust_33 35 rfl qw_973 ?_
        refine qk_callV C dX6_bust_35 38 rfl ql_X6_66 qc_X6_finding 53 (by decide) rfl rfl (c_X6_finding l G _ _ 1 (by decide) (by decide)) rfl rfl (Nat.le_of_ble_eq_true rfl) ⟨(Nat.le_of_ble_eq_true rfl), (Nat.le_of_ble_eq_true rfl)⟩ (qx_Ki ?_)
        refine qk_goto C dX6_bust_38 47 rfl ?_
        exact hret _ _ _ _ dX6_bust_47 (qMx_bad 1 ((zif_t ⟨c_4, c_11⟩).trans (zif_t (by omega))) rfl mTr.rf.up qx_up_eq) rfl
    · refine qk_aloadn C dX6_bust_14 15 rfl rfl 0 rfl ?_
      refine qk_ldc C dX6_bust_15 17 rfl qw_947 ?_
      refine qk_callV C dX6_bust_17 20 rfl ql_X6_66 qc_X6_finding 53 (by decide) rfl rfl (c_X6_finding l G _ _ 0 (by decide) (by decide)) rfl rfl (Nat.le_of_ble_eq_true rfl) ⟨(Nat.le_of_ble_eq_true rfl), (Nat.le_of_ble_eq_true rfl)⟩ (qx_Ki ?_)
      exact hret _ _ _ _ dX6_bust_20 (qMx_bad 0 (zif_f (by first | exact fun q => c_4 q.1 | exact fun q => c_11 q.2)) rfl mTr.rf.up qx_up_eq) rfl

theorem c_X6_heirOf (l : Launch) (G : qx_G) (σ : qx_Sg) (N : Nat) (v : Nat → Int32) (hI : qv_ok v N) (p : Int32) : qx_Ct l G yX6_heirOf cX6_heirOf 4 (some .int) 5 110 [.ref (qx_ad G 53), .int p] (va_up σ 54 v) (qx_pi (z_oi (z_hr v p N)) (va_up σ 54 v)) := by
  refine qx_of .int (lo := [(0, .ref (qx_ad G 53)), (1, .int p)]) (by decide +kernel) (Nat.le_of_ble_eq_true rfl) rfl (fun Δ (C : qx_C G Δ cX6_heirOf RX6 4 5 110) hret => ?_)
  have hN8 := hI.1
  have hN1 := hI.2.1
  refine qk_iconst C ((-1)) dX6_heirOf_0 1 rfl rfl ?_
  refine qk_istoren C dX6_heirOf_1 2 rfl rfl (by decide) rfl ?_
  refine qk_iconst C (nI 0) dX6_heirOf_2 3 rfl rfl ?_
  refine qk_istoren C dX6_heirOf_3 4 rfl rfl (by decide) rfl ?_
  have lp_4 : ∀ (n_4 : Nat) (i : Nat) (a : Int32), (i ≤ N ∧ a = z_oi (z_hr v p i)) → N - i < n_4 → qx_K l G Δ (va_up σ 54 v) 4 [(3, .int (nI i)), (2, .int a), (0, .ref (qx_ad G 53)), (1, .int p)] [] := by
    intro n_4
    induction n_4 with
    | zero => intro _ _ _ h9; exact absurd h9 (Nat.not_lt_zero _)
    | succ n_4 ih_4 =>
      intro i a hi hm_4
      refine qk_iloadn C dX6_heirOf_4 5 rfl rfl 0 rfl ?_
      refine qk_aloadn C dX6_heirOf_5 6 rfl rfl 2 rfl ?_
      refine qk_get C dX6_heirOf_6 9 rfl qf_X6_9 53 (by decide) rfl rfl ?_
      refine qk_iconst C (1) dX6_heirOf_9 10 rfl rfl ?_
      refine qk_iald C dX6_heirOf_10 11 rfl 54 (by decide) (fun _ => rfl) 1 rfl (by omega) (by decide) ?_
      refine qk_cast (hN1) ?_
      refine qk_icmp_ge C dX6_heirOf_11 58 rfl 14 rfl (fun c_11 => ?_) (fun c_11 => ?_)
      · have hiN : N ≤ i := (nI_leI (by omega) (by omega)).mp c_11
        refine qk_iloadn C dX6_heirOf_58 59 rfl rfl 1 rfl ?_
        exact hret _ _ _ _ dX6_heirOf_59 ⟨congrArg (fun x => some (Value.int x)) (by rw [hi.2, show i = N by omega]), rfl⟩ rfl
      · have hiN : i < N := Nat.not_le.mp (fun q => c_11 (nI_le q (by omega)))
        refine qk_aloadn C dX6_heirOf_14 15 rfl rfl 2 rfl ?_
        refine qk_iloadn C dX6_heirOf_15 16 rfl rfl 0 rfl ?_
        refine qk_callV C dX6_heirOf_16 19 rfl ql_X6_149 qc_X6_isGone 53 (by decide) rfl rfl (c_X6_isGone l G σ v i (by omega)) rfl rfl (Nat.le_of_ble_eq_true rfl) ⟨(Nat.le_of_ble_eq_true rfl), (Nat.le_of_ble_eq_true rfl)⟩ (qx_Ki ?_)
        refine qk_if_neB C dX6_heirOf_19 52 rfl 22 rfl (fun c_19 => ?_) (fun c_19 => ?_)
        · refine qk_iinc C (nI (i + 1)) dX6_heirOf_52 55 rfl 0 rfl (nI_1 i) (by decide) rfl ?_
          refine qk_goto C dX6_heirOf_55 4 rfl ?_
          exact ih_4 (i + 1) _ ⟨by omega, by first | exact (congrArg z_oi (z_h1_f (fun q => absurd (q.1.symm.trans c_19) (by decide)))).symm | (rw [hi.2]; exact (congrArg z_oi (z_h1_f (fun q => absurd (q.1.symm.trans c_19) (by decide)))).symm) | (rw [show z_hr v p (i + 1) = z_h1 v p i (z_hr v p i) from rfl, z_h1_f (fun q => absurd (q.1.symm.trans c_19) (by decide)), hq]; rfl)⟩ (by omega)
        · refine qk_aloadn C dX6_heirOf_22 23 rfl rfl 2 rfl ?_
          refine qk_iloadn C dX6_heirOf_23 24 rfl rfl 0 rfl ?_
          refine qk_iloadn C dX6_heirOf_24 25 rfl rfl 3 rfl ?_
          refine qk_callV C dX6_heirOf_25 28 rfl ql_X6_146 qc_X6_takes 53 (by decide) rfl rfl (c_X6_takes l G σ v i (by omega) _) rfl rfl (Nat.le_of_ble_eq_true rfl) ⟨(Nat.le_of_ble_eq_true rfl), (Nat.le_of_ble_eq_true rfl)⟩ (qx_Ki ?_)
          refine qk_if_eqB C dX6_heirOf_28 52 rfl 31 rfl (fun c_28 => ?_) (fun c_28 => ?_)
          · refine qk_iinc C (nI (i + 1)) dX6_heirOf_52 55 rfl 0 rfl (nI_1 i) (by decide) rfl ?_
            refine qk_goto C dX6_heirOf_55 4 rfl ?_
            exact ih_4 (i + 1) _ ⟨by omega, by first | exact (congrArg z_oi (z_h1_f (fun q => c_28 q.2.1))).symm | (rw [hi.2]; exact (congrArg z_oi (z_h1_f (fun q => c_28 q.2.1))).symm) | (rw [show z_hr v p (i + 1) = z_h1 v p i (z_hr v p i) from rfl, z_h1_f (fun q => c_28 q.2.1), hq]; rfl)⟩ (by omega)
          · rcases hq : z_hr v p i with _ | h
            · have ha : a = -1 := by rw [hi.2, hq]; rfl
              subst ha
              refine qk_iloadn C dX6_heirOf_31 32 rfl rfl 1 rfl ?_
              refine qk_if_lt C dX6_heirOf_32 50 rfl 35 rfl (fun _ => ?_) (fun c => absurd (by decide) c)
              refine qk_iloadn C dX6_heirOf_50 51 rfl rfl 0 rfl ?_
              refine qk_istoren C dX6_heirOf_51 52 rfl rfl (by decide) rfl ?_
              refine qk_iinc C (nI (i + 1)) dX6_heirOf_52 55 rfl 1 rfl (nI_1 i) (by decide) rfl ?_
              refine qk_goto C dX6_heirOf_55 4 rfl ?_
              exact ih_4 (i + 1) _ ⟨by omega, by first | exact (congrArg z_oi (z_h1_t ⟨((hI.2.2.2.2.1 i (by omega)).2.2.resolve_right c_19), c_28, fun h2 e2 => by rw [hq] at e2; cases e2⟩)).symm | (rw [hi.2]; exact (congrArg z_oi (z_h1_t ⟨((hI.2.2.2.2.1 i (by omega)).2.2.resolve_right c_19), c_28, fun h2 e2 => by rw [hq] at e2; cases e2⟩)).symm) | (rw [show z_hr v p (i + 1) = z_h1 v p i (z_hr v p i) from rfl, z_h1_t ⟨((hI.2.2.2.2.1 i (by omega)).2.2.resolve_right c_19), c_28, fun h2 e2 => by rw [hq] at e2; cases e2⟩, hq]; rfl)⟩ (by omega)
            · have ha : a = nI h := by rw [hi.2, hq]; rfl
              subst ha
              have hh : h < i := z_hr_lt hq
              refine qk_iloadn C dX6_heirOf_31 32 rfl rfl 1 rfl ?_
              refine qk_if_lt C dX6_heirOf_32 50 rfl 35 rfl (fun c_32 => absurd c_32 (nI_pos (by omega))) (fun c_32 => ?_)
              refine qk_aloadn C dX6_heirOf_35 36 rfl rfl 2 rfl ?_
              refine qk_iloadn C dX6_heirOf_36 37 rfl rfl 0 rfl ?_
              refine qk_iconst C (1) dX6_heirOf_37 38 rfl rfl ?_
              refine qk_callV C dX6_heirOf_38 41 rfl ql_X6_101 qc_X6_bustIs 53 (by decide) rfl rfl (c_X6_bustIs l G σ v i 1 (by omega) (by omega)) rfl rfl (Nat.le_of_ble_eq_true rfl) ⟨(Nat.le_of_ble_eq_true rfl), (Nat.le_of_ble_eq_true rfl)⟩ (qx_Ki ?_)
              refine qk_aloadn C dX6_heirOf_41 42 rfl rfl 2 rfl ?_
              refine qk_iloadn C dX6_heirOf_42 43 rfl rfl 1 rfl ?_
              refine qk_iconst C (1) dX6_heirOf_43 44 rfl rfl ?_
              refine qk_callV C dX6_heirOf_44 47 rfl ql_X6_101 qc_X6_bustIs 53 (by decide) rfl rfl (c_X6_bustIs l G σ v h 1 (by omega) (by omega)) rfl rfl (Nat.le_of_ble_eq_true rfl) ⟨(Nat.le_of_ble_eq_true rfl), (Nat.le_of_ble_eq_true rfl)⟩ (qx_Ki ?_)
              refine qk_icmp_ge C dX6_heirOf_47 52 rfl 50 rfl (fun c_47 => ?_) (fun c_47 => ?_)
              · refine qk_iinc C (nI (i + 1)) dX6_heirOf_52 55 rfl 0 rfl (nI_1 i) (by decide) rfl ?_
                refine qk_goto C dX6_heirOf_55 4 rfl ?_
                exact ih_4 (i + 1) _ ⟨by omega, by first | exact (congrArg z_oi (z_h1_f (fun q => q.2.2 h hq c_47))).symm | (rw [hi.2]; exact (congrArg z_oi (z_h1_f (fun q => q.2.2 h hq c_47))).symm) | (rw [show z_hr v p (i + 1) = z_h1 v p i (z_hr v p i) from rfl, z_h1_f (fun q => q.2.2 h hq c_47), hq]; rfl)⟩ (by omega)
              · refine qk_iloadn C dX6_heirOf_50 51 rfl rfl 0 rfl ?_
                refine qk_istoren C dX6_heirOf_51 52 rfl rfl (by decide) rfl ?_
                refine qk_iinc C (nI (i + 1)) dX6_heirOf_52 55 rfl 1 rfl (nI_1 i) (by decide) rfl ?_
                refine qk_goto C dX6_heirOf_55 4 rfl ?_
                exact ih_4 (i + 1) _ ⟨by omega, by first | exact (congrArg z_oi (z_h1_t ⟨((hI.2.2.2.2.1 i (by omega)).2.2.resolve_right c_19), c_28, fun h2 e2 => by rw [hq] at e2; cases e2; exact c_47⟩)).symm | (rw [hi.2]; exact (congrArg z_oi (z_h1_t ⟨((hI.2.2.2.2.1 i (by omega)).2.2.resolve_right c_19), c_28, fun h2 e2 => by rw [hq] at e2; cases e2; exact c_47⟩)).symm) | (rw [show z_hr v p (i + 1) = z_h1 v p i (z_hr v p i) from rfl, z_h1_t ⟨((hI.2.2.2.2.1 i (by omega)).2.2.resolve_right c_19), c_28, fun h2 e2 => by rw [hq] at e2; cases e2; exact c_47⟩, hq]; rfl)⟩ (by omega)
  exact lp_4 _ 0 _ ⟨by omega, rfl⟩ (Nat.lt_succ_self _)

theorem c_X6_heir (l : Launch) (G : qx_G) (σ : qx_Sg) (N : Nat) (v : Nat → Int32) (hI : qv_ok v N) (p : Int32) : qx_Ct l G yX6_heir cX6_heir 2 (some .int) 6 133 [.ref (qx_ad G 53), .int p] (va_up σ 54 v) (qMx σ (S_heir N v p)) := by
  refine qx_of .int (lo := [(0, .ref (qx_ad G 53)), (1, .int p)]) (by decide +kernel) (Nat.le_of_ble_eq_true rfl) rfl (fun Δ (C : qx_C G Δ cX6_heir RX6 2 6 133) hret => ?_)
  have hN8 := hI.1
  have hN1 := hI.2.1
  refine qk_iloadn C dX6_heir_0 1 rfl rfl 1 rfl ?_
  refine qk_callS C dX6_heir_1 4 rfl ql_X6_85 qc_X6_isPart (c_X6_isPart l G _ _) rfl rfl (Nat.le_of_ble_eq_true rfl) ⟨(Nat.le_of_ble_eq_true rfl), (Nat.le_of_ble_eq_true rfl)⟩ (qx_Ki ?_)
  refine qk_if_eqB C dX6_heir_4 19 rfl 7 rfl (fun c_4 => ?_) (fun c_4 => ?_)
  · refine qk_aloadn C dX6_heir_19 20 rfl rfl 0 rfl ?_
    refine qk_ldc C dX6_heir_20 22 rfl qw_947 ?_
    refine qk_callV C dX6_heir_22 25 rfl ql_X6_66 qc_X6_finding 53 (by decide) rfl rfl (c_X6_finding l G _ _ 0 (by decide) (by decide)) rfl rfl (Nat.le_of_ble_eq_true rfl) ⟨(Nat.le_of_ble_eq_true rfl), (Nat.le_of_ble_eq_true rfl)⟩ (qx_Ki ?_)
    exact hret _ _ _ _ dX6_heir_25 (qMx_bad 0 (zif_f (by first | exact fun q => c_4 q)) rfl mTr.rf.up qx_up_eq) rfl
  · refine qk_aloadn C dX6_heir_7 8 rfl rfl 0 rfl ?_
    refine qk_aloadn C dX6_heir_8 9 rfl rfl 0 rfl ?_
    refine qk_iloadn C dX6_heir_9 10 rfl rfl 1 rfl ?_
    refine qk_callV C dX6_heir_10 13 rfl ql_X6_152 qc_X6_heirOf 53 (by decide) rfl rfl (c_X6_heirOf l G σ N v hI _) rfl rfl (Nat.le_of_ble_eq_true rfl) ⟨(Nat.le_of_ble_eq_true rfl), (Nat.le_of_ble_eq_true rfl)⟩ (qx_Ki ?_)
    refine qk_callV C dX6_heir_13 16 rfl ql_X6_155 qc_X6_orNone 53 (by decide) rfl rfl (c_X6_orNone l G _ (z_hr v p N) (fun b e => by have := z_hr_lt e; omega)) rfl rfl (Nat.le_of_ble_eq_true rfl) ⟨(Nat.le_of_ble_eq_true rfl), (Nat.le_of_ble_eq_true rfl)⟩ (qx_Ki ?_)
    refine qk_goto C dX6_heir_16 25 rfl ?_
    exact hret _ _ _ _ dX6_heir_25 (qMx_on (zif_t c_4) rfl mTr.rf.up qx_up_eq) rfl

theorem c_X6_gets (l : Launch) (G : qx_G) (σ : qx_Sg) (v : Nat → Int32) (b : Nat) (hb : b < 8) (p : Int32) : qx_Ct l G yX6_gets cX6_gets 3 (some .int) 2 43 [.ref (qx_ad G 53), .int (nI b), .int p] (va_up σ 54 v) (qx_pi (z_rc (v (32 + 7 * b + 2)) p) (va_up σ 54 (upd v (32 + 7 * b + 2) (z_rc (v (32 + 7 * b + 2)) p)))) := by
  refine qx_of .int (lo := [(0, .ref (qx_ad G 53)), (1, .int (nI b)), (2, .int p)]) (by decide +kernel) (Nat.le_of_ble_eq_true rfl) rfl (fun Δ (C : qx_C G Δ cX6_gets RX6 3 2 43) hret => ?_)
  refine qk_aloadn C dX6_gets_0 1 rfl rfl 0 rfl ?_
  refine qk_get C dX6_gets_1 4 rfl qf_X6_9 53 (by decide) rfl rfl ?_
  refine qk_iloadn C dX6_gets_4 5 rfl rfl 1 rfl ?_
  refine qk_iconst C (2) dX6_gets_5 6 rfl rfl ?_
  refine qk_callS C dX6_gets_6 9 rfl ql_X6_88 qc_X6_bustAt (c_X6_bustAt l G _ b 2 (by omega) (by omega)) rfl rfl (Nat.le_of_ble_eq_true rfl) ⟨(Nat.le_of_ble_eq_true rfl), (Nat.le_of_ble_eq_true rfl)⟩ (qx_Ki ?_)
  refine qk_dup2 C dX6_gets_9 10 rfl rfl rfl ?_
  refine qk_iald C dX6_gets_10 11 rfl 54 (by decide) (fun _ => rfl) (32 + 7 * b + 2) rfl (by omega) (by decide) ?_
  refine qk_cast (show _ = v (32 + 7 * b + 2) from rfl) ?_
  refine qk_iconst C (1) dX6_gets_11 12 rfl rfl ?_
  refine qk_iloadn C dX6_gets_12 13 rfl rfl 2 rfl ?_
  refine qk_ishl C dX6_gets_13 14 rfl ?_
  refine qk_ior C dX6_gets_14 15 rfl ?_
  refine qk_cast (show _ = z_rc (v (32 + 7 * b + 2)) p from rfl) ?_
  refine qk_iast C dX6_gets_15 16 rfl 54 (by decide) (fun _ => rfl) (32 + 7 * b + 2) rfl (by omega) (by decide) ?_
  refine qk_sg _ (m_w) ?_
  refine qk_aloadn C dX6_gets_16 17 rfl rfl 0 rfl ?_
  refine qk_iloadn C dX6_gets_17 18 rfl rfl 1 rfl ?_
  refine qk_iconst C (2) dX6_gets_18 19 rfl rfl ?_
  refine qk_callV C dX6_gets_19 22 rfl ql_X6_101 qc_X6_bustIs 53 (by decide) rfl rfl (c_X6_bustIs l G σ _ b 2 (by omega) (by omega)) rfl rfl (Nat.le_of_ble_eq_true rfl) ⟨(Nat.le_of_ble_eq_true rfl), (Nat.le_of_ble_eq_true rfl)⟩ (qx_Ki ?_)
  exact hret _ _ _ _ dX6_gets_22 ⟨congrArg (fun x => some (Value.int x)) (upd_eq), rfl⟩ rfl

theorem c_X6_give (l : Launch) (G : qx_G) (σ : qx_Sg) (N : Nat) (v : Nat → Int32) (hI : qv_ok v N) (b p : Int32) : qx_Ct l G yX6_give cX6_give 3 (some .int) 3 65 [.ref (qx_ad G 53), .int b, .int p] (va_up σ 54 v) (qMx σ (S_give N v b p)) := by
  refine qx_of .int (lo := [(0, .ref (qx_ad G 53)), (1, .int b), (2, .int p)]) (by decide +kernel) (Nat.le_of_ble_eq_true rfl) rfl (fun Δ (C : qx_C G Δ cX6_give RX6 3 3 65) hret => ?_)
  have hN8 := hI.1
  have hN1 := hI.2.1
  refine qk_aloadn C dX6_give_0 1 rfl rfl 0 rfl ?_
  refine qk_iloadn C dX6_give_1 2 rfl rfl 1 rfl ?_
  refine qk_callV C dX6_give_2 5 rfl ql_X6_137 qc_X6_isBust 53 (by decide) rfl rfl (c_X6_isBust l G σ N v hI _) rfl rfl (Nat.le_of_ble_eq_true rfl) ⟨(Nat.le_of_ble_eq_true rfl), (Nat.le_of_ble_eq_true rfl)⟩ (qx_Ki ?_)
  refine qk_if_eqB C dX6_give_5 15 rfl 8 rfl (fun c_5 => ?_) (fun c_5 => ?_)
  · refine qk_aloadn C dX6_give_15 16 rfl rfl 0 rfl ?_
    refine qk_ldc C dX6_give_16 18 rfl qw_947 ?_
    refine qk_callV C dX6_give_18 21 rfl ql_X6_66 qc_X6_finding 53 (by decide) rfl rfl (c_X6_finding l G _ _ 0 (by decide) (by decide)) rfl rfl (Nat.le_of_ble_eq_true rfl) ⟨(Nat.le_of_ble_eq_true rfl), (Nat.le_of_ble_eq_true rfl)⟩ (qx_Ki ?_)
    exact hret _ _ _ _ dX6_give_21 (qMx_bad 0 (zif_f (by first | exact fun q => c_5 q.1 | exact fun q => c_12 q.2)) rfl mTr.rf.up qx_up_eq) rfl
  · refine qk_iloadn C dX6_give_8 9 rfl rfl 2 rfl ?_
    refine qk_callS C dX6_give_9 12 rfl ql_X6_85 qc_X6_isPart (c_X6_isPart l G _ _) rfl rfl (Nat.le_of_ble_eq_true rfl) ⟨(Nat.le_of_ble_eq_true rfl), (Nat.le_of_ble_eq_true rfl)⟩ (qx_Ki ?_)
    refine qk_if_neB C dX6_give_12 22 rfl 15 rfl (fun c_12 => ?_) (fun c_12 => ?_)
    · obtain ⟨jb, hjb, rfl⟩ := z_ib_ex c_5 hN8
      obtain ⟨jp, hjp, rfl⟩ := z_in_ex 11 rfl (by omega) c_12
      refine qk_aloadn C dX6_give_22 23 rfl rfl 0 rfl ?_
      refine qk_iloadn C dX6_give_23 24 rfl rfl 1 rfl ?_
      refine qk_iloadn C dX6_give_24 25 rfl rfl 2 rfl ?_
      refine qk_callV C dX6_give_25 28 rfl ql_X6_104 qc_X6_has 53 (by decide) rfl rfl (c_X6_has l G σ v jb (by omega) _) rfl rfl (Nat.le_of_ble_eq_true rfl) ⟨(Nat.le_of_ble_eq_true rfl), (Nat.le_of_ble_eq_true rfl)⟩ (qx_Ki ?_)
      refine qk_if_neB C dX6_give_28 51 rfl 31 rfl (fun c_28 => ?_) (fun c_28 => ?_)
      · refine qk_aloadn C dX6_give_51 52 rfl rfl 0 rfl ?_
        refine qk_ldc C dX6_give_52 54 rfl qw_1069 ?_
        refine qk_callV C dX6_give_54 57 rfl ql_X6_66 qc_X6_finding 53 (by decide) rfl rfl (c_X6_finding l G _ _ 4 (by decide) (by decide)) rfl rfl (Nat.le_of_ble_eq_true rfl) ⟨(Nat.le_of_ble_eq_true rfl), (Nat.le_of_ble_eq_true rfl)⟩ (qx_Ki ?_)
        exact hret _ _ _ _ dX6_give_57 (qMx_bad 4 ((zif_t ⟨z_ib_nI hjb hN8, c_12⟩).trans (zif_t (by rw [zn_nI (show jb < 2 ^ 31 by omega), zn_nI (show jp < 2 ^ 31 by omega)]; first | exact Or.inl c_28 | exact Or.inr (Or.inl c_36) | exact Or.inr (Or.inr c_48)))) rfl mTr.rf.up qx_up_eq) rfl
      · refine qk_aloadn C dX6_give_31 32 rfl rfl 0 rfl ?_
        refine qk_iloadn C dX6_give_32 33 rfl rfl 1 rfl ?_
        refine qk_callV C dX6_give_33 36 rfl ql_X6_149 qc_X6_isGone 53 (by decide) rfl rfl (c_X6_isGone l G σ v jb (by omega)) rfl rfl (Nat.le_of_ble_eq_true rfl) ⟨(Nat.le_of_ble_eq_true rfl), (Nat.le_of_ble_eq_true rfl)⟩ (qx_Ki ?_)
        refine qk_if_neB C dX6_give_36 51 rfl 39 rfl (fun c_36 => ?_) (fun c_36 => ?_)
        · refine qk_aloadn C dX6_give_51 52 rfl rfl 0 rfl ?_
          refine qk_ldc C dX6_give_52 54 rfl qw_1069 ?_
          refine qk_callV C dX6_give_54 57 rfl ql_X6_66 qc_X6_finding 53 (by decide) rfl rfl (c_X6_finding l G _ _ 4 (by decide) (by decide)) rfl rfl (Nat.le_of_ble_eq_true rfl) ⟨(Nat.le_of_ble_eq_true rfl), (Nat.le_of_ble_eq_true rfl)⟩ (qx_Ki ?_)
          exact hret _ _ _ _ dX6_give_57 (qMx_bad 4 ((zif_t ⟨z_ib_nI hjb hN8, c_12⟩).trans (zif_t (by rw [zn_nI (show jb < 2 ^ 31 by omega), zn_nI (show jp < 2 ^ 31 by omega)]; first | exact Or.inl c_28 | exact Or.inr (Or.inl c_36) | exact Or.inr (Or.inr c_48)))) rfl mTr.rf.up qx_up_eq) rfl
        · refine qk_aloadn C dX6_give_39 40 rfl rfl 0 rfl ?_
          refine qk_get C dX6_give_40 43 rfl qf_X6_9 53 (by decide) rfl rfl ?_
          refine qk_bipush C (10) dX6_give_43 45 rfl rfl ?_
          refine qk_iloadn C dX6_give_45 46 rfl rfl 2 rfl ?_
          refine qk_iadd C dX6_give_46 47 rfl ?_
          refine qk_cast (show _ = nI (10 + jp) from by rw [show (10 : Int32) = nI 10 from rfl, nI_add]) ?_
          refine qk_iald C dX6_give_47 48 rfl 54 (by decide) (fun _ => rfl) (10 + jp) rfl (by omega) (by decide) ?_
          refine qk_cast (show _ = v (10 + jp) from rfl) ?_
          refine qk_if_ne C dX6_give_48 58 rfl 51 rfl (fun c_48 => ?_) (fun c_48 => ?_)
          · refine qk_aloadn C dX6_give_58 59 rfl rfl 0 rfl ?_
            refine qk_get C dX6_give_59 62 rfl qf_X6_9 53 (by decide) rfl rfl ?_
            refine qk_bipush C (10) dX6_give_62 64 rfl rfl ?_
            refine qk_iloadn C dX6_give_64 65 rfl rfl 2 rfl ?_
            refine qk_iadd C dX6_give_65 66 rfl ?_
            refine qk_cast (show _ = nI (10 + jp) from by rw [show (10 : Int32) = nI 10 from rfl, nI_add]) ?_
            refine qk_dup2 C dX6_give_66 67 rfl rfl rfl ?_
            refine qk_iald C dX6_give_67 68 rfl 54 (by decide) (fun _ => rfl) (10 + jp) rfl (by omega) (by decide) ?_
            refine qk_cast (show _ = v (10 + jp) from rfl) ?_
            refine qk_iconst C (1) dX6_give_68 69 rfl rfl ?_
            refine qk_isub C dX6_give_69 70 rfl ?_
            refine qk_iast C dX6_give_70 71 rfl 54 (by decide) (fun _ => rfl) (10 + jp) rfl (by omega) (by decide) ?_
            refine qk_sg _ (m_w) ?_
            refine qk_aloadn C dX6_give_71 72 rfl rfl 0 rfl ?_
            refine qk_iloadn C dX6_give_72 73 rfl rfl 1 rfl ?_
            refine qk_iloadn C dX6_give_73 74 rfl rfl 2 rfl ?_
            refine qk_callV C dX6_give_74 77 rfl ql_X6_159 qc_X6_gets 53 (by decide) rfl rfl (c_X6_gets l G σ _ jb (by omega) _) rfl rfl (Nat.le_of_ble_eq_true rfl) ⟨(Nat.le_of_ble_eq_true rfl), (Nat.le_of_ble_eq_true rfl)⟩ (qx_Ki ?_)
            exact hret _ _ _ _ dX6_give_77 (qMx_ok ((zif_t ⟨z_ib_nI hjb hN8, c_12⟩).trans ((zif_f (by rw [zn_nI (show jb < 2 ^ 31 by omega), zn_nI (show jp < 2 ^ 31 by omega)]; exact fun q => q.elim c_28 (fun q => q.elim c_36 c_48))).trans (by rw [zn_nI (show jb < 2 ^ 31 by omega), zn_nI (show jp < 2 ^ 31 by omega), ← show upd v (10 + jp) (v (10 + jp) - 1) (32 + 7 * jb + 2) = v (32 + 7 * jb + 2) from upd_ne (by omega)]))) rfl mTr.rf.up qx_up_eq) rfl
          · refine qk_aloadn C dX6_give_51 52 rfl rfl 0 rfl ?_
            refine qk_ldc C dX6_give_52 54 rfl qw_1069 ?_
            refine qk_callV C dX6_give_54 57 rfl ql_X6_66 qc_X6_finding 53 (by decide) rfl rfl (c_X6_finding l G _ _ 4 (by decide) (by decide)) rfl rfl (Nat.le_of_ble_eq_true rfl) ⟨(Nat.le_of_ble_eq_true rfl), (Nat.le_of_ble_eq_true rfl)⟩ (qx_Ki ?_)
            exact hret _ _ _ _ dX6_give_57 (qMx_bad 4 ((zif_t ⟨z_ib_nI hjb hN8, c_12⟩).trans (zif_t (by rw [zn_nI (show jb < 2 ^ 31 by omega), zn_nI (show jp < 2 ^ 31 by omega)]; first | exact Or.inl c_28 | exact Or.inr (Or.inl c_36) | exact Or.inr (Or.inr c_48)))) rfl mTr.rf.up qx_up_eq) rfl
    · refine qk_aloadn C dX6_give_15 16 rfl rfl 0 rfl ?_
      refine qk_ldc C dX6_give_16 18 rfl qw_947 ?_
      refine qk_callV C dX6_give_18 21 rfl ql_X6_66 qc_X6_finding 53 (by decide) rfl rfl (c_X6_finding l G _ _ 0 (by decide) (by decide)) rfl rfl (Nat.le_of_ble_eq_true rfl) ⟨(Nat.le_of_ble_eq_true rfl), (Nat.le_of_ble_eq_true rfl)⟩ (qx_Ki ?_)
      exact hret _ _ _ _ dX6_give_21 (qMx_bad 0 (zif_f (by first | exact fun q => c_5 q.1 | exact fun q => c_12 q.2)) rfl mTr.rf.up qx_up_eq) rfl

theorem c_X6_more (l : Launch) (G : qx_G) (σ : qx_Sg) (v : Nat → Int32) (j : Nat) (hj : j < 88) (x h : Int32) : qx_Ct l G yX6_more cX6_more 4 none 1 21 [.ref (qx_ad G 53), .int (nI j), .int x, .int h] (va_up σ 54 v) (qx_pv (va_up σ 54 (upd v j (qx_mn h (v j + x))))) := by
  refine qx_ofV (lo := [(0, .ref (qx_ad G 53)), (1, .int (nI j)), (2, .int x), (3, .int h)]) (by decide +kernel) (Nat.le_of_ble_eq_true rfl) rfl (fun Δ (C : qx_C G Δ cX6_more RX6 4 1 21) hret => ?_)
  refine qk_aloadn C dX6_more_0 1 rfl rfl 0 rfl ?_
  refine qk_get C dX6_more_1 4 rfl qf_X6_9 53 (by decide) rfl rfl ?_
  refine qk_iloadn C dX6_more_4 5 rfl rfl 1 rfl ?_
  refine qk_iloadn C dX6_more_5 6 rfl rfl 3 rfl ?_
  refine qk_aloadn C dX6_more_6 7 rfl rfl 0 rfl ?_
  refine qk_get C dX6_more_7 10 rfl qf_X6_9 53 (by decide) rfl rfl ?_
  refine qk_iloadn C dX6_more_10 11 rfl rfl 1 rfl ?_
  refine qk_iald C dX6_more_11 12 rfl 54 (by decide) (fun _ => rfl) (j) rfl (by omega) (by decide) ?_
  refine qk_cast (show _ = v (j) from rfl) ?_
  refine qk_iloadn C dX6_more_12 13 rfl rfl 2 rfl ?_
  refine qk_iadd C dX6_more_13 14 rfl ?_
  refine qk_min C dX6_more_14 17 rfl ql_X6_162 ⟨(Nat.le_of_ble_eq_true rfl), (Nat.le_of_ble_eq_true rfl)⟩ ?_
  refine qk_iast C dX6_more_17 18 rfl 54 (by decide) (fun _ => rfl) (j) rfl (by omega) (by decide) ?_
  refine qk_sg _ (m_w) ?_
  exact hret _ _ _ dX6_more_18 ⟨rfl, rfl⟩

theorem c_X6_wouldWalk (l : Launch) (G : qx_G) (σ : qx_Sg) (N : Nat) (v : Nat → Int32) (hI : qv_ok v N) (b : Nat) (hb : b < N) : qx_Ct l G yX6_wouldWalk cX6_wouldWalk 2 (some .boolean) 3 65 [.ref (qx_ad G 53), .int (nI b)] (va_up σ 54 v) (qx_pi (qb (z_ww (z_row v b))) (va_up σ 54 v)) := by
  refine qx_of .boolean (lo := [(0, .ref (qx_ad G 53)), (1, .int (nI b))]) (by decide +kernel) (Nat.le_of_ble_eq_true rfl) rfl (fun Δ (C : qx_C G Δ cX6_wouldWalk RX6 2 3 65) hret => ?_)
  have hN8 := hI.1
  have hN1 := hI.2.1
  refine qk_aloadn C dX6_wouldWalk_0 1 rfl rfl 0 rfl ?_
  refine qk_iloadn C dX6_wouldWalk_1 2 rfl rfl 1 rfl ?_
  refine qk_callV C dX6_wouldWalk_2 5 rfl ql_X6_149 qc_X6_isGone 53 (by decide) rfl rfl (c_X6_isGone l G σ v b (by omega)) rfl rfl (Nat.le_of_ble_eq_true rfl) ⟨(Nat.le_of_ble_eq_true rfl), (Nat.le_of_ble_eq_true rfl)⟩ (qx_Ki ?_)
  refine qk_if_neB C dX6_wouldWalk_5 45 rfl 8 rfl (fun c_5 => ?_) (fun c_5 => ?_)
  · refine qk_iconst C (0) dX6_wouldWalk_45 46 rfl rfl ?_
    exact hret _ _ _ _ dX6_wouldWalk_46 ⟨congrArg (fun x => some (Value.int x)) ((qb_f (by first | exact ⟨c_19, c_29, c_38, ((hI.2.2.2.2.1 b hb).2.2).resolve_right c_5⟩ | exact fun q => absurd (q.2.2.2.symm.trans c_5) (by decide) | exact fun q => q.1 c_19 | exact fun q => c_29 q.2.1 | exact fun q => c_38 q.2.2.1)).symm), rfl⟩ rfl
  · refine qk_aloadn C dX6_wouldWalk_8 9 rfl rfl 0 rfl ?_
    refine qk_iloadn C dX6_wouldWalk_9 10 rfl rfl 1 rfl ?_
    refine qk_iconst C (4) dX6_wouldWalk_10 11 rfl rfl ?_
    refine qk_callV C dX6_wouldWalk_11 14 rfl ql_X6_101 qc_X6_bustIs 53 (by decide) rfl rfl (c_X6_bustIs l G σ v b 4 (by omega) (by omega)) rfl rfl (Nat.le_of_ble_eq_true rfl) ⟨(Nat.le_of_ble_eq_true rfl), (Nat.le_of_ble_eq_true rfl)⟩ (qx_Ki ?_)
    refine qk_aloadn C dX6_wouldWalk_14 15 rfl rfl 0 rfl ?_
    refine qk_iloadn C dX6_wouldWalk_15 16 rfl rfl 1 rfl ?_
    refine qk_callV C dX6_wouldWalk_16 19 rfl ql_X6_128 qc_X6_leavesWith 53 (by decide) rfl rfl (c_X6_leavesWith l G σ v b (by omega)) rfl rfl (Nat.le_of_ble_eq_true rfl) ⟨(Nat.le_of_ble_eq_true rfl), (Nat.le_of_ble_eq_true rfl)⟩ (qx_Ki ?_)
    refine qk_icmp_lt C dX6_wouldWalk_19 45 rfl 22 rfl (fun c_19 => ?_) (fun c_19 => ?_)
    · refine qk_iconst C (0) dX6_wouldWalk_45 46 rfl rfl ?_
      exact hret _ _ _ _ dX6_wouldWalk_46 ⟨congrArg (fun x => some (Value.int x)) ((qb_f (by first | exact ⟨c_19, c_29, c_38, ((hI.2.2.2.2.1 b hb).2.2).resolve_right c_5⟩ | exact fun q => absurd (q.2.2.2.symm.trans c_5) (by decide) | exact fun q => q.1 c_19 | exact fun q => c_29 q.2.1 | exact fun q => c_38 q.2.2.1)).symm), rfl⟩ rfl
    · refine qk_aloadn C dX6_wouldWalk_22 23 rfl rfl 0 rfl ?_
      refine qk_iloadn C dX6_wouldWalk_23 24 rfl rfl 1 rfl ?_
      refine qk_bipush C (11) dX6_wouldWalk_24 26 rfl rfl ?_
      refine qk_callV C dX6_wouldWalk_26 29 rfl ql_X6_104 qc_X6_has 53 (by decide) rfl rfl (c_X6_has l G σ v b (by omega) _) rfl rfl (Nat.le_of_ble_eq_true rfl) ⟨(Nat.le_of_ble_eq_true rfl), (Nat.le_of_ble_eq_true rfl)⟩ (qx_Ki ?_)
      refine qk_if_eqB C dX6_wouldWalk_29 45 rfl 32 rfl (fun c_29 => ?_) (fun c_29 => ?_)
      · refine qk_iconst C (0) dX6_wouldWalk_45 46 rfl rfl ?_
        exact hret _ _ _ _ dX6_wouldWalk_46 ⟨congrArg (fun x => some (Value.int x)) ((qb_f (by first | exact ⟨c_19, c_29, c_38, ((hI.2.2.2.2.1 b hb).2.2).resolve_right c_5⟩ | exact fun q => absurd (q.2.2.2.symm.trans c_5) (by decide) | exact fun q => q.1 c_19 | exact fun q => c_29 q.2.1 | exact fun q => c_38 q.2.2.1)).symm), rfl⟩ rfl
      · refine qk_aloadn C dX6_wouldWalk_32 33 rfl rfl 0 rfl ?_
        refine qk_iloadn C dX6_wouldWalk_33 34 rfl rfl 1 rfl ?_
        refine qk_iconst C (5) dX6_wouldWalk_34 35 rfl rfl ?_
        refine qk_callV C dX6_wouldWalk_35 38 rfl ql_X6_101 qc_X6_bustIs 53 (by decide) rfl rfl (c_X6_bustIs l G σ v b 5 (by omega) (by omega)) rfl rfl (Nat.le_of_ble_eq_true rfl) ⟨(Nat.le_of_ble_eq_true rfl), (Nat.le_of_ble_eq_true rfl)⟩ (qx_Ki ?_)
        refine qk_if_ne C dX6_wouldWalk_38 45 rfl 41 rfl (fun c_38 => ?_) (fun c_38 => ?_)
        · refine qk_iconst C (0) dX6_wouldWalk_45 46 rfl rfl ?_
          exact hret _ _ _ _ dX6_wouldWalk_46 ⟨congrArg (fun x => some (Value.int x)) ((qb_f (by first | exact ⟨c_19, c_29, c_38, ((hI.2.2.2.2.1 b hb).2.2).resolve_right c_5⟩ | exact fun q => absurd (q.2.2.2.symm.trans c_5) (by decide) | exact fun q => q.1 c_19 | exact fun q => c_29 q.2.1 | exact fun q => c_38 q.2.2.1)).symm), rfl⟩ rfl
        · refine qk_iconst C (1) dX6_wouldWalk_41 42 rfl rfl ?_
          refine qk_goto C dX6_wouldWalk_42 46 rfl ?_
          exact hret _ _ _ _ dX6_wouldWalk_46 ⟨congrArg (fun x => some (Value.int x)) ((qb_t (by first | exact ⟨c_19, c_29, c_38, ((hI.2.2.2.2.1 b hb).2.2).resolve_right c_5⟩ | exact fun q => absurd (q.2.2.2.symm.trans c_5) (by decide) | exact fun q => q.1 c_19 | exact fun q => c_29 q.2.1 | exact fun q => c_38 q.2.2.1)).symm), rfl⟩ rfl

theorem c_X6_yearnsOn (l : Launch) (G : qx_G) (σ : qx_Sg) (N : Nat) (v : Nat → Int32) (hI : qv_ok v N) (b : Nat) (hb : b < N) : qx_Ct l G yX6_yearnsOn cX6_yearnsOn 2 none 5 109 [.ref (qx_ad G 53), .int (nI b)] (va_up σ 54 v) (qx_pv (va_up σ 54 (z_dB v b))) := by
  refine qx_ofV (lo := [(0, .ref (qx_ad G 53)), (1, .int (nI b))]) (by decide +kernel) (Nat.le_of_ble_eq_true rfl) rfl (fun Δ (C : qx_C G Δ cX6_yearnsOn RX6 2 5 109) hret => ?_)
  have hN8 := hI.1
  have hN1 := hI.2.1
  refine qk_aloadn C dX6_yearnsOn_0 1 rfl rfl 0 rfl ?_
  refine qk_iloadn C dX6_yearnsOn_1 2 rfl rfl 1 rfl ?_
  refine qk_iconst C (4) dX6_yearnsOn_2 3 rfl rfl ?_
  refine qk_callS C dX6_yearnsOn_3 6 rfl ql_X6_88 qc_X6_bustAt (c_X6_bustAt l G _ b 4 (by omega) (by omega)) rfl rfl (Nat.le_of_ble_eq_true rfl) ⟨(Nat.le_of_ble_eq_true rfl), (Nat.le_of_ble_eq_true rfl)⟩ (qx_Ki ?_)
  refine qk_aloadn C dX6_yearnsOn_6 7 rfl rfl 0 rfl ?_
  refine qk_iloadn C dX6_yearnsOn_7 8 rfl rfl 1 rfl ?_
  refine qk_callV C dX6_yearnsOn_8 11 rfl ql_X6_125 qc_X6_yearns 53 (by decide) rfl rfl (c_X6_yearns l G σ N v hI b hb) rfl rfl (Nat.le_of_ble_eq_true rfl) ⟨(Nat.le_of_ble_eq_true rfl), (Nat.le_of_ble_eq_true rfl)⟩ (qx_Ki ?_)
  refine qk_bipush C (99) dX6_yearnsOn_11 13 rfl rfl ?_
  refine qk_callV C dX6_yearnsOn_13 16 rfl ql_X6_165 qc_X6_more 53 (by decide) rfl rfl (c_X6_more l G σ v (32 + 7 * b + 4) (by omega) _ _) rfl rfl (Nat.le_of_ble_eq_true rfl) ⟨(Nat.le_of_ble_eq_true rfl), (Nat.le_of_ble_eq_true rfl)⟩ (qx_Kv ?_)
  refine qk_sg (va_up σ 54 (z_d1 v b)) rfl ?_
  refine qk_aloadn C dX6_yearnsOn_16 17 rfl rfl 0 rfl ?_
  refine qk_iloadn C dX6_yearnsOn_17 18 rfl rfl 1 rfl ?_
  refine qk_callV C dX6_yearnsOn_18 21 rfl ql_X6_169 qc_X6_wouldWalk 53 (by decide) rfl rfl (c_X6_wouldWalk l G σ N (z_d1 v b) (qv_d1 hI hb) b hb) rfl rfl (Nat.le_of_ble_eq_true rfl) ⟨(Nat.le_of_ble_eq_true rfl), (Nat.le_of_ble_eq_true rfl)⟩ (qx_Ki ?_)
  refine qk_if_eqB C dX6_yearnsOn_21 72 rfl 24 rfl (fun c_21 => ?_) (fun c_21 => ?_)
  · exact hret _ _ _ dX6_yearnsOn_72 ⟨rfl, congrArg (va_up σ 54) (z_selr_f c_21).symm⟩
  · refine qk_aloadn C dX6_yearnsOn_24 25 rfl rfl 0 rfl ?_
    refine qk_iloadn C dX6_yearnsOn_25 26 rfl rfl 1 rfl ?_
    refine qk_iconst C (3) dX6_yearnsOn_26 27 rfl rfl ?_
    refine qk_callS C dX6_yearnsOn_27 30 rfl ql_X6_88 qc_X6_bustAt (c_X6_bustAt l G _ b 3 (by omega) (by omega)) rfl rfl (Nat.le_of_ble_eq_true rfl) ⟨(Nat.le_of_ble_eq_true rfl), (Nat.le_of_ble_eq_true rfl)⟩ (qx_Ki ?_)
    refine qk_aloadn C dX6_yearnsOn_30 31 rfl rfl 0 rfl ?_
    refine qk_iloadn C dX6_yearnsOn_31 32 rfl rfl 1 rfl ?_
    refine qk_callV C dX6_yearnsOn_32 35 rfl ql_X6_131 qc_X6_steps 53 (by decide) rfl rfl (c_X6_steps l G σ (z_d1 v b) b (by omega)) rfl rfl (Nat.le_of_ble_eq_true rfl) ⟨(Nat.le_of_ble_eq_true rfl), (Nat.le_of_ble_eq_true rfl)⟩ (qx_Ki ?_)
    refine qk_bipush C (15) dX6_yearnsOn_35 37 rfl rfl ?_
    refine qk_callV C dX6_yearnsOn_37 40 rfl ql_X6_165 qc_X6_more 53 (by decide) rfl rfl (c_X6_more l G σ (z_d1 v b) (32 + 7 * b + 3) (by omega) _ _) rfl rfl (Nat.le_of_ble_eq_true rfl) ⟨(Nat.le_of_ble_eq_true rfl), (Nat.le_of_ble_eq_true rfl)⟩ (qx_Kv ?_)
    refine qk_sg (va_up σ 54 (z_d2 (z_d1 v b) b)) rfl ?_
    refine qk_aloadn C dX6_yearnsOn_40 41 rfl rfl 0 rfl ?_
    refine qk_iloadn C dX6_yearnsOn_41 42 rfl rfl 1 rfl ?_
    refine qk_iconst C (3) dX6_yearnsOn_42 43 rfl rfl ?_
    refine qk_callV C dX6_yearnsOn_43 46 rfl ql_X6_101 qc_X6_bustIs 53 (by decide) rfl rfl (c_X6_bustIs l G σ (z_d2 (z_d1 v b) b) b 3 (by omega) (by omega)) rfl rfl (Nat.le_of_ble_eq_true rfl) ⟨(Nat.le_of_ble_eq_true rfl), (Nat.le_of_ble_eq_true rfl)⟩ (qx_Ki ?_)
    refine qk_bipush C (15) dX6_yearnsOn_46 48 rfl rfl ?_
    refine qk_icmp_ne C dX6_yearnsOn_48 72 rfl 51 rfl (fun c_48 => ?_) (fun c_48 => ?_)
    · exact hret _ _ _ dX6_yearnsOn_72 ⟨rfl, congrArg (va_up σ 54) ((z_selr_t c_21).trans (z_selr_f c_48)).symm⟩
    · refine qk_aloadn C dX6_yearnsOn_51 52 rfl rfl 0 rfl ?_
      refine qk_get C dX6_yearnsOn_52 55 rfl qf_X6_9 53 (by decide) rfl rfl ?_
      refine qk_iloadn C dX6_yearnsOn_55 56 rfl rfl 1 rfl ?_
      refine qk_bipush C (6) dX6_yearnsOn_56 58 rfl rfl ?_
      refine qk_callS C dX6_yearnsOn_58 61 rfl ql_X6_88 qc_X6_bustAt (c_X6_bustAt l G _ b 6 (by omega) (by omega)) rfl rfl (Nat.le_of_ble_eq_true rfl) ⟨(Nat.le_of_ble_eq_true rfl), (Nat.le_of_ble_eq_true rfl)⟩ (qx_Ki ?_)
      refine qk_iconst C (1) dX6_yearnsOn_61 62 rfl rfl ?_
      refine qk_iast C dX6_yearnsOn_62 63 rfl 54 (by decide) (fun _ => rfl) (32 + 7 * b + 6) rfl (by omega) (by decide) ?_
      refine qk_sg _ (m_w) ?_
      refine qk_aloadn C dX6_yearnsOn_63 64 rfl rfl 0 rfl ?_
      refine qk_iconst C (3) dX6_yearnsOn_64 65 rfl rfl ?_
      refine qk_iconst C (1) dX6_yearnsOn_65 66 rfl rfl ?_
      refine qk_sipush C (9999) dX6_yearnsOn_66 69 rfl rfl ?_
      refine qk_callV C dX6_yearnsOn_69 72 rfl ql_X6_165 qc_X6_more 53 (by decide) rfl rfl (c_X6_more l G σ _ 3 (by omega) _ _) rfl rfl (Nat.le_of_ble_eq_true rfl) ⟨(Nat.le_of_ble_eq_true rfl), (Nat.le_of_ble_eq_true rfl)⟩ (qx_Kv ?_)
      exact hret _ _ _ dX6_yearnsOn_72 ⟨rfl, congrArg (va_up σ 54) ((z_selr_t c_21).trans (z_selr_t c_48)).symm⟩

theorem c_X6_placeNow (l : Launch) (G : qx_G) (σ : qx_Sg) (N : Nat) (v : Nat → Int32) (hI : qv_ok v N) : qx_Ct l G yX6_placeNow cX6_placeNow 1 (some .int) 0 0 [.ref (qx_ad G 53)] (va_up σ 54 v) (qx_pi (nI (4 + z_dd v)) (va_up σ 54 v)) := by
  refine qx_of .int (lo := [(0, .ref (qx_ad G 53))]) (by decide +kernel) (Nat.le_of_ble_eq_true rfl) rfl (fun Δ (C : qx_C G Δ cX6_placeNow RX6 1 0 0) hret => ?_)
  have hN8 := hI.1
  have hN1 := hI.2.1
  obtain ⟨d, hd, ed⟩ := hI.2.2.1
  have hdd : z_dd v = d % 6 := z_dd_of ed hd
  refine qk_iconst C (4) dX6_placeNow_0 1 rfl rfl ?_
  refine qk_aloadn C dX6_placeNow_1 2 rfl rfl 0 rfl ?_
  refine qk_get C dX6_placeNow_2 5 rfl qf_X6_9 53 (by decide) rfl rfl ?_
  refine qk_iconst C (0) dX6_placeNow_5 6 rfl rfl ?_
  refine qk_iald C dX6_placeNow_6 7 rfl 54 (by decide) (fun _ => rfl) (0) rfl (by omega) (by decide) ?_
  refine qk_cast (ed) ?_
  refine qk_bipush C (nI 6) dX6_placeNow_7 9 rfl rfl ?_
  refine qk_irem C dX6_placeNow_9 10 rfl (nI_ne0 (by omega) (by omega)) ?_
  refine qk_cast ((pk_rem (by omega) (by omega) (by omega)).trans (congrArg nI hdd.symm)) ?_
  refine qk_iadd C dX6_placeNow_10 11 rfl ?_
  refine qk_cast (show _ = nI (4 + z_dd v) from by rw [show (4 : Int32) = nI 4 from rfl, nI_add]) ?_
  exact hret _ _ _ _ dX6_placeNow_11 ⟨congrArg (fun x => some (Value.int x)) (by first | rfl | (simp []; done) | (simp []; decide) | (simp []; rfl) | (simp_all []; done)), rfl⟩ rfl

theorem c_X6_day (l : Launch) (G : qx_G) (σ : qx_Sg) (N : Nat) (v : Nat → Int32) (hI : qv_ok v N) : qx_Ct l G yX6_day cX6_day 3 none 6 133 [.ref (qx_ad G 53)] (va_up σ 54 v) (qx_pv (va_up σ 54 (z_day v N))) := by
  refine qx_ofV (lo := [(0, .ref (qx_ad G 53))]) (by decide +kernel) (Nat.le_of_ble_eq_true rfl) rfl (fun Δ (C : qx_C G Δ cX6_day RX6 3 6 133) hret => ?_)
  have hN8 := hI.1
  have hN1 := hI.2.1
  have hdd : z_dd v < 6 := Nat.mod_lt _ (by omega)
  obtain ⟨q, hq, eq⟩ := hI.2.2.2.1 (z_dd v) hdd
  have hdq : z_dq v = q := by unfold z_dq; rw [eq, nI_clamp (by omega)]
  rw [← hdq] at eq hq
  refine qk_aloadn C dX6_day_0 1 rfl rfl 0 rfl ?_
  refine qk_get C dX6_day_1 4 rfl qf_X6_9 53 (by decide) rfl rfl ?_
  refine qk_aloadn C dX6_day_4 5 rfl rfl 0 rfl ?_
  refine qk_callV C dX6_day_5 8 rfl ql_X6_172 qc_X6_placeNow 53 (by decide) rfl rfl (c_X6_placeNow l G σ N v hI) rfl rfl (Nat.le_of_ble_eq_true rfl) ⟨(Nat.le_of_ble_eq_true rfl), (Nat.le_of_ble_eq_true rfl)⟩ (qx_Ki ?_)
  refine qk_iald C dX6_day_8 9 rfl 54 (by decide) (fun _ => rfl) (4 + z_dd v) rfl (by omega) (by decide) ?_
  refine qk_cast (eq) ?_
  refine qk_istoren C dX6_day_9 10 rfl rfl (by decide) rfl ?_
  refine qk_iloadn C dX6_day_10 11 rfl rfl 0 rfl ?_
  refine qk_bipush C (nI 12) dX6_day_11 13 rfl rfl ?_
  refine qk_icmp_ge C dX6_day_13 47 rfl 16 rfl (fun c_13 => ?_) (fun c_13 => ?_)
  · have h12 : 12 ≤ z_dq v := (nI_leI (by omega) (by omega)).mp c_13
    refine qk_sg (va_up σ 54 (z_be v N (z_dq v))) (congrArg (va_up σ 54) (if_pos h12).symm) ?_
    refine qk_iconst C (nI 0) dX6_day_47 48 rfl rfl ?_
    refine qk_istoren C dX6_day_48 49 rfl rfl (by decide) rfl ?_
    have lp_49 : ∀ (n_49 : Nat) (i : Nat), i ≤ N → N - i < n_49 → qx_K l G Δ (va_up σ 54 (z_dF (z_be v N (z_dq v)) i)) 49 [(2, .int (nI i)), (0, .ref (qx_ad G 53))] [] := by
      intro n_49
      induction n_49 with
      | zero => intro _ _ h9; exact absurd h9 (Nat.not_lt_zero _)
      | succ n_49 ih_49 =>
        intro i hi hm_49
        have hJ := qv_dF (qv_be (q := z_dq v) hI) i hi
        refine qk_iloadn C dX6_day_49 50 rfl rfl 0 rfl ?_
        refine qk_aloadn C dX6_day_50 51 rfl rfl 1 rfl ?_
        refine qk_get C dX6_day_51 54 rfl qf_X6_9 53 (by decide) rfl rfl ?_
        refine qk_iconst C (1) dX6_day_54 55 rfl rfl ?_
        refine qk_iald C dX6_day_55 56 rfl 54 (by decide) (fun _ => rfl) 1 rfl (by omega) (by decide) ?_
        refine qk_cast (hJ.2.1) ?_
        refine qk_icmp_ge C dX6_day_56 78 rfl 59 rfl (fun c_56 => ?_) (fun c_56 => ?_)
        · have hiN : N ≤ i := (nI_leI (by omega) (by omega)).mp c_56
          have hie : i = N := by omega
          refine qk_aloadn C dX6_day_78 79 rfl rfl 1 rfl ?_
          refine qk_iconst C (0) dX6_day_79 80 rfl rfl ?_
          refine qk_iconst C (1) dX6_day_80 81 rfl rfl ?_
          refine qk_ldc C dX6_day_81 83 rfl qw_1078 ?_
          refine qk_callV C dX6_day_83 86 rfl ql_X6_165 qc_X6_more 53 (by decide) rfl rfl (c_X6_more l G σ _ 0 (by omega) _ _) rfl rfl (Nat.le_of_ble_eq_true rfl) ⟨(Nat.le_of_ble_eq_true rfl), (Nat.le_of_ble_eq_true rfl)⟩ (qx_Kv ?_)
          exact hret _ _ _ dX6_day_86 ⟨rfl, by rw [hie]; rfl⟩
        · have hiN : i < N := Nat.not_le.mp (fun q => c_56 (nI_le q (by omega)))
          refine qk_aloadn C dX6_day_59 60 rfl rfl 1 rfl ?_
          refine qk_iloadn C dX6_day_60 61 rfl rfl 0 rfl ?_
          refine qk_callV C dX6_day_61 64 rfl ql_X6_149 qc_X6_isGone 53 (by decide) rfl rfl (c_X6_isGone l G σ _ i (by omega)) rfl rfl (Nat.le_of_ble_eq_true rfl) ⟨(Nat.le_of_ble_eq_true rfl), (Nat.le_of_ble_eq_true rfl)⟩ (qx_Ki ?_)
          refine qk_if_neB C dX6_day_64 72 rfl 67 rfl (fun c_64 => ?_) (fun c_64 => ?_)
          · refine qk_sg (va_up σ 54 (z_dF (z_be v N (z_dq v)) (i + 1))) (congrArg (va_up σ 54) (z_selr_f (fun q => absurd (q.symm.trans c_64) (by decide))).symm) ?_
            refine qk_iinc C (nI (i + 1)) dX6_day_72 75 rfl 0 rfl (nI_1 i) (by decide) rfl ?_
            refine qk_goto C dX6_day_75 49 rfl ?_
            exact ih_49 (i + 1) (by omega) (by omega)
          · refine qk_aloadn C dX6_day_67 68 rfl rfl 1 rfl ?_
            refine qk_iloadn C dX6_day_68 69 rfl rfl 0 rfl ?_
            refine qk_callV C dX6_day_69 72 rfl ql_X6_176 qc_X6_yearnsOn 53 (by decide) rfl rfl (c_X6_yearnsOn l G σ N _ hJ i hiN) rfl rfl (Nat.le_of_ble_eq_true rfl) ⟨(Nat.le_of_ble_eq_true rfl), (Nat.le_of_ble_eq_true rfl)⟩ (qx_Kv ?_)
            refine qk_sg (va_up σ 54 (z_dF (z_be v N (z_dq v)) (i + 1))) (congrArg (va_up σ 54) (z_selr_t ((hJ.2.2.2.2.1 i hiN).2.2.resolve_right c_64)).symm) ?_
            refine qk_iinc C (nI (i + 1)) dX6_day_72 75 rfl 0 rfl (nI_1 i) (by decide) rfl ?_
            refine qk_goto C dX6_day_75 49 rfl ?_
            exact ih_49 (i + 1) (by omega) (by omega)
    exact qk_lo [0, 2] rfl (lp_49 _ 0 (by omega) (Nat.lt_succ_self _))
  · have h12 : z_dq v < 12 := Nat.not_le.mp (fun q => c_13 (nI_le q (by omega)))
    refine qk_aloadn C dX6_day_16 17 rfl rfl 1 rfl ?_
    refine qk_iloadn C dX6_day_17 18 rfl rfl 0 rfl ?_
    refine qk_callV C dX6_day_18 21 rfl ql_X6_152 qc_X6_heirOf 53 (by decide) rfl rfl (c_X6_heirOf l G σ N v hI _) rfl rfl (Nat.le_of_ble_eq_true rfl) ⟨(Nat.le_of_ble_eq_true rfl), (Nat.le_of_ble_eq_true rfl)⟩ (qx_Ki ?_)
    have hbe : z_be v N (z_dq v) = z_bq v (z_dq v) (z_hr v (nI (z_dq v)) N) := if_neg (by omega)
    rcases hz : z_hr v (nI (z_dq v)) N with _ | h
    · rw [hz] at hbe
      refine qk_cast (show _ = -1 from rfl) ?_
      refine qk_istoren C dX6_day_21 22 rfl rfl (by decide) rfl ?_
      refine qk_iloadn C dX6_day_22 23 rfl rfl 0 rfl ?_
      refine qk_if_ge C dX6_day_23 40 rfl 26 rfl (fun c => absurd c (by decide)) (fun _ => ?_)
      refine qk_aloadn C dX6_day_26 27 rfl rfl 2 rfl ?_
      refine qk_bipush C (10) dX6_day_27 29 rfl rfl ?_
      refine qk_iloadn C dX6_day_29 30 rfl rfl 1 rfl ?_
      refine qk_iadd C dX6_day_30 31 rfl ?_
      refine qk_cast (show _ = nI (10 + z_dq v) from by rw [show (10 : Int32) = nI 10 from rfl, nI_add]) ?_
      refine qk_iconst C (1) dX6_day_31 32 rfl rfl ?_
      refine qk_bipush C (99) dX6_day_32 34 rfl rfl ?_
      refine qk_callV C dX6_day_34 37 rfl ql_X6_165 qc_X6_more 53 (by decide) rfl rfl (c_X6_more l G σ v (10 + z_dq v) (by omega) _ _) rfl rfl (Nat.le_of_ble_eq_true rfl) ⟨(Nat.le_of_ble_eq_true rfl), (Nat.le_of_ble_eq_true rfl)⟩ (qx_Kv ?_)
      refine qk_sg (va_up σ 54 (z_be v N (z_dq v))) (congrArg (va_up σ 54) hbe.symm) ?_
      refine qk_goto C dX6_day_37 47 rfl ?_
      refine qk_iconst C (nI 0) dX6_day_47 48 rfl rfl ?_
      refine qk_istoren C dX6_day_48 49 rfl rfl (by decide) rfl ?_
      have lp_49 : ∀ (n_49 : Nat) (i : Nat), i ≤ N → N - i < n_49 → qx_K l G Δ (va_up σ 54 (z_dF (z_be v N (z_dq v)) i)) 49 [(2, .int (nI i)), (0, .ref (qx_ad G 53))] [] := by
        intro n_49
        induction n_49 with
        | zero => intro _ _ h9; exact absurd h9 (Nat.not_lt_zero _)
        | succ n_49 ih_49 =>
          intro i hi hm_49
          have hJ := qv_dF (qv_be (q := z_dq v) hI) i hi
          refine qk_iloadn C dX6_day_49 50 rfl rfl 0 rfl ?_
          refine qk_aloadn C dX6_day_50 51 rfl rfl 1 rfl ?_
          refine qk_get C dX6_day_51 54 rfl qf_X6_9 53 (by decide) rfl rfl ?_
          refine qk_iconst C (1) dX6_day_54 55 rfl rfl ?_
          refine qk_iald C dX6_day_55 56 rfl 54 (by decide) (fun _ => rfl) 1 rfl (by omega) (by decide) ?_
          refine qk_cast (hJ.2.1) ?_
          refine qk_icmp_ge C dX6_day_56 78 rfl 59 rfl (fun c_56 => ?_) (fun c_56 => ?_)
          · have hiN : N ≤ i := (nI_leI (by omega) (by omega)).mp c_56
            have hie : i = N := by omega
            refine qk_aloadn C dX6_day_78 79 rfl rfl 1 rfl ?_
            refine qk_iconst C (0) dX6_day_79 80 rfl rfl ?_
            refine qk_iconst C (1) dX6_day_80 81 rfl rfl ?_
            refine qk_ldc C dX6_day_81 83 rfl qw_1078 ?_
            refine qk_callV C dX6_day_83 86 rfl ql_X6_165 qc_X6_more 53 (by decide) rfl rfl (c_X6_more l G σ _ 0 (by omega) _ _) rfl rfl (Nat.le_of_ble_eq_true rfl) ⟨(Nat.le_of_ble_eq_true rfl), (Nat.le_of_ble_eq_true rfl)⟩ (qx_Kv ?_)
            exact hret _ _ _ dX6_day_86 ⟨rfl, by rw [hie]; rfl⟩
          · have hiN : i < N := Nat.not_le.mp (fun q => c_56 (nI_le q (by omega)))
            refine qk_aloadn C dX6_day_59 60 rfl rfl 1 rfl ?_
            refine qk_iloadn C dX6_day_60 61 rfl rfl 0 rfl ?_
            refine qk_callV C dX6_day_61 64 rfl ql_X6_149 qc_X6_isGone 53 (by decide) rfl rfl (c_X6_isGone l G σ _ i (by omega)) rfl rfl (Nat.le_of_ble_eq_true rfl) ⟨(Nat.le_of_ble_eq_true rfl), (Nat.le_of_ble_eq_true rfl)⟩ (qx_Ki ?_)
            refine qk_if_neB C dX6_day_64 72 rfl 67 rfl (fun c_64 => ?_) (fun c_64 => ?_)
            · refine qk_sg (va_up σ 54 (z_dF (z_be v N (z_dq v)) (i + 1))) (congrArg (va_up σ 54) (z_selr_f (fun q => absurd (q.symm.trans c_64) (by decide))).symm) ?_
              refine qk_iinc C (nI (i + 1)) dX6_day_72 75 rfl 0 rfl (nI_1 i) (by decide) rfl ?_
              refine qk_goto C dX6_day_75 49 rfl ?_
              exact ih_49 (i + 1) (by omega) (by omega)
            · refine qk_aloadn C dX6_day_67 68 rfl rfl 1 rfl ?_
              refine qk_iloadn C dX6_day_68 69 rfl rfl 0 rfl ?_
              refine qk_callV C dX6_day_69 72 rfl ql_X6_176 qc_X6_yearnsOn 53 (by decide) rfl rfl (c_X6_yearnsOn l G σ N _ hJ i hiN) rfl rfl (Nat.le_of_ble_eq_true rfl) ⟨(Nat.le_of_ble_eq_true rfl), (Nat.le_of_ble_eq_true rfl)⟩ (qx_Kv ?_)
              refine qk_sg (va_up σ 54 (z_dF (z_be v N (z_dq v)) (i + 1))) (congrArg (va_up σ 54) (z_selr_t ((hJ.2.2.2.2.1 i hiN).2.2.resolve_right c_64)).symm) ?_
              refine qk_iinc C (nI (i + 1)) dX6_day_72 75 rfl 0 rfl (nI_1 i) (by decide) rfl ?_
              refine qk_goto C dX6_day_75 49 rfl ?_
              exact ih_49 (i + 1) (by omega) (by omega)
      exact qk_lo [0, 2] rfl (lp_49 _ 0 (by omega) (Nat.lt_succ_self _))
    · rw [hz] at hbe
      have hh := z_hr_lt hz
      refine qk_cast (show _ = nI h from rfl) ?_
      refine qk_istoren C dX6_day_21 22 rfl rfl (by decide) rfl ?_
      refine qk_iloadn C dX6_day_22 23 rfl rfl 0 rfl ?_
      refine qk_if_ge C dX6_day_23 40 rfl 26 rfl (fun c_23 => ?_) (fun c_23 => absurd (nI_pos' (by omega)) c_23)
      refine qk_aloadn C dX6_day_40 41 rfl rfl 2 rfl ?_
      refine qk_iloadn C dX6_day_41 42 rfl rfl 0 rfl ?_
      refine qk_iloadn C dX6_day_42 43 rfl rfl 1 rfl ?_
      refine qk_callV C dX6_day_43 46 rfl ql_X6_159 qc_X6_gets 53 (by decide) rfl rfl (c_X6_gets l G σ v h (by omega) _) rfl rfl (Nat.le_of_ble_eq_true rfl) ⟨(Nat.le_of_ble_eq_true rfl), (Nat.le_of_ble_eq_true rfl)⟩ (qx_Ki ?_)
      refine qk_sg (va_up σ 54 (z_be v N (z_dq v))) (congrArg (va_up σ 54) hbe.symm) ?_
      refine qk_pop C dX6_day_46 47 rfl rfl ?_
      refine qk_iconst C (nI 0) dX6_day_47 48 rfl rfl ?_
      refine qk_istoren C dX6_day_48 49 rfl rfl (by decide) rfl ?_
      have lp_49 : ∀ (n_49 : Nat) (i : Nat), i ≤ N → N - i < n_49 → qx_K l G Δ (va_up σ 54 (z_dF (z_be v N (z_dq v)) i)) 49 [(2, .int (nI i)), (0, .ref (qx_ad G 53))] [] := by
        intro n_49
        induction n_49 with
        | zero => intro _ _ h9; exact absurd h9 (Nat.not_lt_zero _)
        | succ n_49 ih_49 =>
          intro i hi hm_49
          have hJ := qv_dF (qv_be (q := z_dq v) hI) i hi
          refine qk_iloadn C dX6_day_49 50 rfl rfl 0 rfl ?_
          refine qk_aloadn C dX6_day_50 51 rfl rfl 1 rfl ?_
          refine qk_get C dX6_day_51 54 rfl qf_X6_9 53 (by decide) rfl rfl ?_
          refine qk_iconst C (1) dX6_day_54 55 rfl rfl ?_
          refine qk_iald C dX6_day_55 56 rfl 54 (by decide) (fun _ => rfl) 1 rfl (by omega) (by decide) ?_
          refine qk_cast (hJ.2.1) ?_
          refine qk_icmp_ge C dX6_day_56 78 rfl 59 rfl (fun c_56 => ?_) (fun c_56 => ?_)
          · have hiN : N ≤ i := (nI_leI (by omega) (by omega)).mp c_56
            have hie : i = N := by omega
            refine qk_aloadn C dX6_day_78 79 rfl rfl 1 rfl ?_
            refine qk_iconst C (0) dX6_day_79 80 rfl rfl ?_
            refine qk_iconst C (1) dX6_day_80 81 rfl rfl ?_
            refine qk_ldc C dX6_day_81 83 rfl qw_1078 ?_
            refine qk_callV C dX6_day_83 86 rfl ql_X6_165 qc_X6_more 53 (by decide) rfl rfl (c_X6_more l G σ _ 0 (by omega) _ _) rfl rfl (Nat.le_of_ble_eq_true rfl) ⟨(Nat.le_of_ble_eq_true rfl), (Nat.le_of_ble_eq_true rfl)⟩ (qx_Kv ?_)
            exact hret _ _ _ dX6_day_86 ⟨rfl, by rw [hie]; rfl⟩
          · have hiN : i < N := Nat.not_le.mp (fun q => c_56 (nI_le q (by omega)))
            refine qk_aloadn C dX6_day_59 60 rfl rfl 1 rfl ?_
            refine qk_iloadn C dX6_day_60 61 rfl rfl 0 rfl ?_
            refine qk_callV C dX6_day_61 64 rfl ql_X6_149 qc_X6_isGone 53 (by decide) rfl rfl (c_X6_isGone l G σ _ i (by omega)) rfl rfl (Nat.le_of_ble_eq_true rfl) ⟨(Nat.le_of_ble_eq_true rfl), (Nat.le_of_ble_eq_true rfl)⟩ (qx_Ki ?_)
            refine qk_if_neB C dX6_day_64 72 rfl 67 rfl (fun c_64 => ?_) (fun c_64 => ?_)
            · refine qk_sg (va_up σ 54 (z_dF (z_be v N (z_dq v)) (i + 1))) (congrArg (va_up σ 54) (z_selr_f (fun q => absurd (q.symm.trans c_64) (by decide))).symm) ?_
              refine qk_iinc C (nI (i + 1)) dX6_day_72 75 rfl 0 rfl (nI_1 i) (by decide) rfl ?_
              refine qk_goto C dX6_day_75 49 rfl ?_
              exact ih_49 (i + 1) (by omega) (by omega)
            · refine qk_aloadn C dX6_day_67 68 rfl rfl 1 rfl ?_
              refine qk_iloadn C dX6_day_68 69 rfl rfl 0 rfl ?_
              refine qk_callV C dX6_day_69 72 rfl ql_X6_176 qc_X6_yearnsOn 53 (by decide) rfl rfl (c_X6_yearnsOn l G σ N _ hJ i hiN) rfl rfl (Nat.le_of_ble_eq_true rfl) ⟨(Nat.le_of_ble_eq_true rfl), (Nat.le_of_ble_eq_true rfl)⟩ (qx_Kv ?_)
              refine qk_sg (va_up σ 54 (z_dF (z_be v N (z_dq v)) (i + 1))) (congrArg (va_up σ 54) (z_selr_t ((hJ.2.2.2.2.1 i hiN).2.2.resolve_right c_64)).symm) ?_
              refine qk_iinc C (nI (i + 1)) dX6_day_72 75 rfl 0 rfl (nI_1 i) (by decide) rfl ?_
              refine qk_goto C dX6_day_75 49 rfl ?_
              exact ih_49 (i + 1) (by omega) (by omega)
      exact qk_lo [0, 2] rfl (lp_49 _ 0 (by omega) (Nat.lt_succ_self _))

theorem c_X6_daysGo (l : Launch) (G : qx_G) (σ : qx_Sg) (N : Nat) (v : Nat → Int32) (hI : qv_ok v N) (n : Nat) (hn : n < 2 ^ 31) : qx_Ct l G yX6_daysGo cX6_daysGo 3 none 7 155 [.ref (qx_ad G 53), .int (nI n)] (va_up σ 54 v) (qx_pv (va_up σ 54 (z_dn v N n))) := by
  refine qx_ofV (lo := [(0, .ref (qx_ad G 53)), (1, .int (nI n))]) (by decide +kernel) (Nat.le_of_ble_eq_true rfl) rfl (fun Δ (C : qx_C G Δ cX6_daysGo RX6 3 7 155) hret => ?_)
  have hN8 := hI.1
  have hN1 := hI.2.1
  refine qk_iconst C (nI 0) dX6_daysGo_0 1 rfl rfl ?_
  refine qk_istoren C dX6_daysGo_1 2 rfl rfl (by decide) rfl ?_
  have lp_2 : ∀ (n_2 : Nat) (i : Nat), i ≤ n → n - i < n_2 → qx_K l G Δ (va_up σ 54 (z_dn v N i)) 2 [(2, .int (nI i)), (0, .ref (qx_ad G 53)), (1, .int (nI n))] [] := by
    intro n_2
    induction n_2 with
    | zero => intro _ _ h9; exact absurd h9 (Nat.not_lt_zero _)
    | succ n_2 ih_2 =>
      intro i hi hm_2
      refine qk_iloadn C dX6_daysGo_2 3 rfl rfl 0 rfl ?_
      refine qk_iloadn C dX6_daysGo_3 4 rfl rfl 2 rfl ?_
      refine qk_icmp_ge C dX6_daysGo_4 17 rfl 7 rfl (fun c_4 => ?_) (fun c_4 => ?_)
      · have hin : n ≤ i := (nI_leI (by omega) (by omega)).mp c_4
        exact hret _ _ _ dX6_daysGo_17 ⟨rfl, by rw [show i = n by omega]⟩
      · have hin : i < n := Nat.not_le.mp (fun q => c_4 (nI_le q (by omega)))
        refine qk_aloadn C dX6_daysGo_7 8 rfl rfl 1 rfl ?_
        refine qk_callV C dX6_daysGo_8 11 rfl ql_X6_181 qc_X6_day 53 (by decide) rfl rfl (c_X6_day l G σ N _ (qv_dn hI i)) rfl rfl (Nat.le_of_ble_eq_true rfl) ⟨(Nat.le_of_ble_eq_true rfl), (Nat.le_of_ble_eq_true rfl)⟩ (qx_Kv ?_)
        refine qk_iinc C (nI (i + 1)) dX6_daysGo_11 14 rfl 0 rfl (nI_1 i) (by decide) rfl ?_
        refine qk_goto C dX6_daysGo_14 2 rfl ?_
        exact ih_2 (i + 1) (by omega) (by omega)
  exact lp_2 _ 0 (Nat.zero_le _) (Nat.lt_succ_self _)

theorem c_X6_go (l : Launch) (G : qx_G) (σ : qx_Sg) (N : Nat) (v : Nat → Int32) (hI : qv_ok v N) (n : Int32) : qx_Ct l G yX6_go cX6_go 2 (some .int) 8 177 [.ref (qx_ad G 53), .int n] (va_up σ 54 v) (qMx σ (S_go N v n)) := by
  refine qx_of .int (lo := [(0, .ref (qx_ad G 53)), (1, .int n)]) (by decide +kernel) (Nat.le_of_ble_eq_true rfl) rfl (fun Δ (C : qx_C G Δ cX6_go RX6 2 8 177) hret => ?_)
  have hN8 := hI.1
  have hN1 := hI.2.1
  refine qk_iloadn C dX6_go_0 1 rfl rfl 1 rfl ?_
  refine qk_iconst C (1) dX6_go_1 2 rfl rfl ?_
  refine qk_bipush C (60) dX6_go_2 4 rfl rfl ?_
  refine qk_callS C dX6_go_4 7 rfl ql_X6_70 qc_X6_within (c_X6_within l G _ _ _ _) rfl rfl (Nat.le_of_ble_eq_true rfl) ⟨(Nat.le_of_ble_eq_true rfl), (Nat.le_of_ble_eq_true rfl)⟩ (qx_Ki ?_)
  refine qk_if_neB C dX6_go_7 17 rfl 10 rfl (fun c_7 => ?_) (fun c_7 => ?_)
  · have hc : ¬ n < 1 ∧ n ≤ 60 := ⟨c_7.1, Int32.not_lt.mp c_7.2⟩
    obtain ⟨jn, hjn, rfl⟩ := nI_of2 (M := 60) (n := 60) rfl (fun q => hc.1 (Int32.lt_of_lt_of_le q (by decide))) hc.2
    refine qk_aloadn C dX6_go_17 18 rfl rfl 0 rfl ?_
    refine qk_get C dX6_go_18 21 rfl qf_X6_9 53 (by decide) rfl rfl ?_
    refine qk_iconst C (0) dX6_go_21 22 rfl rfl ?_
    refine qk_iald C dX6_go_22 23 rfl 54 (by decide) (fun _ => rfl) (0) rfl (by omega) (by decide) ?_
    refine qk_cast (show _ = v (0) from rfl) ?_
    refine qk_iloadn C dX6_go_23 24 rfl rfl 1 rfl ?_
    refine qk_iadd C dX6_go_24 25 rfl ?_
    refine qk_ldc C dX6_go_25 27 rfl qw_1078 ?_
    refine qk_icmp_le C dX6_go_27 37 rfl 30 rfl (fun c_27 => ?_) (fun c_27 => ?_)
    · refine qk_aloadn C dX6_go_37 38 rfl rfl 0 rfl ?_
      refine qk_iloadn C dX6_go_38 39 rfl rfl 1 rfl ?_
      refine qk_callV C dX6_go_39 42 rfl ql_X6_184 qc_X6_daysGo 53 (by decide) rfl rfl (c_X6_daysGo l G σ N v hI jn (by omega)) rfl rfl (Nat.le_of_ble_eq_true rfl) ⟨(Nat.le_of_ble_eq_true rfl), (Nat.le_of_ble_eq_true rfl)⟩ (qx_Kv ?_)
      refine qk_aloadn C dX6_go_42 43 rfl rfl 0 rfl ?_
      refine qk_get C dX6_go_43 46 rfl qf_X6_9 53 (by decide) rfl rfl ?_
      refine qk_iconst C (3) dX6_go_46 47 rfl rfl ?_
      refine qk_iald C dX6_go_47 48 rfl 54 (by decide) (fun _ => rfl) (3) rfl (by omega) (by decide) ?_
      refine qk_cast (show _ = z_dn v N jn (3) from rfl) ?_
      exact hret _ _ _ _ dX6_go_48 (qMx_ok ((zif_t hc).trans ((zif_t c_27).trans (by rw [zn_nI (show jn < 2 ^ 31 by omega)]))) rfl mTr.rf.up qx_up_eq) rfl
    · refine qk_aloadn C dX6_go_30 31 rfl rfl 0 rfl ?_
      refine qk_ldc C dX6_go_31 33 rfl qw_1069 ?_
      refine qk_callV C dX6_go_33 36 rfl ql_X6_66 qc_X6_finding 53 (by decide) rfl rfl (c_X6_finding l G _ _ 4 (by decide) (by decide)) rfl rfl (Nat.le_of_ble_eq_true rfl) ⟨(Nat.le_of_ble_eq_true rfl), (Nat.le_of_ble_eq_true rfl)⟩ (qx_Ki ?_)
      exact hret _ _ _ _ dX6_go_36 (qMx_bad 4 ((zif_t hc).trans (zif_f c_27)) rfl mTr.rf.up qx_up_eq) rfl
  · refine qk_aloadn C dX6_go_10 11 rfl rfl 0 rfl ?_
    refine qk_ldc C dX6_go_11 13 rfl qw_947 ?_
    refine qk_callV C dX6_go_13 16 rfl ql_X6_66 qc_X6_finding 53 (by decide) rfl rfl (c_X6_finding l G _ _ 0 (by decide) (by decide)) rfl rfl (Nat.le_of_ble_eq_true rfl) ⟨(Nat.le_of_ble_eq_true rfl), (Nat.le_of_ble_eq_true rfl)⟩ (qx_Ki ?_)
    exact hret _ _ _ _ dX6_go_16 (qMx_bad 0 (zif_f (by first | exact fun q => c_7 ⟨q.1, Int32.not_lt.mpr q.2⟩)) rfl mTr.rf.up qx_up_eq) rfl

