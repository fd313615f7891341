/-! the tape is read from its start; an item is kept -/
theorem m_5 {m : Nat} : (5 : Int32) * nI m = nI (5 * m) := by
  apply Int32.toBitVec_inj.mp
  show BitVec.ofNat 32 5 * BitVec.ofNat 32 m = BitVec.ofNat 32 (5 * m)
  rw [BitVec.ofNat_mul]
theorem m_60 {σ : qx_Sg} {R q : Nat → Int32} {i : Nat} {x : Int32} : va_up (va_up (va_up σ 60 R) 53 q) 60 (upd (va_up (va_up σ 60 R) 53 q 60) i x) = va_up (va_up σ 60 (upd R i x)) 53 q := by
  rw [show va_up (va_up σ 60 R) 53 q 60 = R from rfl]
  funext k
  unfold va_up
  by_cases e : k = 53
  · subst e; simp
  · by_cases e2 : k = 60
    · subst e2; simp
    · simp [e, e2]
def m_it (r : Nat → Int32) (k : Nat) (a b c d e : Int32) : Nat → Int32 := upd (upd (upd (upd (upd r k a) (k + 1) b) (k + 2) c) (k + 3) d) (k + 4) e
theorem c_X3_rewind (l : Launch) (G : qx_G) (σ : qx_Sg) (q : Nat → Int32) (a b e d : Int32) (t : Nat) (ht : t ≤ 120) (et : q 1 = nI t) : qx_Ct l G yX3_rewind cX3_rewind 1 none 2 41 [.ref (qx_ad G 40)] (va_up σ 40 (t_row q a b e d)) (qx_pv (va_up σ 40 (t_row q (t_tk (σ 41) t (t_sp (σ 41) t 121 0) d).1 (nI (t_sp (σ 41) t 121 0)) (nI (t_tk (σ 41) t (t_sp (σ 41) t 121 0) d).2.1) (t_tk (σ 41) t (t_sp (σ 41) t 121 0) d).2.2))) := by
  refine qx_ofV (lo := [(0, .ref (qx_ad G 40))]) (by decide +kernel) (Nat.le_of_ble_eq_true rfl) rfl (fun Δ (C : qx_C G Δ cX3_rewind RX3 1 2 41) hret => ?_)
  refine qk_aloadn C dX3_rewind_0 1 rfl rfl 0 rfl ?_
  refine qk_iconst C (0) dX3_rewind_1 2 rfl rfl ?_
  refine qk_put C .int dX3_rewind_2 5 rfl qf_X3_25 40 (by decide) rfl (fun q hq => by cases hq; rfl) rfl rfl (Nat.le_of_ble_eq_true rfl) rfl ?_
  refine qk_sg _ (t_p4) ?_
  refine qk_aloadn C dX3_rewind_5 6 rfl rfl 0 rfl ?_
  refine qk_callV C dX3_rewind_6 9 rfl ql_X3_31 qc_X3_readToken 40 (by decide) rfl rfl (c_X3_readToken l G σ q a b d t ht et 0 (Nat.zero_le _)) rfl rfl (Nat.le_of_ble_eq_true rfl) ⟨(Nat.le_of_ble_eq_true rfl), (Nat.le_of_ble_eq_true rfl)⟩ (qx_Kv ?_)
  exact hret _ _ _ dX3_rewind_9 ⟨rfl, rfl⟩

theorem c_X6_addItem (l : Launch) (G : qx_G) (σ : qx_Sg) (q : Nat → Int32) (m : Nat) (hm : m < 120) (em : q 14 = nI m) (a b c d e : Int32) : qx_Ct l G yX6_addItem cX6_addItem 7 none 0 0 [.ref (qx_ad G 53), .int a, .int b, .int c, .int d, .int e] (va_up σ 53 q) (qx_pv (va_up (va_up σ 60 (m_it (σ 60) (5 * m) a b c d e)) 53 (upd q 14 (nI (m + 1))))) := by
  refine qx_ofV (lo := [(0, .ref (qx_ad G 53)), (1, .int a), (2, .int b), (3, .int c), (4, .int d), (5, .int e)]) (by decide +kernel) (Nat.le_of_ble_eq_true rfl) rfl (fun Δ (C : qx_C G Δ cX6_addItem RX6 7 0 0) hret => ?_)
  refine qk_sg (va_up (va_up σ 60 (σ 60)) 53 q) (by rw [m_upid]) ?_
  refine qk_iconst C (5) dX6_addItem_0 1 rfl rfl ?_
  refine qk_aloadn C dX6_addItem_1 2 rfl rfl 0 rfl ?_
  refine qk_get C dX6_addItem_2 5 rfl qf_X6_280 53 (by decide) rfl rfl ?_
  refine qk_cast (em) ?_
  refine qk_imul C dX6_addItem_5 6 rfl ?_
  refine qk_cast (m_5) ?_
  refine qk_istore C dX6_addItem_6 8 rfl (by decide) rfl ?_
  refine qk_aloadn C dX6_addItem_8 9 rfl rfl 1 rfl ?_
  refine qk_get C dX6_addItem_9 12 rfl qf_X6_45 53 (by decide) rfl rfl ?_
  refine qk_iload C dX6_addItem_12 14 rfl 0 rfl ?_
  refine qk_iloadn C dX6_addItem_14 15 rfl rfl 2 rfl ?_
  refine qk_iast C dX6_addItem_15 16 rfl 60 (by decide) (fun _ => rfl) (5 * m) rfl (by omega) (by decide) ?_
  refine qk_sg _ (m_60) ?_
  refine qk_aloadn C dX6_addItem_16 17 rfl rfl 1 rfl ?_
  refine qk_get C dX6_addItem_17 20 rfl qf_X6_45 53 (by decide) rfl rfl ?_
  refine qk_iload C dX6_addItem_20 22 rfl 0 rfl ?_
  refine qk_iconst C (1) dX6_addItem_22 23 rfl rfl ?_
  refine qk_iadd C dX6_addItem_23 24 rfl ?_
  refine qk_cast (nI_add _ 1) ?_
  refine qk_iloadn C dX6_addItem_24 25 rfl rfl 3 rfl ?_
  refine qk_iast C dX6_addItem_25 26 rfl 60 (by decide) (fun _ => rfl) (5 * m + 1) rfl (by omega) (by decide) ?_
  refine qk_sg _ (m_60) ?_
  refine qk_aloadn C dX6_addItem_26 27 rfl rfl 1 rfl ?_
  refine qk_get C dX6_addItem_27 30 rfl qf_X6_45 53 (by decide) rfl rfl ?_
  refine qk_iload C dX6_addItem_30 32 rfl 0 rfl ?_
  refine qk_iconst C (2) dX6_addItem_32 33 rfl rfl ?_
  refine qk_iadd C dX6_addItem_33 34 rfl ?_
  refine qk_cast (nI_add _ 2) ?_
  refine qk_iloadn C dX6_addItem_34 35 rfl rfl 4 rfl ?_
  refine qk_iast C dX6_addItem_35 36 rfl 60 (by decide) (fun _ => rfl) (5 * m + 2) rfl (by omega) (by decide) ?_
  refine qk_sg _ (m_60) ?_
  refine qk_aloadn C dX6_addItem_36 37 rfl rfl 1 rfl ?_
  refine qk_get C dX6_addItem_37 40 rfl qf_X6_45 53 (by decide) rfl rfl ?_
  refine qk_iload C dX6_addItem_40 42 rfl 0 rfl ?_
  refine qk_iconst C (3) dX6_addItem_42 43 rfl rfl ?_
  refine qk_iadd C dX6_addItem_43 44 rfl ?_
  refine qk_cast (nI_add _ 3) ?_
  refine qk_iload C dX6_addItem_44 46 rfl 5 rfl ?_
  refine qk_iast C dX6_addItem_46 47 rfl 60 (by decide) (fun _ => rfl) (5 * m + 3) rfl (by omega) (by decide) ?_
  refine qk_sg _ (m_60) ?_
  refine qk_aloadn C dX6_addItem_47 48 rfl rfl 1 rfl ?_
  refine qk_get C dX6_addItem_48 51 rfl qf_X6_45 53 (by decide) rfl rfl ?_
  refine qk_iload C dX6_addItem_51 53 rfl 0 rfl ?_
  refine qk_iconst C (4) dX6_addItem_53 54 rfl rfl ?_
  refine qk_iadd C dX6_addItem_54 55 rfl ?_
  refine qk_cast (nI_add _ 4) ?_
  refine qk_iload C dX6_addItem_55 57 rfl 6 rfl ?_
  refine qk_iast C dX6_addItem_57 58 rfl 60 (by decide) (fun _ => rfl) (5 * m + 4) rfl (by omega) (by decide) ?_
  refine qk_sg _ (m_60) ?_
  refine qk_aloadn C dX6_addItem_58 59 rfl rfl 1 rfl ?_
  refine qk_dup C dX6_addItem_59 60 rfl rfl ?_
  refine qk_get C dX6_addItem_60 63 rfl qf_X6_280 53 (by decide) rfl rfl ?_
  refine qk_cast (em) ?_
  refine qk_iconst C (1) dX6_addItem_63 64 rfl rfl ?_
  refine qk_iadd C dX6_addItem_64 65 rfl ?_
  refine qk_cast (nI_1 _) ?_
  refine qk_put C .int dX6_addItem_65 68 rfl qf_X6_280 53 (by decide) rfl (fun q hq => by cases hq; rfl) rfl rfl (Nat.le_of_ble_eq_true rfl) rfl ?_
  refine qk_sg _ (m_w53) ?_
  exact hret _ _ _ dX6_addItem_68 ⟨rfl, rfl⟩

