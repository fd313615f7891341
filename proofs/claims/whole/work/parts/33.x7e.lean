/-! the model reads -/
theorem m_w53 {σ : qx_Sg} {q : Nat → Int32} {i : Nat} {x : Int32} : va_up (va_up σ 53 q) 53 (upd (va_up σ 53 q 53) i x) = va_up σ 53 (upd q i x) := by
  rw [m_uu, show va_up σ 53 q 53 = q from qx_up_eq]
theorem m_rowU {q : Nat → Int32} {p : Nat} {c : Int32} (ep : q 8 = nI p) : upd q 11 c = m_row (upd q 11 c) (q 7) (nI p) (q 9) (q 10) := by
  rw [← ep]
  exact (m_row0 (q := upd q 11 c)).symm
noncomputable def m_tok (r : Nat → Int32) (t : Nat) (q : Nat → Int32) : Nat → Int32 := m_row q (nI (t_sp r t 121 (zn (q 8)))) (nI (t_tk r t (t_sp r t 121 (zn (q 8))) 0).2.1) (m_kd (t_tk r t (t_sp r t 121 (zn (q 8))) 0).1) (t_tk r t (t_sp r t 121 (zn (q 8))) 0).2.2
noncomputable def m_mu (r : Nat → Int32) (t : Nat) (q : Nat → Int32) (P : Prop) : Nat → Int32 := z_selr (q 11 = 0 ∧ P) (m_tok r t (upd q 11 0)) (upd q 11 1)
theorem c_X6_must (l : Launch) (G : qx_G) (σ : qx_Sg) (q : Nat → Int32) (t : Nat) (ht : t ≤ 120) (et : q 6 = nI t) (hb : t_by (σ 58) t) (p : Nat) (hp : p ≤ t) (ep : q 8 = nI p) (x : Int32) : qx_Ct l G yX6_must cX6_must 2 none 2 43 [.ref (qx_ad G 53), .int x] (va_up σ 53 q) (qx_pv (va_up σ 53 (m_mu (σ 58) t q (¬ x = 0)))) := by
  refine qx_ofV (lo := [(0, .ref (qx_ad G 53)), (1, .int x)]) (by decide +kernel) (Nat.le_of_ble_eq_true rfl) rfl (fun Δ (C : qx_C G Δ cX6_must RX6 2 2 43) hret => ?_)
  refine qk_aloadn C dX6_must_0 1 rfl rfl 0 rfl ?_
  refine qk_aloadn C dX6_must_1 2 rfl rfl 0 rfl ?_
  refine qk_get C dX6_must_2 5 rfl qf_X6_269 53 (by decide) rfl rfl ?_
  refine qk_cast (show _ = q 11 from rfl) ?_
  refine qk_if_ne C dX6_must_5 12 rfl 8 rfl (fun c_5 => ?_) (fun c_5 => ?_)
  · refine qk_iconst C (1) dX6_must_12 13 rfl rfl ?_
    refine qk_goto C dX6_must_13 17 rfl ?_
    refine qk_put C .boolean dX6_must_17 20 rfl qf_X6_269 53 (by decide) rfl (fun q hq => by cases hq; rfl) rfl rfl (Nat.le_of_ble_eq_true rfl) rfl ?_
    refine qk_sg _ (m_w53) ?_
    refine qk_aloadn C dX6_must_20 21 rfl rfl 0 rfl ?_
    refine qk_get C dX6_must_21 24 rfl qf_X6_269 53 (by decide) rfl rfl ?_
    refine qk_if_ne C dX6_must_24 31 rfl 27 rfl (fun c_24 => ?_) (fun c_24 => ?_)
    · exact hret _ _ _ dX6_must_31 ⟨rfl, congrArg (va_up σ 53) (z_selr_f (by first | exact fun z => c_5 z.1 | exact fun z => z.2 c_9)).symm⟩
    · refine qk_sg _ (congrArg (va_up σ 53) (m_rowU ep)) ?_
      refine qk_aloadn C dX6_must_27 28 rfl rfl 0 rfl ?_
      refine qk_callV C dX6_must_28 31 rfl ql_X6_273 qc_X6_token 53 (by decide) rfl rfl (c_X6_token l G σ (upd q 11 1) (q 7) (q 9) (q 10) t ht (show upd q 11 1 6 = nI t from et) hb p hp) rfl rfl (Nat.le_of_ble_eq_true rfl) ⟨(Nat.le_of_ble_eq_true rfl), (Nat.le_of_ble_eq_true rfl)⟩ (qx_Kv ?_)
      exact hret _ _ _ dX6_must_31 ⟨rfl, absurd ((show upd q 11 1 11 = (1 : Int32) from upd_eq).symm.trans c_24) (by decide)⟩
  · refine qk_iloadn C dX6_must_8 9 rfl rfl 1 rfl ?_
    refine qk_if_ne C dX6_must_9 16 rfl 12 rfl (fun c_9 => ?_) (fun c_9 => ?_)
    · refine qk_iconst C (0) dX6_must_16 17 rfl rfl ?_
      refine qk_put C .boolean dX6_must_17 20 rfl qf_X6_269 53 (by decide) rfl (fun q hq => by cases hq; rfl) rfl rfl (Nat.le_of_ble_eq_true rfl) rfl ?_
      refine qk_sg _ (m_w53) ?_
      refine qk_aloadn C dX6_must_20 21 rfl rfl 0 rfl ?_
      refine qk_get C dX6_must_21 24 rfl qf_X6_269 53 (by decide) rfl rfl ?_
      refine qk_if_ne C dX6_must_24 31 rfl 27 rfl (fun c_24 => ?_) (fun c_24 => ?_)
      · exact hret _ _ _ dX6_must_31 ⟨rfl, absurd (show upd q 11 0 11 = (0 : Int32) from upd_eq) c_24⟩
      · refine qk_sg _ (congrArg (va_up σ 53) (m_rowU ep)) ?_
        refine qk_aloadn C dX6_must_27 28 rfl rfl 0 rfl ?_
        refine qk_callV C dX6_must_28 31 rfl ql_X6_273 qc_X6_token 53 (by decide) rfl rfl (c_X6_token l G σ (upd q 11 0) (q 7) (q 9) (q 10) t ht (show upd q 11 0 6 = nI t from et) hb p hp) rfl rfl (Nat.le_of_ble_eq_true rfl) ⟨(Nat.le_of_ble_eq_true rfl), (Nat.le_of_ble_eq_true rfl)⟩ (qx_Kv ?_)
        exact hret _ _ _ dX6_must_31 ⟨rfl, by rw [show m_mu (σ 58) t q (¬ x = 0) = m_tok (σ 58) t (upd q 11 0) from z_selr_t ⟨c_5, c_9⟩]; unfold m_tok; rw [show upd q 11 0 8 = nI p from ep, zn_nI (show p < 2 ^ 31 by omega)]⟩
    · refine qk_iconst C (1) dX6_must_12 13 rfl rfl ?_
      refine qk_goto C dX6_must_13 17 rfl ?_
      refine qk_put C .boolean dX6_must_17 20 rfl qf_X6_269 53 (by decide) rfl (fun q hq => by cases hq; rfl) rfl rfl (Nat.le_of_ble_eq_true rfl) rfl ?_
      refine qk_sg _ (m_w53) ?_
      refine qk_aloadn C dX6_must_20 21 rfl rfl 0 rfl ?_
      refine qk_get C dX6_must_21 24 rfl qf_X6_269 53 (by decide) rfl rfl ?_
      refine qk_if_ne C dX6_must_24 31 rfl 27 rfl (fun c_24 => ?_) (fun c_24 => ?_)
      · exact hret _ _ _ dX6_must_31 ⟨rfl, congrArg (va_up σ 53) (z_selr_f (by first | exact fun z => c_5 z.1 | exact fun z => z.2 c_9)).symm⟩
      · refine qk_sg _ (congrArg (va_up σ 53) (m_rowU ep)) ?_
        refine qk_aloadn C dX6_must_27 28 rfl rfl 0 rfl ?_
        refine qk_callV C dX6_must_28 31 rfl ql_X6_273 qc_X6_token 53 (by decide) rfl rfl (c_X6_token l G σ (upd q 11 1) (q 7) (q 9) (q 10) t ht (show upd q 11 1 6 = nI t from et) hb p hp) rfl rfl (Nat.le_of_ble_eq_true rfl) ⟨(Nat.le_of_ble_eq_true rfl), (Nat.le_of_ble_eq_true rfl)⟩ (qx_Kv ?_)
        exact hret _ _ _ dX6_must_31 ⟨rfl, absurd ((show upd q 11 1 11 = (1 : Int32) from upd_eq).symm.trans c_24) (by decide)⟩

theorem c_X6_number (l : Launch) (G : qx_G) (σ : qx_Sg) (q : Nat → Int32) (t : Nat) (ht : t ≤ 120) (et : q 6 = nI t) (hb : t_by (σ 58) t) (p : Nat) (hp : p ≤ t) (ep : q 8 = nI p) (a b : Int32) : qx_Ct l G yX6_number cX6_number 4 (some .int) 3 64 [.ref (qx_ad G 53), .int a, .int b] (va_up σ 53 q) (qx_pi (q 10) (va_up σ 53 (m_mu (σ 58) t q (q 9 = 2 ∧ ¬ q 10 < a ∧ ¬ b < q 10)))) := by
  refine qx_of .int (lo := [(0, .ref (qx_ad G 53)), (1, .int a), (2, .int b)]) (by decide +kernel) (Nat.le_of_ble_eq_true rfl) rfl (fun Δ (C : qx_C G Δ cX6_number RX6 4 3 64) hret => ?_)
  refine qk_aloadn C dX6_number_0 1 rfl rfl 0 rfl ?_
  refine qk_get C dX6_number_1 4 rfl qf_X6_256 53 (by decide) rfl rfl ?_
  refine qk_cast (show _ = q 10 from rfl) ?_
  refine qk_istoren C dX6_number_4 5 rfl rfl (by decide) rfl ?_
  refine qk_aloadn C dX6_number_5 6 rfl rfl 1 rfl ?_
  refine qk_aloadn C dX6_number_6 7 rfl rfl 1 rfl ?_
  refine qk_get C dX6_number_7 10 rfl qf_X6_259 53 (by decide) rfl rfl ?_
  refine qk_cast (show _ = q 9 from rfl) ?_
  refine qk_iconst C (2) dX6_number_10 11 rfl rfl ?_
  refine qk_icmp_ne C dX6_number_11 27 rfl 14 rfl (fun c_11 => ?_) (fun c_11 => ?_)
  · refine qk_iconst C (0) dX6_number_27 28 rfl rfl ?_
    refine qk_callV C dX6_number_28 31 rfl ql_X6_276 qc_X6_must 53 (by decide) rfl rfl (c_X6_must l G σ q t ht et hb p hp ep _) rfl rfl (Nat.le_of_ble_eq_true rfl) ⟨(Nat.le_of_ble_eq_true rfl), (Nat.le_of_ble_eq_true rfl)⟩ (qx_Kv ?_)
    refine qk_sg (va_up σ 53 (m_mu (σ 58) t q (q 9 = 2 ∧ ¬ q 10 < a ∧ ¬ b < q 10))) (congrArg (fun P => va_up σ 53 (m_mu (σ 58) t q P)) (propext (by first | exact ⟨fun _ => ⟨c_11, c_20⟩, fun _ => by decide⟩ | exact ⟨fun h => absurd rfl h, fun z => absurd z.1 c_11⟩ | exact ⟨fun h => absurd rfl h, fun z => absurd z.2 c_20⟩))) ?_
    refine qk_iloadn C dX6_number_31 32 rfl rfl 0 rfl ?_
    exact hret _ _ _ _ dX6_number_32 ⟨congrArg (fun x => some (Value.int x)) (by first | rfl | (simp [c_11]; done) | (simp [c_11]; decide) | (simp [c_11]; rfl) | (simp_all []; done)), rfl⟩ rfl
  · refine qk_iloadn C dX6_number_14 15 rfl rfl 0 rfl ?_
    refine qk_iloadn C dX6_number_15 16 rfl rfl 2 rfl ?_
    refine qk_iloadn C dX6_number_16 17 rfl rfl 3 rfl ?_
    refine qk_callS C dX6_number_17 20 rfl ql_X6_70 qc_X6_within (c_X6_within l G _ _ _ _) rfl rfl (Nat.le_of_ble_eq_true rfl) ⟨(Nat.le_of_ble_eq_true rfl), (Nat.le_of_ble_eq_true rfl)⟩ (qx_Ki ?_)
    refine qk_if_eqB C dX6_number_20 27 rfl 23 rfl (fun c_20 => ?_) (fun c_20 => ?_)
    · refine qk_iconst C (0) dX6_number_27 28 rfl rfl ?_
      refine qk_callV C dX6_number_28 31 rfl ql_X6_276 qc_X6_must 53 (by decide) rfl rfl (c_X6_must l G σ q t ht et hb p hp ep _) rfl rfl (Nat.le_of_ble_eq_true rfl) ⟨(Nat.le_of_ble_eq_true rfl), (Nat.le_of_ble_eq_true rfl)⟩ (qx_Kv ?_)
      refine qk_sg (va_up σ 53 (m_mu (σ 58) t q (q 9 = 2 ∧ ¬ q 10 < a ∧ ¬ b < q 10))) (congrArg (fun P => va_up σ 53 (m_mu (σ 58) t q P)) (propext (by first | exact ⟨fun _ => ⟨c_11, c_20⟩, fun _ => by decide⟩ | exact ⟨fun h => absurd rfl h, fun z => absurd z.1 c_11⟩ | exact ⟨fun h => absurd rfl h, fun z => absurd z.2 c_20⟩))) ?_
      refine qk_iloadn C dX6_number_31 32 rfl rfl 0 rfl ?_
      exact hret _ _ _ _ dX6_number_32 ⟨congrArg (fun x => some (Value.int x)) (by first | rfl | (simp [c_11, c_20]; done) | (simp [c_11, c_20]; decide) | (simp [c_11, c_20]; rfl) | (simp_all []; done)), rfl⟩ rfl
    · refine qk_iconst C (1) dX6_number_23 24 rfl rfl ?_
      refine qk_goto C dX6_number_24 28 rfl ?_
      refine qk_callV C dX6_number_28 31 rfl ql_X6_276 qc_X6_must 53 (by decide) rfl rfl (c_X6_must l G σ q t ht et hb p hp ep _) rfl rfl (Nat.le_of_ble_eq_true rfl) ⟨(Nat.le_of_ble_eq_true rfl), (Nat.le_of_ble_eq_true rfl)⟩ (qx_Kv ?_)
      refine qk_sg (va_up σ 53 (m_mu (σ 58) t q (q 9 = 2 ∧ ¬ q 10 < a ∧ ¬ b < q 10))) (congrArg (fun P => va_up σ 53 (m_mu (σ 58) t q P)) (propext (by first | exact ⟨fun _ => ⟨c_11, c_20⟩, fun _ => by decide⟩ | exact ⟨fun h => absurd rfl h, fun z => absurd z.1 c_11⟩ | exact ⟨fun h => absurd rfl h, fun z => absurd z.2 c_20⟩))) ?_
      refine qk_iloadn C dX6_number_31 32 rfl rfl 0 rfl ?_
      exact hret _ _ _ _ dX6_number_32 ⟨congrArg (fun x => some (Value.int x)) (by first | rfl | (simp [c_11, c_20]; done) | (simp [c_11, c_20]; decide) | (simp [c_11, c_20]; rfl) | (simp_all []; done)), rfl⟩ rfl

theorem c_X6_takesWord (l : Launch) (G : qx_G) (σ : qx_Sg) (q : Nat → Int32) (t : Nat) (ht : t ≤ 120) (et : q 6 = nI t) (hb : t_by (σ 58) t) (p : Nat) (hp : p ≤ t) (ep : q 8 = nI p) (i : Nat) (hi : i < 12) (s : Nat) (es : q 7 = nI s) (hsp : s ≤ p) : qx_Ct l G yX6_takesWord cX6_takesWord 3 (some .boolean) 5 108 [.ref (qx_ad G 53), .ref (qx_ad G (100 + i))] (va_up σ 53 q) (qx_pi (qb (q 11 = 0 ∧ t_iw (σ 58) (q 9) s p i)) (va_up σ 53 (z_selr (q 11 = 0 ∧ t_iw (σ 58) (q 9) s p i) (m_mu (σ 58) t q True) q))) := by
  refine qx_of .boolean (lo := [(0, .ref (qx_ad G 53)), (1, .ref (qx_ad G (100 + i)))]) (by decide +kernel) (Nat.le_of_ble_eq_true rfl) rfl (fun Δ (C : qx_C G Δ cX6_takesWord RX6 3 5 108) hret => ?_)
  refine qk_aloadn C dX6_takesWord_0 1 rfl rfl 0 rfl ?_
  refine qk_get C dX6_takesWord_1 4 rfl qf_X6_269 53 (by decide) rfl rfl ?_
  refine qk_cast (show _ = q 11 from rfl) ?_
  refine qk_if_ne C dX6_takesWord_4 19 rfl 7 rfl (fun c_4 => ?_) (fun c_4 => ?_)
  · refine qk_iconst C (0) dX6_takesWord_19 20 rfl rfl ?_
    refine qk_sg (va_up σ 53 (z_selr (q 11 = 0 ∧ t_iw (σ 58) (q 9) s p i) (m_mu (σ 58) t q True) q)) (congrArg (va_up σ 53) (z_selr_f (by first | exact fun z => c_4 z.1 | exact fun z => c_12 z.2)).symm) ?_
    refine qk_istoren C dX6_takesWord_20 21 rfl rfl (by decide) rfl ?_
    refine qk_iloadn C dX6_takesWord_21 22 rfl rfl 0 rfl ?_
    refine qk_if_eq C dX6_takesWord_22 30 rfl 25 rfl (fun _ => ?_) (fun c => absurd rfl c)
    refine qk_iloadn C dX6_takesWord_30 31 rfl rfl 0 rfl ?_
    exact hret _ _ _ _ dX6_takesWord_31 ⟨congrArg (fun x => some (Value.int x)) ((qb_f (by first | exact ⟨c_4, c_12⟩ | exact fun z => c_4 z.1 | exact fun z => c_12 z.2)).symm), rfl⟩ rfl
  · refine qk_aloadn C dX6_takesWord_7 8 rfl rfl 0 rfl ?_
    refine qk_aloadn C dX6_takesWord_8 9 rfl rfl 1 rfl ?_
    refine qk_callV C dX6_takesWord_9 12 rfl ql_X6_283 qc_X6_isWord 53 (by decide) rfl rfl (c_X6_isWord l G _ i hi s p hsp (by omega) es ep) rfl rfl (Nat.le_of_ble_eq_true rfl) ⟨(Nat.le_of_ble_eq_true rfl), (Nat.le_of_ble_eq_true rfl)⟩ (qx_Ki ?_)
    refine qk_if_eqB C dX6_takesWord_12 19 rfl 15 rfl (fun c_12 => ?_) (fun c_12 => ?_)
    · refine qk_iconst C (0) dX6_takesWord_19 20 rfl rfl ?_
      refine qk_sg (va_up σ 53 (z_selr (q 11 = 0 ∧ t_iw (σ 58) (q 9) s p i) (m_mu (σ 58) t q True) q)) (congrArg (va_up σ 53) (z_selr_f (by first | exact fun z => c_4 z.1 | exact fun z => c_12 z.2)).symm) ?_
      refine qk_istoren C dX6_takesWord_20 21 rfl rfl (by decide) rfl ?_
      refine qk_iloadn C dX6_takesWord_21 22 rfl rfl 0 rfl ?_
      refine qk_if_eq C dX6_takesWord_22 30 rfl 25 rfl (fun _ => ?_) (fun c => absurd rfl c)
      refine qk_iloadn C dX6_takesWord_30 31 rfl rfl 0 rfl ?_
      exact hret _ _ _ _ dX6_takesWord_31 ⟨congrArg (fun x => some (Value.int x)) ((qb_f (by first | exact ⟨c_4, c_12⟩ | exact fun z => c_4 z.1 | exact fun z => c_12 z.2)).symm), rfl⟩ rfl
    · refine qk_iconst C (1) dX6_takesWord_15 16 rfl rfl ?_
      refine qk_goto C dX6_takesWord_16 20 rfl ?_
      refine qk_istoren C dX6_takesWord_20 21 rfl rfl (by decide) rfl ?_
      refine qk_iloadn C dX6_takesWord_21 22 rfl rfl 0 rfl ?_
      refine qk_if_eq C dX6_takesWord_22 30 rfl 25 rfl (fun c => absurd c (by decide)) (fun _ => ?_)
      refine qk_aloadn C dX6_takesWord_25 26 rfl rfl 1 rfl ?_
      refine qk_iconst C (1) dX6_takesWord_26 27 rfl rfl ?_
      refine qk_callV C dX6_takesWord_27 30 rfl ql_X6_276 qc_X6_must 53 (by decide) rfl rfl (c_X6_must l G σ q t ht et hb p hp ep _) rfl rfl (Nat.le_of_ble_eq_true rfl) ⟨(Nat.le_of_ble_eq_true rfl), (Nat.le_of_ble_eq_true rfl)⟩ (qx_Kv ?_)
      refine qk_sg (va_up σ 53 (z_selr (q 11 = 0 ∧ t_iw (σ 58) (q 9) s p i) (m_mu (σ 58) t q True) q)) (congrArg (va_up σ 53) ((congrArg (m_mu (σ 58) t q) (propext ⟨fun _ => trivial, fun _ => by decide⟩)).trans (z_selr_t ⟨c_4, c_12⟩).symm)) ?_
      refine qk_iloadn C dX6_takesWord_30 31 rfl rfl 0 rfl ?_
      exact hret _ _ _ _ dX6_takesWord_31 ⟨congrArg (fun x => some (Value.int x)) ((qb_t (by first | exact ⟨c_4, c_12⟩ | exact fun z => c_4 z.1 | exact fun z => c_12 z.2)).symm), rfl⟩ rfl

