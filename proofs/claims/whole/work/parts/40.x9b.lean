theorem t_oX_V {r : Nat → Int32} {t i p : Nat} {d : Int32} {o : Prop} (ho : o) (h : t_w r t i p) : t_oV r t i d p o = tV r t (tE r t p) := tif_t ⟨ho, h⟩
/-! the class reads the text -/
theorem t_iB {r : Nat → Int32} {t N p : Nat} (h : t_w r t 10 p) : t_iP r t N p = t_2P r t 5 12 p ∧ t_ip r t N p = t_2p r t 5 12 p ∧ t_it r t N p = (10, tV r t (tE r t p), tV r t (t_2q r t 5 p), 0, 0) := by
  refine ⟨propext ⟨fun q => ?_, fun q => Or.inl ⟨h, q⟩⟩, tif_t h, tif_t h⟩
  rcases q with q | q | ⟨⟨k, hk, q⟩, -⟩
  · exact q.2
  · exact absurd q.1 (t_wne (by omega) (by omega) (by omega) h)
  · exact absurd q (t_wne (by omega) (by omega) (by omega) h)
theorem t_iS {r : Nat → Int32} {t N p : Nat} (h : t_w r t 11 p) : t_iP r t N p = t_2P r t 11 99 p ∧ t_ip r t N p = t_2p r t 11 99 p ∧ t_it r t N p = (11, tV r t (tE r t p), tV r t (t_2q r t 11 p), 0, 0) := by
  have h0 : ¬ t_w r t 10 p := t_wne (by omega) (by omega) (by omega) h
  refine ⟨propext ⟨fun q => ?_, fun q => Or.inr (Or.inl ⟨h, q⟩)⟩, (tif_f h0).trans (tif_t h), (tif_f h0).trans (tif_t h)⟩
  rcases q with q | q | ⟨⟨k, hk, q⟩, -⟩
  · exact absurd q.1 h0
  · exact q.2
  · exact absurd q (t_wne (by omega) (by omega) (by omega) h)
theorem t_iK {r : Nat → Int32} {t N p k : Nat} (hk : k < 7) (h : t_w r t k p) : t_iP r t N p = t_b6 r t N p ∧ t_ip r t N p = t_b7p r t N p ∧ t_it r t N p = (nI k, t_bd r t N p, t_bh r t N p, t_bA r t N p, t_bs r t N p) := by
  have h0 : ¬ t_w r t 10 p := t_wne (by omega) (by omega) (by omega) h
  have h1 : ¬ t_w r t 11 p := t_wne (by omega) (by omega) (by omega) h
  have ha : t_any r t p := ⟨k, hk, h⟩
  refine ⟨propext ⟨fun q => ?_, fun q => Or.inr (Or.inr ⟨ha, q⟩)⟩, (tif_f h0).trans ((tif_f h1).trans (tif_t ha)), (tif_f h0).trans ((tif_f h1).trans (by rw [t_kd_t (by omega) hk h]))⟩
  rcases q with q | q | q
  · exact absurd q.1 h0
  · exact absurd q.1 h1
  · exact q.2
theorem t_i0 {r : Nat → Int32} {t N p : Nat} (h0 : ¬ t_w r t 10 p) (h1 : ¬ t_w r t 11 p) (h2 : ∀ k, k < 7 → ¬ t_w r t k p) : ¬ t_iP r t N p ∧ t_ip r t N p = p := by
  have ha : ¬ t_any r t p := fun ⟨k, hk, q⟩ => h2 k hk q
  refine ⟨fun q => ?_, (tif_f h0).trans ((tif_f h1).trans (tif_f ha))⟩
  rcases q with q | q | q
  · exact h0 q.1
  · exact h1 q.1
  · exact ha q.1
theorem t_apB {a b c d : Int32} {N : Nat} {w : Nat → Int32} : t_ap (10, a, b, c, d) N w = (N, upd w (4 + zn a) b) := rfl
theorem t_apS {a b c d : Int32} {N : Nat} {w : Nat → Int32} : t_ap (11, a, b, c, d) N w = (N, upd w (10 + zn a) b) := rfl
theorem t_apK {a b c d : Int32} {N k : Nat} {w : Nat → Int32} (hk : k < 7) : t_ap (nI k, a, b, c, d) N w = (N + 1, upd (upd (upd (z_cm w N (nI k) a) (32 + 7 * N + 2) b) (32 + 7 * N + 3) c) (32 + 7 * N + 5) d) := by
  unfold t_ap
  have h10 : ¬ nI k = 10 := fun e => by have := (nI_eq (a := k) (b := 10) (by omega) (by omega)).mp e; omega
  have h11 : ¬ nI k = 11 := fun e => by have := (nI_eq (a := k) (b := 11) (by omega) (by omega)).mp e; omega
  rw [if_neg h10, if_neg h11]
/-- what an item makes of a good row is a good row -/
theorem qv_it {r : Nat → Int32} {t N p : Nat} {w : Nat → Int32} (h : qv_ok w N) (hI : t_iP r t N p) : qv_ok (t_ap (t_it r t N p) N w).2 (t_ap (t_it r t N p) N w).1 := by
  have hI0 := hI
  rcases hI with ⟨c, -⟩ | ⟨c, -⟩ | ⟨⟨k, hk, c⟩, -⟩
  · rw [(t_iB c).1] at hI0
    obtain ⟨i, hi, ei⟩ := t_nu_ex 5 rfl (by omega) hI0.1
    obtain ⟨j, hj, ej⟩ := t_nu_ex 12 rfl (by omega) hI0.2
    rw [(t_iB c).2.2, t_apB, ei, ej, zn_nI (by omega)]
    exact qv_li h (by omega) hj
  · rw [(t_iS c).1] at hI0
    obtain ⟨i, hi, ei⟩ := t_nu_ex 11 rfl (by omega) hI0.1
    rw [(t_iS c).2.2, t_apS, ei, zn_nI (by omega)]
    exact qv_free h _ _ (Or.inr (Or.inr (Or.inl ⟨by omega, by omega⟩)))
  · rw [(t_iK hk c).1] at hI0
    rw [(t_iK hk c).2.2, t_apK hk]
    have h7 : N < 8 := hI0.1.1.1
    have e1 : t_b2 r t N p := hI0.1.1
    have hb : ∃ q, q < 4096 ∧ t_bh r t N p = nI q := by
      by_cases c7 : t_w r t 7 (t_b2p r t N p)
      · obtain ⟨j, hj, ej⟩ := t_nu_ex 4095 rfl (by omega) (hI0.1.2 c7)
        exact ⟨j, by omega, (t_oX_V (d := 3) e1 c7).trans ej⟩
      · exact ⟨3, by omega, (t_oN (m := 0) (d := 3) e1 c7).2.2⟩
    obtain ⟨q, hq, eq⟩ := hb
    rw [eq]
    exact qv_fr (qv_fr (qv_fr2 (qv_cm h h7 ⟨k, by omega, rfl⟩) (by omega) hq) _ (by omega) (Or.inr (Or.inl rfl))) _ (by omega) (Or.inr (Or.inr (Or.inr rfl)))
theorem c_X4_wordOf (l : Launch) (G : qx_G) (σ : qx_Sg) (k : Nat) (hk : k < 7) : qx_Ct l G yX4_wordOf cX4_wordOf 1 (some (.object "java/lang/String")) 0 0 [.int (nI k)] (σ) (qx_pr (qx_ad G (100 + k)) (σ)) := by
  refine qx_ofA _ (lo := [(0, .int (nI k))]) (by decide +kernel) (Nat.le_of_ble_eq_true rfl) rfl (fun Δ (C : qx_C G Δ cX4_wordOf RX4 1 0 0) hret => ?_)
  refine qk_iloadn C dX4_wordOf_0 1 rfl rfl 0 rfl ?_
  refine qk_eqc (1) (fun c_1_1 => ?_) (fun c_1_1 => ?_)
  · refine qk_tableIn C dX4_wordOf_1 (1) c_1_1 (by decide) (by decide) rfl 40 rfl ?_
    refine qk_ldcS C 1 (tx := "poet") dX4_wordOf_40 42 rfl (by decide) ?_
    exact hret _ _ _ _ dX4_wordOf_42 ⟨congrArg (fun x => some (Value.ref x)) (congrArg (fun z => qx_ad G (100 + z)) ((nI_eq (a := k) (b := 1) (by omega) (by omega)).mp c_1_1).symm), rfl⟩
  refine qk_eqc (2) (fun c_1_2 => ?_) (fun c_1_2 => ?_)
  · refine qk_tableIn C dX4_wordOf_1 (2) c_1_2 (by decide) (by decide) rfl 43 rfl ?_
    refine qk_ldcS C 2 (tx := "stoic") dX4_wordOf_43 45 rfl (by decide) ?_
    exact hret _ _ _ _ dX4_wordOf_45 ⟨congrArg (fun x => some (Value.ref x)) (congrArg (fun z => qx_ad G (100 + z)) ((nI_eq (a := k) (b := 2) (by omega) (by omega)).mp c_1_2).symm), rfl⟩
  refine qk_eqc (3) (fun c_1_3 => ?_) (fun c_1_3 => ?_)
  · refine qk_tableIn C dX4_wordOf_1 (3) c_1_3 (by decide) (by decide) rfl 46 rfl ?_
    refine qk_ldcS C 3 (tx := "orator") dX4_wordOf_46 48 rfl (by decide) ?_
    exact hret _ _ _ _ dX4_wordOf_48 ⟨congrArg (fun x => some (Value.ref x)) (congrArg (fun z => qx_ad G (100 + z)) ((nI_eq (a := k) (b := 3) (by omega) (by omega)).mp c_1_3).symm), rfl⟩
  refine qk_eqc (4) (fun c_1_4 => ?_) (fun c_1_4 => ?_)
  · refine qk_tableIn C dX4_wordOf_1 (4) c_1_4 (by decide) (by decide) rfl 49 rfl ?_
    refine qk_ldcS C 4 (tx := "cicero") dX4_wordOf_49 51 rfl (by decide) ?_
    exact hret _ _ _ _ dX4_wordOf_51 ⟨congrArg (fun x => some (Value.ref x)) (congrArg (fun z => qx_ad G (100 + z)) ((nI_eq (a := k) (b := 4) (by omega) (by omega)).mp c_1_4).symm), rfl⟩
  refine qk_eqc (5) (fun c_1_5 => ?_) (fun c_1_5 => ?_)
  · refine qk_tableIn C dX4_wordOf_1 (5) c_1_5 (by decide) (by decide) rfl 52 rfl ?_
    refine qk_ldcS C 5 (tx := "torso") dX4_wordOf_52 54 rfl (by decide) ?_
    exact hret _ _ _ _ dX4_wordOf_54 ⟨congrArg (fun x => some (Value.ref x)) (congrArg (fun z => qx_ad G (100 + z)) ((nI_eq (a := k) (b := 5) (by omega) (by omega)).mp c_1_5).symm), rfl⟩
  refine qk_eqc (6) (fun c_1_6 => ?_) (fun c_1_6 => ?_)
  · refine qk_tableIn C dX4_wordOf_1 (6) c_1_6 (by decide) (by decide) rfl 55 rfl ?_
    refine qk_ldcS C 6 (tx := "homer") dX4_wordOf_55 57 rfl (by decide) ?_
    exact hret _ _ _ _ dX4_wordOf_57 ⟨congrArg (fun x => some (Value.ref x)) (congrArg (fun z => qx_ad G (100 + z)) ((nI_eq (a := k) (b := 6) (by omega) (by omega)).mp c_1_6).symm), rfl⟩
  refine qk_tableOut C dX4_wordOf_1 (by have h1 := lv_neT c_1_1 (show (1 : Int32).toInt = 1 from rfl); have h2 := lv_neT c_1_2 (show (2 : Int32).toInt = 2 from rfl); have h3 := lv_neT c_1_3 (show (3 : Int32).toInt = 3 from rfl); have h4 := lv_neT c_1_4 (show (4 : Int32).toInt = 4 from rfl); have h5 := lv_neT c_1_5 (show (5 : Int32).toInt = 5 from rfl); have h6 := lv_neT c_1_6 (show (6 : Int32).toInt = 6 from rfl); omega) 58 rfl ?_
  have h1 : ¬ k = 1 := fun e => c_1_1 (by rw [e]; rfl)
  have h2 : ¬ k = 2 := fun e => c_1_2 (by rw [e]; rfl)
  have h3 : ¬ k = 3 := fun e => c_1_3 (by rw [e]; rfl)
  have h4 : ¬ k = 4 := fun e => c_1_4 (by rw [e]; rfl)
  have h5 : ¬ k = 5 := fun e => c_1_5 (by rw [e]; rfl)
  have h6 : ¬ k = 6 := fun e => c_1_6 (by rw [e]; rfl)
  have h0 : k = 0 := by omega
  refine qk_ldcS C 0 (tx := "bust") dX4_wordOf_58 60 rfl (by decide) ?_
  exact hret _ _ _ _ dX4_wordOf_60 ⟨congrArg (fun x => some (Value.ref x)) (congrArg (fun z => qx_ad G (100 + z)) h0.symm), rfl⟩

theorem c_X4_readItem (l : Launch) (G : qx_G) (ρ : qx_Sg) (N : Nat) (u r : Nat → Int32) (t p : Nat) (hJ : tJ ρ r t p) (hI : qv_ok u N) : qx_Ct l G yX4_readItem cX4_readItem 2 (some .boolean) 7 153 [.ref (qx_ad G 42)] (qL ρ 14 N u) (cPo r t ρ (t_iP r t N p) (t_ip r t N p) (cZ (t_ap (t_it r t N p) N u).1 (t_ap (t_it r t N p) N u).2)) := by
  refine qx_of .boolean (lo := [(0, .ref (qx_ad G 42))]) (by decide +kernel) (Nat.le_of_ble_eq_true rfl) rfl (fun Δ (C : qx_C G Δ cX4_readItem RX4 2 7 153) hret => ?_)
  have hN8 := hI.1
  refine qk_aloadn C dX4_readItem_0 1 rfl rfl 0 rfl ?_
  refine qk_get C dX4_readItem_1 4 rfl qf_X4_18 42 (by decide) rfl rfl ?_
  refine qk_ldcS C 10 (tx := "bequest") dX4_readItem_4 6 rfl (by decide) ?_
  refine qk_callV C dX4_readItem_6 9 rfl ql_X4_46 qc_X3_isWord 40 (by decide) rfl rfl (c_rdW2 l G ρ r t p hJ N hN8 u 10 (by omega)) rfl rfl (Nat.le_of_ble_eq_true rfl) ⟨(Nat.le_of_ble_eq_true rfl), (Nat.le_of_ble_eq_true rfl)⟩ (qx_Ki ?_)
  refine qk_if_eqB C dX4_readItem_9 17 rfl 12 rfl (fun c_9 => ?_) (fun c_9 => ?_)
  · refine qk_aloadn C dX4_readItem_17 18 rfl rfl 0 rfl ?_
    refine qk_get C dX4_readItem_18 21 rfl qf_X4_18 42 (by decide) rfl rfl ?_
    refine qk_ldcS C 11 (tx := "store") dX4_readItem_21 23 rfl (by decide) ?_
    refine qk_callV C dX4_readItem_23 26 rfl ql_X4_46 qc_X3_isWord 40 (by decide) rfl rfl (c_rdW2 l G ρ r t p hJ N hN8 u 11 (by omega)) rfl rfl (Nat.le_of_ble_eq_true rfl) ⟨(Nat.le_of_ble_eq_true rfl), (Nat.le_of_ble_eq_true rfl)⟩ (qx_Ki ?_)
    refine qk_if_eqB C dX4_readItem_26 34 rfl 29 rfl (fun c_26 => ?_) (fun c_26 => ?_)
    · refine qk_iconst C (nI 0) dX4_readItem_34 35 rfl rfl ?_
      refine qk_istoren C dX4_readItem_35 36 rfl rfl (by decide) rfl ?_
      have lp_36 : ∀ (n_36 : Nat) (k : Nat), (k ≤ 7 ∧ ∀ c, c < k → ¬ t_w r t c p) → 7 - k < n_36 → qx_K l G Δ (qL ρ 14 N u) 36 [(1, .int (nI k)), (0, .ref (qx_ad G 42))] [] := by
        intro n_36
        induction n_36 with
        | zero => intro _ _ h9; exact absurd h9 (Nat.not_lt_zero _)
        | succ n_36 ih_36 =>
          intro k hk hm_36
          refine qk_iloadn C dX4_readItem_36 37 rfl rfl 0 rfl ?_
          refine qk_bipush C (nI 7) dX4_readItem_37 39 rfl rfl ?_
          refine qk_icmp_ge C dX4_readItem_39 68 rfl 42 rfl (fun c_39 => ?_) (fun c_39 => ?_)
          · have h7 : 7 ≤ k := (nI_leI (by omega) (by omega)).mp c_39
            refine qk_iconst C (0) dX4_readItem_68 69 rfl rfl ?_
            exact hret _ _ _ _ dX4_readItem_69 (cPo_f (t_i0 c_9 c_26 (fun c hc => hk.2 c (by omega))).1 hN8 (by rw [(t_i0 c_9 c_26 (fun c hc => hk.2 c (by omega))).2]; exact hJ) cTr.rf) rfl
          · have h7 : k < 7 := Nat.not_le.mp (fun q => c_39 (nI_le q (by omega)))
            refine qk_aloadn C dX4_readItem_42 43 rfl rfl 1 rfl ?_
            refine qk_get C dX4_readItem_43 46 rfl qf_X4_18 42 (by decide) rfl rfl ?_
            refine qk_iloadn C dX4_readItem_46 47 rfl rfl 0 rfl ?_
            refine qk_callS C dX4_readItem_47 50 rfl ql_X4_58 qc_X4_wordOf (c_X4_wordOf l G _ k h7) rfl rfl (Nat.le_of_ble_eq_true rfl) ⟨(Nat.le_of_ble_eq_true rfl), (Nat.le_of_ble_eq_true rfl)⟩ (qx_Kr ?_)
            refine qk_callV C dX4_readItem_50 53 rfl ql_X4_46 qc_X3_isWord 40 (by decide) rfl rfl (c_rdW2 l G ρ r t p hJ N hN8 u k (by omega)) rfl rfl (Nat.le_of_ble_eq_true rfl) ⟨(Nat.le_of_ble_eq_true rfl), (Nat.le_of_ble_eq_true rfl)⟩ (qx_Ki ?_)
            refine qk_if_eqB C dX4_readItem_53 62 rfl 56 rfl (fun c_53 => ?_) (fun c_53 => ?_)
            · refine qk_iinc C (nI (k + 1)) dX4_readItem_62 65 rfl 0 rfl (nI_1 k) (by decide) rfl ?_
              refine qk_goto C dX4_readItem_65 36 rfl ?_
              exact ih_36 (k + 1) ⟨by omega, fun c hc q => by
                  rcases Nat.lt_or_ge c k with h | h
                  · exact hk.2 c h q
                  · exact c_53 (by rw [← show c = k by omega]; exact q)⟩ (by omega)
            · refine qk_aloadn C dX4_readItem_56 57 rfl rfl 1 rfl ?_
              refine qk_iloadn C dX4_readItem_57 58 rfl rfl 0 rfl ?_
              refine qk_callV C dX4_readItem_58 61 rfl ql_X4_62 qc_X4_readBust 42 (by decide) rfl rfl (c_X4_readBust l G ρ N u r t p hJ hI k) rfl rfl (Nat.le_of_ble_eq_true rfl) ⟨(Nat.le_of_ble_eq_true rfl), (Nat.le_of_ble_eq_true rfl)⟩ (qx_KR ?_)
              intro ρ1 N1 u1 hN1 hJ1 hT1 hZ1
              exact hret _ _ _ _ dX4_readItem_61 (cPo_q (t_iK h7 c_53).1 hN1 (by rw [(t_iK h7 c_53).2.1]; exact hJ1) hT1 (fun z => by obtain ⟨e0, e1⟩ := hZ1 ((t_iK (N := N) h7 c_53).1.mp z); rw [(t_iK h7 c_53).2.2, t_apK h7]; exact ⟨e0, e1⟩)) (qb_nar _)
      exact lp_36 _ 0 ⟨by omega, fun c hc => by omega⟩ (Nat.lt_succ_self _)
    · refine qk_aloadn C dX4_readItem_29 30 rfl rfl 0 rfl ?_
      refine qk_callV C dX4_readItem_30 33 rfl ql_X4_55 qc_X4_readStore 42 (by decide) rfl rfl (c_X4_readStore l G ρ N u r t p hJ hI) rfl rfl (Nat.le_of_ble_eq_true rfl) ⟨(Nat.le_of_ble_eq_true rfl), (Nat.le_of_ble_eq_true rfl)⟩ (qx_KR ?_)
      intro ρ1 N1 u1 hN1 hJ1 hT1 hZ1
      exact hret _ _ _ _ dX4_readItem_33 (cPo_q (t_iS c_26).1 hN1 (by rw [(t_iS c_26).2.1]; exact hJ1) hT1 (fun z => by obtain ⟨e0, e1⟩ := hZ1 ((t_iS (N := N) c_26).1.mp z); rw [(t_iS c_26).2.2, t_apS]; exact ⟨e0, e1⟩)) (qb_nar _)
  · refine qk_aloadn C dX4_readItem_12 13 rfl rfl 0 rfl ?_
    refine qk_callV C dX4_readItem_13 16 rfl ql_X4_50 qc_X4_readBequest 42 (by decide) rfl rfl (c_X4_readBequest l G ρ N u r t p hJ hI) rfl rfl (Nat.le_of_ble_eq_true rfl) ⟨(Nat.le_of_ble_eq_true rfl), (Nat.le_of_ble_eq_true rfl)⟩ (qx_KR ?_)
    intro ρ1 N1 u1 hN1 hJ1 hT1 hZ1
    exact hret _ _ _ _ dX4_readItem_16 (cPo_q (t_iB c_9).1 hN1 (by rw [(t_iB c_9).2.1]; exact hJ1) hT1 (fun z => by obtain ⟨e0, e1⟩ := hZ1 ((t_iB (N := N) c_9).1.mp z); rw [(t_iB c_9).2.2, t_apB]; exact ⟨e0, e1⟩)) (qb_nar _)

theorem t_tx_a {r : Nat → Int32} {t N0 : Nat} {w0 : Nat → Int32} {f m N p : Nat} {w : Nat → Int32} (h : t_iP r t N p) (e : tK r t (t_ip r t N p) = 0) : t_tx r t N0 w0 (f + 1) m N w p = (nI (m + 1), (t_ap (t_it r t N p) N w).1, (t_ap (t_it r t N p) N w).2) := (tif_t h).trans (tif_t e)
theorem t_tx_b {r : Nat → Int32} {t N0 : Nat} {w0 : Nat → Int32} {f m N p : Nat} {w : Nat → Int32} (h : t_iP r t N p) (e : tK r t (t_ip r t N p) = 3) : t_tx r t N0 w0 (f + 1) m N w p = t_tx r t N0 w0 f (m + 1) (t_ap (t_it r t N p) N w).1 (t_ap (t_it r t N p) N w).2 (tE r t (t_ip r t N p)) := (tif_t h).trans ((tif_f (by rw [e]; decide)).trans (tif_t e))
theorem t_tx_c {r : Nat → Int32} {t N0 : Nat} {w0 : Nat → Int32} {f m N p : Nat} {w : Nat → Int32} (h : t_iP r t N p) (e : ¬ tK r t (t_ip r t N p) = 0) (e3 : ¬ tK r t (t_ip r t N p) = 3) : t_tx r t N0 w0 (f + 1) m N w p = (-1 - nI (tS r t (t_ip r t N p)), N0, w0) := (tif_t h).trans ((tif_f e).trans (tif_f e3))
theorem t_tx_d {r : Nat → Int32} {t N0 : Nat} {w0 : Nat → Int32} {f m N p : Nat} {w : Nat → Int32} (h : ¬ t_iP r t N p) : t_tx r t N0 w0 (f + 1) m N w p = (-1 - nI (tS r t (t_ip r t N p)), N0, w0) := tif_f h
theorem t_neg {s : Nat} (hs : s ≤ 120) : ¬ (0 : Int32) < -1 - nI s := by
  have h : ∀ s, s < 121 → ¬ (0 : Int32) < -1 - nI s := by decide +kernel
  exact h s (by omega)
def tX (r : Nat → Int32) (t N : Nat) (w : Nat → Int32) (ρ : qx_Sg) : Option Value → qx_Sg → Prop := fun v σ' => v = some (.int (t_tx r t N w 121 0 N w 0).1) ∧ ∃ ρ' N1 u1, σ' = qL ρ' 14 N1 u1 ∧ N1 ≤ 8 ∧ cTr ρ ρ' ∧ ((0 < (t_tx r t N w 121 0 N w 0).1 ∧ N1 = (t_tx r t N w 121 0 N w 0).2.1 ∧ u1 = (t_tx r t N w 121 0 N w 0).2.2 ∧ qv_ok u1 N1) ∨ (¬ 0 < (t_tx r t N w 121 0 N w 0).1 ∧ (t_tx r t N w 121 0 N w 0).2 = (N, w)))
theorem tX_f {r : Nat → Int32} {t N : Nat} {w : Nat → Int32} {ρ ρ' : qx_Sg} {N1 s : Nat} {u1 : Nat → Int32} (hN : N1 ≤ 8) (hT : cTr ρ ρ') (hs : s ≤ 120) (e : t_tx r t N w 121 0 N w 0 = (-1 - nI s, N, w)) : tX r t N w ρ (some (.int (-1 - nI s))) (qL ρ' 14 N1 u1) := by
  refine ⟨by rw [e], ρ', N1, u1, rfl, hN, hT, Or.inr ?_⟩
  rw [e]
  exact ⟨t_neg hs, rfl⟩
theorem tX_t {r : Nat → Int32} {t N : Nat} {w : Nat → Int32} {ρ ρ' : qx_Sg} {N1 m : Nat} {u1 : Nat → Int32} (hI : qv_ok u1 N1) (hT : cTr ρ ρ') (hm : m ≤ 120) (e : t_tx r t N w 121 0 N w 0 = (nI (m + 1), N1, u1)) : tX r t N w ρ (some (.int (nI (m + 1)))) (qL ρ' 14 N1 u1) := by
  refine ⟨by rw [e], ρ', N1, u1, rfl, hI.1, hT, Or.inl ?_⟩
  rw [e]
  exact ⟨show nI 0 < nI (m + 1) from nI_lt (by omega) (by omega), rfl, rfl, hI⟩
theorem c_rwT (l : Launch) (G : qx_G) (ρ : qx_Sg) (r : Nat → Int32) (t : Nat) (ht : t ≤ 120) (et : ρ 40 1 = nI t) (hr : ρ 41 = r) (N : Nat) (hN : N ≤ 8) (u : Nat → Int32) : qx_Ct l G yX3_rewind cX3_rewind 1 none 2 41 [.ref (qx_ad G 40)] (qL ρ 14 N u) (qx_pv (qL (va_up ρ 40 (t_row (ρ 40) (t_tk r t (tS r t 0) (ρ 40 5)).1 (nI (tS r t 0)) (nI (t_tk r t (tS r t 0) (ρ 40 5)).2.1) (t_tk r t (tS r t 0) (ρ 40 5)).2.2)) 14 N u)) := by
  have h := c_X3_rewind l G (qL ρ 14 N u) (ρ 40) (ρ 40 2) (ρ 40 3) (ρ 40 4) (ρ 40 5) t ht et
  have e41 : qL ρ 14 N u 41 = r := (qL_hi14 hN (by omega)).trans hr
  have e40 : qL ρ 14 N u 40 = ρ 40 := qL_hi14 hN (by omega)
  have e0 : va_up (qL ρ 14 N u) 40 (t_row (ρ 40) (ρ 40 2) (ρ 40 3) (ρ 40 4) (ρ 40 5)) = qL ρ 14 N u := by
    rw [t_row0, ← e40]
    exact m_upid
  rw [e0, qL_up hN (by omega), e41] at h
  exact h
theorem tJ_rw {ρ : qx_Sg} {r : Nat → Int32} {t : Nat} (ht : t ≤ 120) (et : ρ 40 1 = nI t) (hr : ρ 41 = r) : tJ (va_up ρ 40 (t_row (ρ 40) (t_tk r t (tS r t 0) (ρ 40 5)).1 (nI (tS r t 0)) (nI (t_tk r t (tS r t 0) (ρ 40 5)).2.1) (t_tk r t (tS r t 0) (ρ 40 5)).2.2)) r t 0 := by
  refine ⟨(qx_up_ne (by omega)).trans hr, ht, Nat.zero_le _, ?_⟩
  rw [qx_up_eq]
  exact tC_row et
theorem c_X4_readText (l : Launch) (G : qx_G) (ρ : qx_Sg) (N : Nat) (w : Nat → Int32) (hI : qv_ok w N) (r : Nat → Int32) (t : Nat) (ht : t ≤ 120) (et : ρ 40 1 = nI t) (hr : ρ 41 = r) : qx_Ct l G yX4_readText cX4_readText 2 (some .int) 8 174 [.ref (qx_ad G 42)] (qL ρ 14 N w) (tX r t N w ρ) := by
  refine qx_of .int (lo := [(0, .ref (qx_ad G 42))]) (by decide +kernel) (Nat.le_of_ble_eq_true rfl) rfl (fun Δ (C : qx_C G Δ cX4_readText RX4 2 8 174) hret => ?_)
  have hN8 := hI.1
  refine qk_aloadn C dX4_readText_0 1 rfl rfl 0 rfl ?_
  refine qk_get C dX4_readText_1 4 rfl qf_X4_18 42 (by decide) rfl rfl ?_
  refine qk_callV C dX4_readText_4 7 rfl ql_X4_26 qc_X3_rewind 40 (by decide) rfl rfl (c_rwT l G ρ r t ht et hr N hN8 w) rfl rfl (Nat.le_of_ble_eq_true rfl) ⟨(Nat.le_of_ble_eq_true rfl), (Nat.le_of_ble_eq_true rfl)⟩ (qx_Kv ?_)
  refine qk_iconst C (nI 1) dX4_readText_7 8 rfl rfl ?_
  refine qk_istoren C dX4_readText_8 9 rfl rfl (by decide) rfl ?_
  have lp_9 : ∀ (n_9 : Nat) (m N1 p1 : Nat) (u1 : Nat → Int32) (ρ1 : qx_Sg), (2 * m ≤ p1 ∧ tJ ρ1 r t p1 ∧ cTr ρ ρ1 ∧ qv_ok u1 N1 ∧ t_tx r t N w 121 0 N w 0 = t_tx r t N w (121 - m) m N1 u1 p1) → 121 - m < n_9 → qx_K l G Δ (qL ρ1 14 N1 u1) 9 [(1, .int (nI (m + 1))), (0, .ref (qx_ad G 42))] [] := by
    intro n_9
    induction n_9 with
    | zero => intro _ _ _ _ _ _ h9; exact absurd h9 (Nat.not_lt_zero _)
    | succ n_9 ih_9 =>
      intro m N1 p1 u1 ρ1 hi hm_9
      have hpt := hi.2.1.2.2.1
      have ht2 := hi.2.1.2.1
      refine qk_iloadn C dX4_readText_9 10 rfl rfl 0 rfl ?_
      refine qk_bipush C (nI 120) dX4_readText_10 12 rfl rfl ?_
      refine qk_icmp_gt C dX4_readText_12 64 rfl 15 rfl (fun c_12 => absurd c_12 (nI_nlt (by omega) (by omega))) (fun c_12 => ?_)
      refine qk_aloadn C dX4_readText_15 16 rfl rfl 1 rfl ?_
      refine qk_callV C dX4_readText_16 19 rfl ql_X4_31 qc_X4_readItem 42 (by decide) rfl rfl (c_X4_readItem l G ρ1 N1 u1 r t p1 hi.2.1 hi.2.2.2.1) rfl rfl (Nat.le_of_ble_eq_true rfl) ⟨(Nat.le_of_ble_eq_true rfl), (Nat.le_of_ble_eq_true rfl)⟩ (qx_KR ?_)
      intro ρ2 N2 u2 hN2 hJ2 hT2 hZ2
      refine qk_if_neB C dX4_readText_19 25 rfl 22 rfl (fun c_19 => ?_) (fun c_19 => ?_)
      · obtain ⟨e0, e1⟩ := hZ2 c_19
        rw [e0, e1]
        have hI2 := qv_it hi.2.2.2.1 c_19
        have hlt := t_ip_lt hpt c_19
        refine qk_aloadn C dX4_readText_25 26 rfl rfl 1 rfl ?_
        refine qk_get C dX4_readText_26 29 rfl qf_X4_18 42 (by decide) rfl rfl ?_
        refine qk_get C dX4_readText_29 32 rfl qf_X4_35 40 (by decide) rfl rfl ?_
        refine qk_cast (show _ = tK r t (t_ip r t N1 p1) from by rw [qL_hi14 hI2.1 (by omega)]; exact hJ2.2.2.2.2.1) ?_
        refine qk_if_ne C dX4_readText_32 37 rfl 35 rfl (fun c_32 => ?_) (fun c_32 => ?_)
        · refine qk_aloadn C dX4_readText_37 38 rfl rfl 1 rfl ?_
          refine qk_get C dX4_readText_38 41 rfl qf_X4_18 42 (by decide) rfl rfl ?_
          refine qk_get C dX4_readText_41 44 rfl qf_X4_35 40 (by decide) rfl rfl ?_
          refine qk_cast (show _ = tK r t (t_ip r t N1 p1) from by rw [qL_hi14 hI2.1 (by omega)]; exact hJ2.2.2.2.2.1) ?_
          refine qk_iconst C (3) dX4_readText_44 45 rfl rfl ?_
          refine qk_icmp_eq C dX4_readText_45 51 rfl 48 rfl (fun c_45 => ?_) (fun c_45 => ?_)
          · have hlt2 := tE_lt (r := r) hJ2.2.2.1 c_32
            refine qk_aloadn C dX4_readText_51 52 rfl rfl 1 rfl ?_
            refine qk_get C dX4_readText_52 55 rfl qf_X4_18 42 (by decide) rfl rfl ?_
            refine qk_callV C dX4_readText_55 58 rfl ql_X4_38 qc_X3_readToken 40 (by decide) rfl rfl (c_rdT2 l G ρ2 r t (t_ip r t N1 p1) hJ2 _ hI2.1 _) rfl rfl (Nat.le_of_ble_eq_true rfl) ⟨(Nat.le_of_ble_eq_true rfl), (Nat.le_of_ble_eq_true rfl)⟩ (qx_Kv ?_)
            refine qk_iinc C (nI (m + 1 + 1)) dX4_readText_58 61 rfl 0 rfl (nI_1 (m + 1)) (by decide) rfl ?_
            refine qk_goto C dX4_readText_61 9 rfl ?_
            exact ih_9 (m + 1) (t_ap (t_it r t N1 p1) N1 u1).1 (tE r t (t_ip r t N1 p1)) (t_ap (t_it r t N1 p1) N1 u1).2 (cN r t ρ2) ⟨by omega, tJ_nx hJ2, (hi.2.2.1.tr hT2).p40, hI2, hi.2.2.2.2.trans (by rw [show 121 - m = (120 - m) + 1 by omega, t_tx_b c_19 c_45, show 121 - (m + 1) = 120 - m by omega])⟩ (by omega)
          · refine qk_goto C dX4_readText_48 64 rfl ?_
            refine qk_iconst C ((-1)) dX4_readText_64 65 rfl rfl ?_
            refine qk_aloadn C dX4_readText_65 66 rfl rfl 1 rfl ?_
            refine qk_get C dX4_readText_66 69 rfl qf_X4_18 42 (by decide) rfl rfl ?_
            refine qk_get C dX4_readText_69 72 rfl qf_X4_41 40 (by decide) rfl rfl ?_
            refine qk_cast (show _ = nI (tS r t (t_ip r t N1 p1)) from by rw [qL_hi14 (by first | exact hI2.1 | exact hN2) (by omega)]; exact hJ2.2.2.2.2.2.1) ?_
            refine qk_isub C dX4_readText_72 73 rfl ?_
            exact hret _ _ _ _ dX4_readText_73 (tX_f hI2.1 (hi.2.2.1.tr hT2) (Nat.le_trans (tS_le hJ2.2.2.1).2 hJ2.2.1) (hi.2.2.2.2.trans (by rw [show 121 - m = (120 - m) + 1 by omega]; exact t_tx_c c_19 c_32 c_45))) rfl
        · refine qk_iloadn C dX4_readText_35 36 rfl rfl 0 rfl ?_
          exact hret _ _ _ _ dX4_readText_36 (tX_t hI2 (hi.2.2.1.tr hT2) (by omega) (hi.2.2.2.2.trans (by rw [show 121 - m = (120 - m) + 1 by omega]; exact t_tx_a c_19 c_32))) rfl
      · refine qk_goto C dX4_readText_22 64 rfl ?_
        refine qk_iconst C ((-1)) dX4_readText_64 65 rfl rfl ?_
        refine qk_aloadn C dX4_readText_65 66 rfl rfl 1 rfl ?_
        refine qk_get C dX4_readText_66 69 rfl qf_X4_18 42 (by decide) rfl rfl ?_
        refine qk_get C dX4_readText_69 72 rfl qf_X4_41 40 (by decide) rfl rfl ?_
        refine qk_cast (show _ = nI (tS r t (t_ip r t N1 p1)) from by rw [qL_hi14 (by first | exact hI2.1 | exact hN2) (by omega)]; exact hJ2.2.2.2.2.2.1) ?_
        refine qk_isub C dX4_readText_72 73 rfl ?_
        exact hret _ _ _ _ dX4_readText_73 (tX_f hN2 (hi.2.2.1.tr hT2) (Nat.le_trans (tS_le hJ2.2.2.1).2 hJ2.2.1) (hi.2.2.2.2.trans (by rw [show 121 - m = (120 - m) + 1 by omega]; exact t_tx_d c_19))) rfl
  exact lp_9 _ 0 N 0 w _ ⟨by omega, tJ_rw ht et hr, cTr.rf.p40, hI, rfl⟩ (Nat.lt_succ_self _)

theorem qx_KX {l : Launch} {G : qx_G} {Δ : qx_T} {lo : List (Nat × Value)} {st : List Value} {pc' : Nat} {r : Nat → Int32} {t N : Nat} {w : Nat → Int32} {ρ : qx_Sg} (K : ∀ ρ' N1 u1, N1 ≤ 8 → cTr ρ ρ' → ((0 < (t_tx r t N w 121 0 N w 0).1 ∧ N1 = (t_tx r t N w 121 0 N w 0).2.1 ∧ u1 = (t_tx r t N w 121 0 N w 0).2.2 ∧ qv_ok u1 N1) ∨ (¬ 0 < (t_tx r t N w 121 0 N w 0).1 ∧ (t_tx r t N w 121 0 N w 0).2 = (N, w))) → qx_K l G Δ (qL ρ' 14 N1 u1) pc' lo (.int (t_tx r t N w 121 0 N w 0).1 :: st)) : ∀ v σ', tX r t N w ρ v σ' → qx_K l G Δ σ' pc' lo (v.toList ++ st) := by
  rintro v σ' ⟨rfl, ρ', N1, u1, rfl, h1, h2, h3⟩
  exact K ρ' N1 u1 h1 h2 h3
/-- the answer of text; the row behind it; what else may have changed -/
def qPxt (σ : qx_Sg) (T : Int32 × Nat × (Nat → Int32)) : Option Value → qx_Sg → Prop := fun v σ' => v = some (.int T.1) ∧ qH σ' 1 T.2.1 T.2.2 ∧ σ' 40 1 = 0 ∧ ∀ k, k < 65 → ¬ (1 ≤ k ∧ k < 27) → ¬ k = 40 → ¬ k = 42 → σ' k = σ k
theorem qH_o {σ τ : qx_Sg} {L N : Nat} {v : Nat → Int32} (hL : qx_isL L) (hN : N ≤ 8) (h : qH σ L N v) (e : ∀ k, L ≤ k → k < L + 13 → τ k = σ k) : qH τ L N v := by
  obtain ⟨h0, h1, h2, h3, h5⟩ := h
  exact ⟨fun j hj => by rw [e _ (by omega) (by omega)]; exact h0 j hj, fun j hj => by rw [e _ (by omega) (by omega)]; exact h1 j hj, fun j hj => by rw [e _ (by omega) (by omega)]; exact h2 j hj, fun j hj => by rw [e _ (by omega) (by omega)]; exact h3 j hj, fun b hb f hf => by rw [e _ (by omega) (by omega)]; exact h5 b hb f hf⟩
theorem c_X5_text (l : Launch) (G : qx_G) (σ : qx_Sg) (N : Nat) (w : Nat → Int32) (hI : qv_ok w N) (hH : qH σ 1 N w) (t : Nat) (ht : t ≤ 120) (et : σ 40 1 = nI t) : qx_Ct l G yX5_text cX5_text 2 (some .int) 9 195 [.ref (qx_ad G 0)] (σ) (qPxt σ (t_tx (σ 41) t N w 121 0 N w 0)) := by
  refine qx_of .int (lo := [(0, .ref (qx_ad G 0))]) (by decide +kernel) (Nat.le_of_ble_eq_true rfl) rfl (fun Δ (C : qx_C G Δ cX5_text RX5 2 9 195) hret => ?_)
  have hL : qx_isL 1 := Or.inl rfl
  have hM : qx_isL 14 := Or.inr (Or.inl rfl)
  have hN8 := hI.1
  refine qk_aloadn C dX5_text_0 1 rfl rfl 0 rfl ?_
  refine qk_callV C dX5_text_1 4 rfl ql_X5_144 qc_X5_beginTrial 0 (by decide) rfl rfl (c_X5_beginTrial l G σ N w hI hH) rfl rfl (Nat.le_of_ble_eq_true rfl) ⟨(Nat.le_of_ble_eq_true rfl), (Nat.le_of_ble_eq_true rfl)⟩ (qx_Kv ?_)
  refine qk_aloadn C dX5_text_4 5 rfl rfl 0 rfl ?_
  refine qk_get C dX5_text_5 8 rfl qf_X5_38 0 (by decide) rfl rfl ?_
  refine qk_callV C dX5_text_8 11 rfl ql_X5_207 qc_X4_readText 42 (by decide) rfl rfl (c_X4_readText l G σ N w hI (σ 41) t ht et rfl) rfl rfl (Nat.le_of_ble_eq_true rfl) ⟨(Nat.le_of_ble_eq_true rfl), (Nat.le_of_ble_eq_true rfl)⟩ (qx_KX ?_)
  intro ρ1 N1 u1 hN1 hT1 hZ1
  refine qk_istoren C dX5_text_11 12 rfl rfl (by decide) rfl ?_
  refine qk_aloadn C dX5_text_12 13 rfl rfl 1 rfl ?_
  refine qk_get C dX5_text_13 16 rfl qf_X5_29 0 (by decide) rfl rfl ?_
  refine qk_iconst C (0) dX5_text_16 17 rfl rfl ?_
  refine qk_put C .int dX5_text_17 20 rfl qf_X5_201 40 (by decide) rfl (fun q hq => by cases hq; rfl) rfl rfl (Nat.le_of_ble_eq_true rfl) rfl ?_
  refine qk_iloadn C dX5_text_20 21 rfl rfl 0 rfl ?_
  refine qk_if_le C dX5_text_21 35 rfl 24 rfl (fun c_21 => ?_) (fun c_21 => ?_)
  · have hz : ¬ 0 < (t_tx (σ 41) t N w 121 0 N w 0).1 := Int32.not_lt.mpr c_21
    have hf : (t_tx (σ 41) t N w 121 0 N w 0).2 = (N, w) := hZ1.elim (fun q => absurd q.1 hz) (fun q => q.2)
    refine qk_iloadn C dX5_text_35 36 rfl rfl 0 rfl ?_
    exact hret _ _ _ _ dX5_text_36 (⟨rfl, by rw [hf]; exact qH_o hL hN8 hH (fun k h1 h2 => by rw [qx_up_ne (by omega), qL_o (by omega) (by omega)]; exact hT1 k (by omega) (by omega)), by rw [qx_up_eq]; rfl, fun k h1 h2 h3 h4 => by rw [qx_up_ne h3, qL_o (by omega) (by omega)]; exact hT1 k h3 h4⟩) rfl
  · have hz : 0 < (t_tx (σ 41) t N w 121 0 N w 0).1 := Int32.not_le.mp c_21
    obtain ⟨e1, e2, hI1⟩ := hZ1.elim (fun q => q.2) (fun q => absurd hz q.1)
    refine qk_aloadn C dX5_text_24 25 rfl rfl 1 rfl ?_
    refine qk_get C dX5_text_25 28 rfl qf_X5_12 0 (by decide) rfl rfl ?_
    refine qk_aloadn C dX5_text_28 29 rfl rfl 1 rfl ?_
    refine qk_get C dX5_text_29 32 rfl qf_X5_16 0 (by decide) rfl rfl ?_
    refine qk_callV C dX5_text_32 35 rfl ql_X5_210 qc_X1_copyFrom _ hL.l65 (qx_Fl hL _) rfl (c_X1_copyFrom l G 1 14 N1 hL hM (by decide) (va_up (qL ρ1 14 N1 u1) 40 (upd (qL ρ1 14 N1 u1 40) 1 0)) u1 hI1 (qH_o hM hN1 qH_qL (fun k h1 h2 => qx_up_ne (by omega)))) rfl rfl (Nat.le_of_ble_eq_true rfl) ⟨(Nat.le_of_ble_eq_true rfl), (Nat.le_of_ble_eq_true rfl)⟩ (qx_Kv ?_)
    refine qk_iloadn C dX5_text_35 36 rfl rfl 0 rfl ?_
    exact hret _ _ _ _ dX5_text_36 (⟨rfl, by rw [← e1, ← e2]; exact qH_qL, by rw [qL_o (by omega) (by omega), qx_up_eq]; rfl, fun k h1 h2 h3 h4 => by rw [qL_o (by omega) (by omega), qx_up_ne h3, qL_o (by omega) (by omega)]; exact hT1 k h3 h4⟩) rfl

