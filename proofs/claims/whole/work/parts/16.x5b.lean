/-! the methods of BustRest: what will be, what to order, draws -/
theorem qx_KP {l : Launch} {G : qx_G} {Δ : qx_T} {lo : List (Nat × Value)} {st : List Value} {σ : qx_Sg} {S : qR} {pc' : Nat} (K : ∀ σ', qEx σ S σ' → qx_K l G Δ σ' pc' lo (.int S.1 :: st)) : ∀ v σ', qPx σ S v σ' → qx_K l G Δ σ' pc' lo (v.toList ++ st) := by
  rintro v σ' ⟨rfl, h⟩; exact K σ' h
theorem qPx_same {σ σ' : qx_Sg} {S S' : qR} (e : S = S') (h : qEx σ S' σ') : qPx σ S (some (.int S'.1)) σ' := by subst e; exact ⟨rfl, h⟩
theorem qv_li {v : Nat → Int32} {N : Nat} (h : qv_ok v N) {i q : Nat} (hi : i < 6) (hq : q ≤ 12) : qv_ok (upd v (4 + i) (nI q)) N :=
  qv_upd h _ _ (fun e => by omega) (by omega) (fun j hj e => ⟨q, hq, rfl⟩) (fun b hb e => by omega) (fun b hb e => by omega) (fun b hb e => by omega) (fun j hj e => by omega)
theorem qv_kd {v : Nat → Int32} {N : Nat} (h : qv_ok v N) {b q : Nat} (hb : b < N) (hq : q ≤ 6) : qv_ok (upd v (32 + 7 * b + 0) (nI q)) N :=
  qv_upd h _ _ (fun e => by omega) (by omega) (fun j hj e => by omega) (fun c hc e => ⟨q, hq, rfl⟩) (fun c hc e => by omega) (fun c hc e => by omega) (fun j hj e => by omega)
theorem qv_fr {v : Nat → Int32} {N : Nat} (h : qv_ok v N) {b f : Nat} (x : Int32) (hb : b < N) (hf : f = 1 ∨ f = 3 ∨ f = 4 ∨ f = 5) : qv_ok (upd v (32 + 7 * b + f) x) N := qv_free h _ _ (Or.inr (Or.inr (Or.inr ⟨b, f, by have := h.1; omega, hf, rfl⟩)))
theorem z_bs_le {f : Nat → Int32} {p : Nat} {b m : Int32} (h : z_bs f p = (b, m)) (c : f p ≤ m) : z_bs f (p + 1) = (b, m) := by
  show (if f p ≤ (z_bs f p).2 then _ else _) = _
  rw [h, if_pos c]
theorem z_bs_gt {f : Nat → Int32} {p : Nat} {b m : Int32} (h : z_bs f p = (b, m)) (c : ¬ f p ≤ m) : z_bs f (p + 1) = (nI p, f p) := by
  show (if f p ≤ (z_bs f p).2 then _ else _) = _
  rw [h, if_neg c]
theorem c_X5_daysUntil (l : Launch) (G : qx_G) (σ : qx_Sg) (N : Nat) (w : Nat → Int32) (hI : qv_ok w N) (τ : qx_Sg) (hT : qTr σ τ) (hH : qH τ 1 N w) (j : Nat) (hj : j < N) (x v : Int32) : qx_Ct l G yX5_daysUntil cX5_daysUntil 5 (some .int) 4 102 [.ref (qx_ad G 0), .int (nI j), .int x, .int v] (τ) (qPx σ (z_du N w j x v)) := by
  refine qx_of .int (lo := [(0, .ref (qx_ad G 0)), (1, .int (nI j)), (2, .int x), (3, .int v)]) (by decide +kernel) (Nat.le_of_ble_eq_true rfl) rfl (fun Δ (C : qx_C G Δ cX5_daysUntil RX5 5 4 102) hret => ?_)
  have hL : qx_isL 1 := Or.inl rfl
  have hM : qx_isL 14 := Or.inr (Or.inl rfl)
  have hN8 := hI.1
  have hN1 := hI.2.1
  refine qk_aloadn C dX5_daysUntil_0 1 rfl rfl 0 rfl ?_
  refine qk_callV C dX5_daysUntil_1 4 rfl ql_X5_144 qc_X5_beginTrial 0 (by decide) rfl rfl (c_X5_beginTrial l G τ N w hI hH) rfl rfl (Nat.le_of_ble_eq_true rfl) ⟨(Nat.le_of_ble_eq_true rfl), (Nat.le_of_ble_eq_true rfl)⟩ (qx_Kv ?_)
  refine qk_iconst C (nI 0) dX5_daysUntil_4 5 rfl rfl ?_
  refine qk_istore C dX5_daysUntil_5 7 rfl (by decide) rfl ?_
  have lp_7 : ∀ (n_7 : Nat) (d : Nat), (d ≤ 201 ∧ z_ls (fun d => ¬ z_tell (z_row (z_dn w N d) j) x < v) 201 0 = z_ls (fun d => ¬ z_tell (z_row (z_dn w N d) j) x < v) (201 - d) d) → 201 - d < n_7 → qx_K l G Δ (qL τ 14 N (z_dn w N d)) 7 [(4, .int (nI d)), (0, .ref (qx_ad G 0)), (1, .int (nI j)), (2, .int x), (3, .int v)] [] := by
    intro n_7
    induction n_7 with
    | zero => intro _ _ h9; exact absurd h9 (Nat.not_lt_zero _)
    | succ n_7 ih_7 =>
      intro d hi hm_7
      refine qk_iload C dX5_daysUntil_7 9 rfl 0 rfl ?_
      refine qk_sipush C (nI 200) dX5_daysUntil_9 12 rfl rfl ?_
      refine qk_icmp_gt C dX5_daysUntil_12 48 rfl 15 rfl (fun c_12 => ?_) (fun c_12 => ?_)
      · have h201 : d = 201 := by
          have := (nI_ltI (a := 200) (b := d) (by omega) (by omega)).mp c_12
          omega
        refine qk_aloadn C dX5_daysUntil_48 49 rfl rfl 1 rfl ?_
        refine qk_ldc C dX5_daysUntil_49 51 rfl qw_419 ?_
        refine qk_callV C dX5_daysUntil_51 54 rfl ql_X5_58 qc_X5_found 0 (by decide) rfl rfl (c_X5_found l G _ _ 3 (by decide) (by decide)) rfl rfl (Nat.le_of_ble_eq_true rfl) ⟨(Nat.le_of_ble_eq_true rfl), (Nat.le_of_ble_eq_true rfl)⟩ (qx_Ki ?_)
        exact hret _ _ _ _ dX5_daysUntil_54 (qPx_bad 3 hN8 (show z_du N w j x v = zbad 3 N w by unfold z_du; rw [hi.2, h201]; rfl) rfl (hT.tr hN8) (qH_tr hH hN8 hN8)) rfl
      · have h201 : d ≤ 200 := Nat.not_lt.mp (fun q => c_12 (nI_lt q (by omega)))
        refine qk_aloadn C dX5_daysUntil_15 16 rfl rfl 1 rfl ?_
        refine qk_get C dX5_daysUntil_16 19 rfl qf_X5_16 0 (by decide) rfl rfl ?_
        refine qk_get C dX5_daysUntil_19 22 rfl qf_X5_77 _ hM.l65 (qx_Fl hM _) rfl ?_
        refine qk_iloadn C dX5_daysUntil_22 23 rfl rfl 2 rfl ?_
        refine qk_aald C dX5_daysUntil_23 24 rfl (14 + 4) hM.l4 1 (qx_Fl4 hM _) rfl (j) rfl (by omega) (by decide) rfl ?_
        refine qk_iloadn C dX5_daysUntil_24 25 rfl rfl 3 rfl ?_
        refine qk_callV C dX5_daysUntil_25 28 rfl ql_X5_81 qc_X0_told _ (qx_isB.of hM (show j < 8 by omega)).lt (qx_Fb (qx_isB.of hM (show j < 8 by omega)) _) rfl (cL_X0_told l G 14 N j hM hN8 hj τ (z_dn w N d) _) rfl rfl (Nat.le_of_ble_eq_true rfl) ⟨(Nat.le_of_ble_eq_true rfl), (Nat.le_of_ble_eq_true rfl)⟩ (qx_Ki ?_)
        refine qk_iloadn C dX5_daysUntil_28 29 rfl rfl 4 rfl ?_
        refine qk_icmp_lt C dX5_daysUntil_29 35 rfl 32 rfl (fun c_29 => ?_) (fun c_29 => ?_)
        · refine qk_aloadn C dX5_daysUntil_35 36 rfl rfl 1 rfl ?_
          refine qk_get C dX5_daysUntil_36 39 rfl qf_X5_16 0 (by decide) rfl rfl ?_
          refine qk_callV C dX5_daysUntil_39 42 rfl ql_X5_147 qc_X1_passDay _ hM.l65 (qx_Fl hM _) rfl (c_X1_passDay l G 14 N hM τ _ (qv_dn hI d)) rfl rfl (Nat.le_of_ble_eq_true rfl) ⟨(Nat.le_of_ble_eq_true rfl), (Nat.le_of_ble_eq_true rfl)⟩ (qx_Kv ?_)
          refine qk_iinc C (nI (d + 1)) dX5_daysUntil_42 45 rfl 0 rfl (nI_1 d) (by decide) rfl ?_
          refine qk_goto C dX5_daysUntil_45 7 rfl ?_
          exact ih_7 (d + 1) ⟨by omega, by rw [hi.2, show 201 - d = (201 - (d + 1)) + 1 by omega]; exact z_ls_f (fun q => q c_29)⟩ (by omega)
        · refine qk_iload C dX5_daysUntil_32 34 rfl 0 rfl ?_
          exact hret _ _ _ _ dX5_daysUntil_34 (qPx_ok (show z_du N w j x v = zok (nI d) N w by unfold z_du; rw [hi.2, show 201 - d = (201 - (d + 1)) + 1 by omega, z_ls_t c_29]; rfl) rfl (hT.tr hN8) (qH_tr hH hN8 hN8)) rfl
  exact lp_7 _ 0 ⟨by omega, rfl⟩ (Nat.lt_succ_self _)

theorem c_X5_leaves (l : Launch) (G : qx_G) (σ : qx_Sg) (N : Nat) (w : Nat → Int32) (hI : qv_ok w N) (hH : qH σ 1 N w) (b : Int32) : qx_Ct l G yX5_leaves cX5_leaves 2 (some .int) 5 126 [.ref (qx_ad G 0), .int b] (σ) (qPx σ (S_leaves N w b)) := by
  refine qx_of .int (lo := [(0, .ref (qx_ad G 0)), (1, .int b)]) (by decide +kernel) (Nat.le_of_ble_eq_true rfl) rfl (fun Δ (C : qx_C G Δ cX5_leaves RX5 2 5 126) hret => ?_)
  have hL : qx_isL 1 := Or.inl rfl
  have hM : qx_isL 14 := Or.inr (Or.inl rfl)
  have hN8 := hI.1
  have hN1 := hI.2.1
  have hT : qTr σ (qL σ 1 N w) := qTr.rf.li hN8
  have hW : qH (qL σ 1 N w) 1 N w := qH_qL
  refine qk_cg (qL σ 1 N w) (qH_w hH hL hN8) ?_
  refine qk_aloadn C dX5_leaves_0 1 rfl rfl 0 rfl ?_
  refine qk_iloadn C dX5_leaves_1 2 rfl rfl 1 rfl ?_
  refine qk_callV C dX5_leaves_2 5 rfl ql_X5_73 qc_X5_isBust 0 (by decide) rfl rfl (c_X5_isBust l G σ N w hI _) rfl rfl (Nat.le_of_ble_eq_true rfl) ⟨(Nat.le_of_ble_eq_true rfl), (Nat.le_of_ble_eq_true rfl)⟩ (qx_Ki ?_)
  refine qk_if_neB C dX5_leaves_5 15 rfl 8 rfl (fun c_5 => ?_) (fun c_5 => ?_)
  · obtain ⟨jb, hjb, rfl⟩ := z_ib_ex c_5 hN8
    refine qk_aloadn C dX5_leaves_15 16 rfl rfl 0 rfl ?_
    refine qk_iloadn C dX5_leaves_16 17 rfl rfl 1 rfl ?_
    refine qk_bipush C (6) dX5_leaves_17 19 rfl rfl ?_
    refine qk_iconst C (1) dX5_leaves_19 20 rfl rfl ?_
    refine qk_callV C dX5_leaves_20 23 rfl ql_X5_150 qc_X5_daysUntil 0 (by decide) rfl rfl (c_X5_daysUntil l G σ N w hI (qL σ 1 N w) hT hW jb hjb _ _) rfl rfl (Nat.le_of_ble_eq_true rfl) ⟨(Nat.le_of_ble_eq_true rfl), (Nat.le_of_ble_eq_true rfl)⟩ (qx_KP ?_)
    intro σ1 hE
    exact hret _ _ _ _ dX5_leaves_23 (qPx_same ((zif_t c_5).trans (by rw [zn_nI (show jb < 2 ^ 31 by omega)])) hE) rfl
  · refine qk_aloadn C dX5_leaves_8 9 rfl rfl 0 rfl ?_
    refine qk_ldc C dX5_leaves_9 11 rfl qw_321 ?_
    refine qk_callV C dX5_leaves_11 14 rfl ql_X5_58 qc_X5_found 0 (by decide) rfl rfl (c_X5_found l G _ _ 0 (by decide) (by decide)) rfl rfl (Nat.le_of_ble_eq_true rfl) ⟨(Nat.le_of_ble_eq_true rfl), (Nat.le_of_ble_eq_true rfl)⟩ (qx_Ki ?_)
    exact hret _ _ _ _ dX5_leaves_14 (qPx_bad 0 hN8 ((zif_f (by first | exact fun q => c_5 q))) rfl hT hW) rfl

theorem c_X5_voice (l : Launch) (G : qx_G) (σ : qx_Sg) (N : Nat) (w : Nat → Int32) (hI : qv_ok w N) (hH : qH σ 1 N w) (b v : Int32) : qx_Ct l G yX5_voice cX5_voice 3 (some .int) 5 126 [.ref (qx_ad G 0), .int b, .int v] (σ) (qPx σ (S_voice N w b v)) := by
  refine qx_of .int (lo := [(0, .ref (qx_ad G 0)), (1, .int b), (2, .int v)]) (by decide +kernel) (Nat.le_of_ble_eq_true rfl) rfl (fun Δ (C : qx_C G Δ cX5_voice RX5 3 5 126) hret => ?_)
  have hL : qx_isL 1 := Or.inl rfl
  have hM : qx_isL 14 := Or.inr (Or.inl rfl)
  have hN8 := hI.1
  have hN1 := hI.2.1
  have hT : qTr σ (qL σ 1 N w) := qTr.rf.li hN8
  have hW : qH (qL σ 1 N w) 1 N w := qH_qL
  refine qk_cg (qL σ 1 N w) (qH_w hH hL hN8) ?_
  refine qk_aloadn C dX5_voice_0 1 rfl rfl 0 rfl ?_
  refine qk_iloadn C dX5_voice_1 2 rfl rfl 1 rfl ?_
  refine qk_callV C dX5_voice_2 5 rfl ql_X5_73 qc_X5_isBust 0 (by decide) rfl rfl (c_X5_isBust l G σ N w hI _) rfl rfl (Nat.le_of_ble_eq_true rfl) ⟨(Nat.le_of_ble_eq_true rfl), (Nat.le_of_ble_eq_true rfl)⟩ (qx_Ki ?_)
  refine qk_if_eqB C dX5_voice_5 18 rfl 8 rfl (fun c_5 => ?_) (fun c_5 => ?_)
  · refine qk_aloadn C dX5_voice_18 19 rfl rfl 0 rfl ?_
    refine qk_ldc C dX5_voice_19 21 rfl qw_321 ?_
    refine qk_callV C dX5_voice_21 24 rfl ql_X5_58 qc_X5_found 0 (by decide) rfl rfl (c_X5_found l G _ _ 0 (by decide) (by decide)) rfl rfl (Nat.le_of_ble_eq_true rfl) ⟨(Nat.le_of_ble_eq_true rfl), (Nat.le_of_ble_eq_true rfl)⟩ (qx_Ki ?_)
    exact hret _ _ _ _ dX5_voice_24 (qPx_bad 0 hN8 ((zif_f (by first | exact fun q => c_5 q.1 | exact fun q => c_15 q.2))) rfl hT hW) rfl
  · refine qk_iloadn C dX5_voice_8 9 rfl rfl 2 rfl ?_
    refine qk_sipush C (9999) dX5_voice_9 12 rfl rfl ?_
    refine qk_callS C dX5_voice_12 15 rfl ql_X5_53 qc_X5_within (c_X5_within l G _ _ _) rfl rfl (Nat.le_of_ble_eq_true rfl) ⟨(Nat.le_of_ble_eq_true rfl), (Nat.le_of_ble_eq_true rfl)⟩ (qx_Ki ?_)
    refine qk_if_neB C dX5_voice_15 25 rfl 18 rfl (fun c_15 => ?_) (fun c_15 => ?_)
    · obtain ⟨jb, hjb, rfl⟩ := z_ib_ex c_5 hN8
      refine qk_aloadn C dX5_voice_25 26 rfl rfl 0 rfl ?_
      refine qk_iloadn C dX5_voice_26 27 rfl rfl 1 rfl ?_
      refine qk_bipush C (10) dX5_voice_27 29 rfl rfl ?_
      refine qk_iloadn C dX5_voice_29 30 rfl rfl 2 rfl ?_
      refine qk_callV C dX5_voice_30 33 rfl ql_X5_150 qc_X5_daysUntil 0 (by decide) rfl rfl (c_X5_daysUntil l G σ N w hI (qL σ 1 N w) hT hW jb hjb _ _) rfl rfl (Nat.le_of_ble_eq_true rfl) ⟨(Nat.le_of_ble_eq_true rfl), (Nat.le_of_ble_eq_true rfl)⟩ (qx_KP ?_)
      intro σ1 hE
      exact hret _ _ _ _ dX5_voice_33 (qPx_same ((zif_t ⟨c_5, c_15⟩).trans (by rw [zn_nI (show jb < 2 ^ 31 by omega)])) hE) rfl
    · refine qk_aloadn C dX5_voice_18 19 rfl rfl 0 rfl ?_
      refine qk_ldc C dX5_voice_19 21 rfl qw_321 ?_
      refine qk_callV C dX5_voice_21 24 rfl ql_X5_58 qc_X5_found 0 (by decide) rfl rfl (c_X5_found l G _ _ 0 (by decide) (by decide)) rfl rfl (Nat.le_of_ble_eq_true rfl) ⟨(Nat.le_of_ble_eq_true rfl), (Nat.le_of_ble_eq_true rfl)⟩ (qx_Ki ?_)
      exact hret _ _ _ _ dX5_voice_24 (qPx_bad 0 hN8 ((zif_f (by first | exact fun q => c_5 q.1 | exact fun q => c_15 q.2))) rfl hT hW) rfl

theorem c_X5_ahead (l : Launch) (G : qx_G) (σ : qx_Sg) (N : Nat) (w : Nat → Int32) (hI : qv_ok w N) (hH : qH σ 1 N w) (b x n : Int32) : qx_Ct l G yX5_ahead cX5_ahead 5 (some .int) 5 113 [.ref (qx_ad G 0), .int b, .int x, .int n] (σ) (qPx σ (S_ahead N w b x n)) := by
  refine qx_of .int (lo := [(0, .ref (qx_ad G 0)), (1, .int b), (2, .int x), (3, .int n)]) (by decide +kernel) (Nat.le_of_ble_eq_true rfl) rfl (fun Δ (C : qx_C G Δ cX5_ahead RX5 5 5 113) hret => ?_)
  have hL : qx_isL 1 := Or.inl rfl
  have hM : qx_isL 14 := Or.inr (Or.inl rfl)
  have hN8 := hI.1
  have hN1 := hI.2.1
  have hT : qTr σ (qL σ 1 N w) := qTr.rf.li hN8
  have hW : qH (qL σ 1 N w) 1 N w := qH_qL
  refine qk_cg (qL σ 1 N w) (qH_w hH hL hN8) ?_
  refine qk_iloadn C dX5_ahead_0 1 rfl rfl 2 rfl ?_
  refine qk_iconst C (2) dX5_ahead_1 2 rfl rfl ?_
  refine qk_icmp_eq C dX5_ahead_2 27 rfl 5 rfl (fun c_2 => ?_) (fun c_2 => ?_)
  · refine qk_iconst C (1) dX5_ahead_27 28 rfl rfl ?_
    refine qk_goto C dX5_ahead_28 32 rfl ?_
    refine qk_istore C dX5_ahead_32 34 rfl (by decide) rfl ?_
    refine qk_aloadn C dX5_ahead_34 35 rfl rfl 1 rfl ?_
    refine qk_iloadn C dX5_ahead_35 36 rfl rfl 2 rfl ?_
    refine qk_callV C dX5_ahead_36 39 rfl ql_X5_73 qc_X5_isBust 0 (by decide) rfl rfl (c_X5_isBust l G σ N w hI _) rfl rfl (Nat.le_of_ble_eq_true rfl) ⟨(Nat.le_of_ble_eq_true rfl), (Nat.le_of_ble_eq_true rfl)⟩ (qx_Ki ?_)
    refine qk_if_eqB C dX5_ahead_39 56 rfl 42 rfl (fun c_39 => ?_) (fun c_39 => ?_)
    · refine qk_aloadn C dX5_ahead_56 57 rfl rfl 1 rfl ?_
      refine qk_ldc C dX5_ahead_57 59 rfl qw_321 ?_
      refine qk_callV C dX5_ahead_59 62 rfl ql_X5_58 qc_X5_found 0 (by decide) rfl rfl (c_X5_found l G _ _ 0 (by decide) (by decide)) rfl rfl (Nat.le_of_ble_eq_true rfl) ⟨(Nat.le_of_ble_eq_true rfl), (Nat.le_of_ble_eq_true rfl)⟩ (qx_Ki ?_)
      exact hret _ _ _ _ dX5_ahead_62 (qPx_bad 0 hN8 (zif_f (by first | exact fun q => c_39 q.2.1 | exact fun q => c_53 q.2.2 | exact fun q => (by unfold z_five at q; exact q.1.elim c_2 (fun q => q.elim c_7 (fun q => q.elim c_12 (fun q => q.elim c_18 c_24))))) ) rfl hT hW) rfl
    · refine qk_iload C dX5_ahead_42 44 rfl 0 rfl ?_
      refine qk_if_eq C dX5_ahead_44 56 rfl 47 rfl (fun c => absurd c (by decide)) (fun _ => ?_)
      refine qk_iloadn C dX5_ahead_47 48 rfl rfl 4 rfl ?_
      refine qk_bipush C (100) dX5_ahead_48 50 rfl rfl ?_
      refine qk_callS C dX5_ahead_50 53 rfl ql_X5_53 qc_X5_within (c_X5_within l G _ _ _) rfl rfl (Nat.le_of_ble_eq_true rfl) ⟨(Nat.le_of_ble_eq_true rfl), (Nat.le_of_ble_eq_true rfl)⟩ (qx_Ki ?_)
      refine qk_if_neB C dX5_ahead_53 63 rfl 56 rfl (fun c_53 => ?_) (fun c_53 => ?_)
      · obtain ⟨jb, hjb, rfl⟩ := z_ib_ex c_39 hN8
        obtain ⟨jn, hjn, rfl⟩ := z_in_ex 100 rfl (by omega) c_53
        refine qk_aloadn C dX5_ahead_63 64 rfl rfl 1 rfl ?_
        refine qk_callV C dX5_ahead_64 67 rfl ql_X5_144 qc_X5_beginTrial 0 (by decide) rfl rfl (c_X5_beginTrial l G (qL σ 1 N w) N w hI hW) rfl rfl (Nat.le_of_ble_eq_true rfl) ⟨(Nat.le_of_ble_eq_true rfl), (Nat.le_of_ble_eq_true rfl)⟩ (qx_Kv ?_)
        refine qk_aloadn C dX5_ahead_67 68 rfl rfl 1 rfl ?_
        refine qk_get C dX5_ahead_68 71 rfl qf_X5_16 0 (by decide) rfl rfl ?_
        refine qk_iloadn C dX5_ahead_71 72 rfl rfl 4 rfl ?_
        refine qk_callV C dX5_ahead_72 75 rfl ql_X5_119 qc_X1_passDays _ hM.l65 (qx_Fl hM _) rfl (c_X1_passDays l G 14 N hM _ w hI jn (by omega)) rfl rfl (Nat.le_of_ble_eq_true rfl) ⟨(Nat.le_of_ble_eq_true rfl), (Nat.le_of_ble_eq_true rfl)⟩ (qx_Kv ?_)
        refine qk_aloadn C dX5_ahead_75 76 rfl rfl 1 rfl ?_
        refine qk_get C dX5_ahead_76 79 rfl qf_X5_16 0 (by decide) rfl rfl ?_
        refine qk_get C dX5_ahead_79 82 rfl qf_X5_77 _ hM.l65 (qx_Fl hM _) rfl ?_
        refine qk_iloadn C dX5_ahead_82 83 rfl rfl 2 rfl ?_
        refine qk_aald C dX5_ahead_83 84 rfl (14 + 4) hM.l4 1 (qx_Fl4 hM _) rfl (jb) rfl (by omega) (by decide) rfl ?_
        refine qk_iloadn C dX5_ahead_84 85 rfl rfl 3 rfl ?_
        refine qk_callV C dX5_ahead_85 88 rfl ql_X5_81 qc_X0_told _ (qx_isB.of hM (show jb < 8 by omega)).lt (qx_Fb (qx_isB.of hM (show jb < 8 by omega)) _) rfl (cL_X0_told l G 14 N jb hM hN8 hjb _ (z_dn w N jn) _) rfl rfl (Nat.le_of_ble_eq_true rfl) ⟨(Nat.le_of_ble_eq_true rfl), (Nat.le_of_ble_eq_true rfl)⟩ (qx_Ki ?_)
        exact hret _ _ _ _ dX5_ahead_88 (qPx_ok ((zif_t ⟨by unfold z_five; first | exact Or.inl c_2 | exact Or.inr (Or.inl c_7) | exact Or.inr (Or.inr (Or.inl c_12)) | exact Or.inr (Or.inr (Or.inr (Or.inl c_18))) | exact Or.inr (Or.inr (Or.inr (Or.inr c_24))), c_39, c_53⟩).trans (by rw [zn_nI (show jb < 2 ^ 31 by omega), zn_nI (show jn < 2 ^ 31 by omega)])) rfl (hT.tr hN8) (qH_tr hW hN8 hN8)) rfl
      · refine qk_aloadn C dX5_ahead_56 57 rfl rfl 1 rfl ?_
        refine qk_ldc C dX5_ahead_57 59 rfl qw_321 ?_
        refine qk_callV C dX5_ahead_59 62 rfl ql_X5_58 qc_X5_found 0 (by decide) rfl rfl (c_X5_found l G _ _ 0 (by decide) (by decide)) rfl rfl (Nat.le_of_ble_eq_true rfl) ⟨(Nat.le_of_ble_eq_true rfl), (Nat.le_of_ble_eq_true rfl)⟩ (qx_Ki ?_)
        exact hret _ _ _ _ dX5_ahead_62 (qPx_bad 0 hN8 (zif_f (by first | exact fun q => c_39 q.2.1 | exact fun q => c_53 q.2.2 | exact fun q => (by unfold z_five at q; exact q.1.elim c_2 (fun q => q.elim c_7 (fun q => q.elim c_12 (fun q => q.elim c_18 c_24))))) ) rfl hT hW) rfl
  · refine qk_iloadn C dX5_ahead_5 6 rfl rfl 2 rfl ?_
    refine qk_iconst C (3) dX5_ahead_6 7 rfl rfl ?_
    refine qk_icmp_eq C dX5_ahead_7 27 rfl 10 rfl (fun c_7 => ?_) (fun c_7 => ?_)
    · refine qk_iconst C (1) dX5_ahead_27 28 rfl rfl ?_
      refine qk_goto C dX5_ahead_28 32 rfl ?_
      refine qk_istore C dX5_ahead_32 34 rfl (by decide) rfl ?_
      refine qk_aloadn C dX5_ahead_34 35 rfl rfl 1 rfl ?_
      refine qk_iloadn C dX5_ahead_35 36 rfl rfl 2 rfl ?_
      refine qk_callV C dX5_ahead_36 39 rfl ql_X5_73 qc_X5_isBust 0 (by decide) rfl rfl (c_X5_isBust l G σ N w hI _) rfl rfl (Nat.le_of_ble_eq_true rfl) ⟨(Nat.le_of_ble_eq_true rfl), (Nat.le_of_ble_eq_true rfl)⟩ (qx_Ki ?_)
      refine qk_if_eqB C dX5_ahead_39 56 rfl 42 rfl (fun c_39 => ?_) (fun c_39 => ?_)
      · refine qk_aloadn C dX5_ahead_56 57 rfl rfl 1 rfl ?_
        refine qk_ldc C dX5_ahead_57 59 rfl qw_321 ?_
        refine qk_callV C dX5_ahead_59 62 rfl ql_X5_58 qc_X5_found 0 (by decide) rfl rfl (c_X5_found l G _ _ 0 (by decide) (by decide)) rfl rfl (Nat.le_of_ble_eq_true rfl) ⟨(Nat.le_of_ble_eq_true rfl), (Nat.le_of_ble_eq_true rfl)⟩ (qx_Ki ?_)
        exact hret _ _ _ _ dX5_ahead_62 (qPx_bad 0 hN8 (zif_f (by first | exact fun q => c_39 q.2.1 | exact fun q => c_53 q.2.2 | exact fun q => (by unfold z_five at q; exact q.1.elim c_2 (fun q => q.elim c_7 (fun q => q.elim c_12 (fun q => q.elim c_18 c_24))))) ) rfl hT hW) rfl
      · refine qk_iload C dX5_ahead_42 44 rfl 0 rfl ?_
        refine qk_if_eq C dX5_ahead_44 56 rfl 47 rfl (fun c => absurd c (by decide)) (fun _ => ?_)
        refine qk_iloadn C dX5_ahead_47 48 rfl rfl 4 rfl ?_
        refine qk_bipush C (100) dX5_ahead_48 50 rfl rfl ?_
        refine qk_callS C dX5_ahead_50 53 rfl ql_X5_53 qc_X5_within (c_X5_within l G _ _ _) rfl rfl (Nat.le_of_ble_eq_true rfl) ⟨(Nat.le_of_ble_eq_true rfl), (Nat.le_of_ble_eq_true rfl)⟩ (qx_Ki ?_)
        refine qk_if_neB C dX5_ahead_53 63 rfl 56 rfl (fun c_53 => ?_) (fun c_53 => ?_)
        · obtain ⟨jb, hjb, rfl⟩ := z_ib_ex c_39 hN8
          obtain ⟨jn, hjn, rfl⟩ := z_in_ex 100 rfl (by omega) c_53
          refine qk_aloadn C dX5_ahead_63 64 rfl rfl 1 rfl ?_
          refine qk_callV C dX5_ahead_64 67 rfl ql_X5_144 qc_X5_beginTrial 0 (by decide) rfl rfl (c_X5_beginTrial l G (qL σ 1 N w) N w hI hW) rfl rfl (Nat.le_of_ble_eq_true rfl) ⟨(Nat.le_of_ble_eq_true rfl), (Nat.le_of_ble_eq_true rfl)⟩ (qx_Kv ?_)
          refine qk_aloadn C dX5_ahead_67 68 rfl rfl 1 rfl ?_
          refine qk_get C dX5_ahead_68 71 rfl qf_X5_16 0 (by decide) rfl rfl ?_
          refine qk_iloadn C dX5_ahead_71 72 rfl rfl 4 rfl ?_
          refine qk_callV C dX5_ahead_72 75 rfl ql_X5_119 qc_X1_passDays _ hM.l65 (qx_Fl hM _) rfl (c_X1_passDays l G 14 N hM _ w hI jn (by omega)) rfl rfl (Nat.le_of_ble_eq_true rfl) ⟨(Nat.le_of_ble_eq_true rfl), (Nat.le_of_ble_eq_true rfl)⟩ (qx_Kv ?_)
          refine qk_aloadn C dX5_ahead_75 76 rfl rfl 1 rfl ?_
          refine qk_get C dX5_ahead_76 79 rfl qf_X5_16 0 (by decide) rfl rfl ?_
          refine qk_get C dX5_ahead_79 82 rfl qf_X5_77 _ hM.l65 (qx_Fl hM _) rfl ?_
          refine qk_iloadn C dX5_ahead_82 83 rfl rfl 2 rfl ?_
          refine qk_aald C dX5_ahead_83 84 rfl (14 + 4) hM.l4 1 (qx_Fl4 hM _) rfl (jb) rfl (by omega) (by decide) rfl ?_
          refine qk_iloadn C dX5_ahead_84 85 rfl rfl 3 rfl ?_
          refine qk_callV C dX5_ahead_85 88 rfl ql_X5_81 qc_X0_told _ (qx_isB.of hM (show jb < 8 by omega)).lt (qx_Fb (qx_isB.of hM (show jb < 8 by omega)) _) rfl (cL_X0_told l G 14 N jb hM hN8 hjb _ (z_dn w N jn) _) rfl rfl (Nat.le_of_ble_eq_true rfl) ⟨(Nat.le_of_ble_eq_true rfl), (Nat.le_of_ble_eq_true rfl)⟩ (qx_Ki ?_)
          exact hret _ _ _ _ dX5_ahead_88 (qPx_ok ((zif_t ⟨by unfold z_five; first | exact Or.inl c_2 | exact Or.inr (Or.inl c_7) | exact Or.inr (Or.inr (Or.inl c_12)) | exact Or.inr (Or.inr (Or.inr (Or.inl c_18))) | exact Or.inr (Or.inr (Or.inr (Or.inr c_24))), c_39, c_53⟩).trans (by rw [zn_nI (show jb < 2 ^ 31 by omega), zn_nI (show jn < 2 ^ 31 by omega)])) rfl (hT.tr hN8) (qH_tr hW hN8 hN8)) rfl
        · refine qk_aloadn C dX5_ahead_56 57 rfl rfl 1 rfl ?_
          refine qk_ldc C dX5_ahead_57 59 rfl qw_321 ?_
          refine qk_callV C dX5_ahead_59 62 rfl ql_X5_58 qc_X5_found 0 (by decide) rfl rfl (c_X5_found l G _ _ 0 (by decide) (by decide)) rfl rfl (Nat.le_of_ble_eq_true rfl) ⟨(Nat.le_of_ble_eq_true rfl), (Nat.le_of_ble_eq_true rfl)⟩ (qx_Ki ?_)
          exact hret _ _ _ _ dX5_ahead_62 (qPx_bad 0 hN8 (zif_f (by first | exact fun q => c_39 q.2.1 | exact fun q => c_53 q.2.2 | exact fun q => (by unfold z_five at q; exact q.1.elim c_2 (fun q => q.elim c_7 (fun q => q.elim c_12 (fun q => q.elim c_18 c_24))))) ) rfl hT hW) rfl
    · refine qk_iloadn C dX5_ahead_10 11 rfl rfl 2 rfl ?_
      refine qk_iconst C (4) dX5_ahead_11 12 rfl rfl ?_
      refine qk_icmp_eq C dX5_ahead_12 27 rfl 15 rfl (fun c_12 => ?_) (fun c_12 => ?_)
      · refine qk_iconst C (1) dX5_ahead_27 28 rfl rfl ?_
        refine qk_goto C dX5_ahead_28 32 rfl ?_
        refine qk_istore C dX5_ahead_32 34 rfl (by decide) rfl ?_
        refine qk_aloadn C dX5_ahead_34 35 rfl rfl 1 rfl ?_
        refine qk_iloadn C dX5_ahead_35 36 rfl rfl 2 rfl ?_
        refine qk_callV C dX5_ahead_36 39 rfl ql_X5_73 qc_X5_isBust 0 (by decide) rfl rfl (c_X5_isBust l G σ N w hI _) rfl rfl (Nat.le_of_ble_eq_true rfl) ⟨(Nat.le_of_ble_eq_true rfl), (Nat.le_of_ble_eq_true rfl)⟩ (qx_Ki ?_)
        refine qk_if_eqB C dX5_ahead_39 56 rfl 42 rfl (fun c_39 => ?_) (fun c_39 => ?_)
        · refine qk_aloadn C dX5_ahead_56 57 rfl rfl 1 rfl ?_
          refine qk_ldc C dX5_ahead_57 59 rfl qw_321 ?_
          refine qk_callV C dX5_ahead_59 62 rfl ql_X5_58 qc_X5_found 0 (by decide) rfl rfl (c_X5_found l G _ _ 0 (by decide) (by decide)) rfl rfl (Nat.le_of_ble_eq_true rfl) ⟨(Nat.le_of_ble_eq_true rfl), (Nat.le_of_ble_eq_true rfl)⟩ (qx_Ki ?_)
          exact hret _ _ _ _ dX5_ahead_62 (qPx_bad 0 hN8 (zif_f (by first | exact fun q => c_39 q.2.1 | exact fun q => c_53 q.2.2 | exact fun q => (by unfold z_five at q; exact q.1.elim c_2 (fun q => q.elim c_7 (fun q => q.elim c_12 (fun q => q.elim c_18 c_24))))) ) rfl hT hW) rfl
        · refine qk_iload C dX5_ahead_42 44 rfl 0 rfl ?_
          refine qk_if_eq C dX5_ahead_44 56 rfl 47 rfl (fun c => absurd c (by decide)) (fun _ => ?_)
          refine qk_iloadn C dX5_ahead_47 48 rfl rfl 4 rfl ?_
          refine qk_bipush C (100) dX5_ahead_48 50 rfl rfl ?_
          refine qk_callS C dX5_ahead_50 53 rfl ql_X5_53 qc_X5_within (c_X5_within l G _ _ _) rfl rfl (Nat.le_of_ble_eq_true rfl) ⟨(Nat.le_of_ble_eq_true rfl), (Nat.le_of_ble_eq_true rfl)⟩ (qx_Ki ?_)
          refine qk_if_neB C dX5_ahead_53 63 rfl 56 rfl (fun c_53 => ?_) (fun c_53 => ?_)
          · obtain ⟨jb, hjb, rfl⟩ := z_ib_ex c_39 hN8
            obtain ⟨jn, hjn, rfl⟩ := z_in_ex 100 rfl (by omega) c_53
            refine qk_aloadn C dX5_ahead_63 64 rfl rfl 1 rfl ?_
            refine qk_callV C dX5_ahead_64 67 rfl ql_X5_144 qc_X5_beginTrial 0 (by decide) rfl rfl (c_X5_beginTrial l G (qL σ 1 N w) N w hI hW) rfl rfl (Nat.le_of_ble_eq_true rfl) ⟨(Nat.le_of_ble_eq_true rfl), (Nat.le_of_ble_eq_true rfl)⟩ (qx_Kv ?_)
            refine qk_aloadn C dX5_ahead_67 68 rfl rfl 1 rfl ?_
            refine qk_get C dX5_ahead_68 71 rfl qf_X5_16 0 (by decide) rfl rfl ?_
            refine qk_iloadn C dX5_ahead_71 72 rfl rfl 4 rfl ?_
            refine qk_callV C dX5_ahead_72 75 rfl ql_X5_119 qc_X1_passDays _ hM.l65 (qx_Fl hM _) rfl (c_X1_passDays l G 14 N hM _ w hI jn (by omega)) rfl rfl (Nat.le_of_ble_eq_true rfl) ⟨(Nat.le_of_ble_eq_true rfl), (Nat.le_of_ble_eq_true rfl)⟩ (qx_Kv ?_)
            refine qk_aloadn C dX5_ahead_75 76 rfl rfl 1 rfl ?_
            refine qk_get C dX5_ahead_76 79 rfl qf_X5_16 0 (by decide) rfl rfl ?_
            refine qk_get C dX5_ahead_79 82 rfl qf_X5_77 _ hM.l65 (qx_Fl hM _) rfl ?_
            refine qk_iloadn C dX5_ahead_82 83 rfl rfl 2 rfl ?_
            refine qk_aald C dX5_ahead_83 84 rfl (14 + 4) hM.l4 1 (qx_Fl4 hM _) rfl (jb) rfl (by omega) (by decide) rfl ?_
            refine qk_iloadn C dX5_ahead_84 85 rfl rfl 3 rfl ?_
            refine qk_callV C dX5_ahead_85 88 rfl ql_X5_81 qc_X0_told _ (qx_isB.of hM (show jb < 8 by omega)).lt (qx_Fb (qx_isB.of hM (show jb < 8 by omega)) _) rfl (cL_X0_told l G 14 N jb hM hN8 hjb _ (z_dn w N jn) _) rfl rfl (Nat.le_of_ble_eq_true rfl) ⟨(Nat.le_of_ble_eq_true rfl), (Nat.le_of_ble_eq_true rfl)⟩ (qx_Ki ?_)
            exact hret _ _ _ _ dX5_ahead_88 (qPx_ok ((zif_t ⟨by unfold z_five; first | exact Or.inl c_2 | exact Or.inr (Or.inl c_7) | exact Or.inr (Or.inr (Or.inl c_12)) | exact Or.inr (Or.inr (Or.inr (Or.inl c_18))) | exact Or.inr (Or.inr (Or.inr (Or.inr c_24))), c_39, c_53⟩).trans (by rw [zn_nI (show jb < 2 ^ 31 by omega), zn_nI (show jn < 2 ^ 31 by omega)])) rfl (hT.tr hN8) (qH_tr hW hN8 hN8)) rfl
          · refine qk_aloadn C dX5_ahead_56 57 rfl rfl 1 rfl ?_
            refine qk_ldc C dX5_ahead_57 59 rfl qw_321 ?_
            refine qk_callV C dX5_ahead_59 62 rfl ql_X5_58 qc_X5_found 0 (by decide) rfl rfl (c_X5_found l G _ _ 0 (by decide) (by decide)) rfl rfl (Nat.le_of_ble_eq_true rfl) ⟨(Nat.le_of_ble_eq_true rfl), (Nat.le_of_ble_eq_true rfl)⟩ (qx_Ki ?_)
            exact hret _ _ _ _ dX5_ahead_62 (qPx_bad 0 hN8 (zif_f (by first | exact fun q => c_39 q.2.1 | exact fun q => c_53 q.2.2 | exact fun q => (by unfold z_five at q; exact q.1.elim c_2 (fun q => q.elim c_7 (fun q => q.elim c_12 (fun q => q.elim c_18 c_24))))) ) rfl hT hW) rfl
      · refine qk_iloadn C dX5_ahead_15 16 rfl rfl 2 rfl ?_
        refine qk_bipush C (6) dX5_ahead_16 18 rfl rfl ?_
        refine qk_icmp_eq C dX5_ahead_18 27 rfl 21 rfl (fun c_18 => ?_) (fun c_18 => ?_)
        · refine qk_iconst C (1) dX5_ahead_27 28 rfl rfl ?_
          refine qk_goto C dX5_ahead_28 32 rfl ?_
          refine qk_istore C dX5_ahead_32 34 rfl (by decide) rfl ?_
          refine qk_aloadn C dX5_ahead_34 35 rfl rfl 1 rfl ?_
          refine qk_iloadn C dX5_ahead_35 36 rfl rfl 2 rfl ?_
          refine qk_callV C dX5_ahead_36 39 rfl ql_X5_73 qc_X5_isBust 0 (by decide) rfl rfl (c_X5_isBust l G σ N w hI _) rfl rfl (Nat.le_of_ble_eq_true rfl) ⟨(Nat.le_of_ble_eq_true rfl), (Nat.le_of_ble_eq_true rfl)⟩ (qx_Ki ?_)
          refine qk_if_eqB C dX5_ahead_39 56 rfl 42 rfl (fun c_39 => ?_) (fun c_39 => ?_)
          · refine qk_aloadn C dX5_ahead_56 57 rfl rfl 1 rfl ?_
            refine qk_ldc C dX5_ahead_57 59 rfl qw_321 ?_
            refine qk_callV C dX5_ahead_59 62 rfl ql_X5_58 qc_X5_found 0 (by decide) rfl rfl (c_X5_found l G _ _ 0 (by decide) (by decide)) rfl rfl (Nat.le_of_ble_eq_true rfl) ⟨(Nat.le_of_ble_eq_true rfl), (Nat.le_of_ble_eq_true rfl)⟩ (qx_Ki ?_)
            exact hret _ _ _ _ dX5_ahead_62 (qPx_bad 0 hN8 (zif_f (by first | exact fun q => c_39 q.2.1 | exact fun q => c_53 q.2.2 | exact fun q => (by unfold z_five at q; exact q.1.elim c_2 (fun q => q.elim c_7 (fun q => q.elim c_12 (fun q => q.elim c_18 c_24))))) ) rfl hT hW) rfl
          · refine qk_iload C dX5_ahead_42 44 rfl 0 rfl ?_
            refine qk_if_eq C dX5_ahead_44 56 rfl 47 rfl (fun c => absurd c (by decide)) (fun _ => ?_)
            refine qk_iloadn C dX5_ahead_47 48 rfl rfl 4 rfl ?_
            refine qk_bipush C (100) dX5_ahead_48 50 rfl rfl ?_
            refine qk_callS C dX5_ahead_50 53 rfl ql_X5_53 qc_X5_within (c_X5_within l G _ _ _) rfl rfl (Nat.le_of_ble_eq_true rfl) ⟨(Nat.le_of_ble_eq_true rfl), (Nat.le_of_ble_eq_true rfl)⟩ (qx_Ki ?_)
            refine qk_if_neB C dX5_ahead_53 63 rfl 56 rfl (fun c_53 => ?_) (fun c_53 => ?_)
            · obtain ⟨jb, hjb, rfl⟩ := z_ib_ex c_39 hN8
              obtain ⟨jn, hjn, rfl⟩ := z_in_ex 100 rfl (by omega) c_53
              refine qk_aloadn C dX5_ahead_63 64 rfl rfl 1 rfl ?_
              refine qk_callV C dX5_ahead_64 67 rfl ql_X5_144 qc_X5_beginTrial 0 (by decide) rfl rfl (c_X5_beginTrial l G (qL σ 1 N w) N w hI hW) rfl rfl (Nat.le_of_ble_eq_true rfl) ⟨(Nat.le_of_ble_eq_true rfl), (Nat.le_of_ble_eq_true rfl)⟩ (qx_Kv ?_)
              refine qk_aloadn C dX5_ahead_67 68 rfl rfl 1 rfl ?_
              refine qk_get C dX5_ahead_68 71 rfl qf_X5_16 0 (by decide) rfl rfl ?_
              refine qk_iloadn C dX5_ahead_71 72 rfl rfl 4 rfl ?_
              refine qk_callV C dX5_ahead_72 75 rfl ql_X5_119 qc_X1_passDays _ hM.l65 (qx_Fl hM _) rfl (c_X1_passDays l G 14 N hM _ w hI jn (by omega)) rfl rfl (Nat.le_of_ble_eq_true rfl) ⟨(Nat.le_of_ble_eq_true rfl), (Nat.le_of_ble_eq_true rfl)⟩ (qx_Kv ?_)
              refine qk_aloadn C dX5_ahead_75 76 rfl rfl 1 rfl ?_
              refine qk_get C dX5_ahead_76 79 rfl qf_X5_16 0 (by decide) rfl rfl ?_
              refine qk_get C dX5_ahead_79 82 rfl qf_X5_77 _ hM.l65 (qx_Fl hM _) rfl ?_
              refine qk_iloadn C dX5_ahead_82 83 rfl rfl 2 rfl ?_
              refine qk_aald C dX5_ahead_83 84 rfl (14 + 4) hM.l4 1 (qx_Fl4 hM _) rfl (jb) rfl (by omega) (by decide) rfl ?_
              refine qk_iloadn C dX5_ahead_84 85 rfl rfl 3 rfl ?_
              refine qk_callV C dX5_ahead_85 88 rfl ql_X5_81 qc_X0_told _ (qx_isB.of hM (show jb < 8 by omega)).lt (qx_Fb (qx_isB.of hM (show jb < 8 by omega)) _) rfl (cL_X0_told l G 14 N jb hM hN8 hjb _ (z_dn w N jn) _) rfl rfl (Nat.le_of_ble_eq_true rfl) ⟨(Nat.le_of_ble_eq_true rfl), (Nat.le_of_ble_eq_true rfl)⟩ (qx_Ki ?_)
              exact hret _ _ _ _ dX5_ahead_88 (qPx_ok ((zif_t ⟨by unfold z_five; first | exact Or.inl c_2 | exact Or.inr (Or.inl c_7) | exact Or.inr (Or.inr (Or.inl c_12)) | exact Or.inr (Or.inr (Or.inr (Or.inl c_18))) | exact Or.inr (Or.inr (Or.inr (Or.inr c_24))), c_39, c_53⟩).trans (by rw [zn_nI (show jb < 2 ^ 31 by omega), zn_nI (show jn < 2 ^ 31 by omega)])) rfl (hT.tr hN8) (qH_tr hW hN8 hN8)) rfl
            · refine qk_aloadn C dX5_ahead_56 57 rfl rfl 1 rfl ?_
              refine qk_ldc C dX5_ahead_57 59 rfl qw_321 ?_
              refine qk_callV C dX5_ahead_59 62 rfl ql_X5_58 qc_X5_found 0 (by decide) rfl rfl (c_X5_found l G _ _ 0 (by decide) (by decide)) rfl rfl (Nat.le_of_ble_eq_true rfl) ⟨(Nat.le_of_ble_eq_true rfl), (Nat.le_of_ble_eq_true rfl)⟩ (qx_Ki ?_)
              exact hret _ _ _ _ dX5_ahead_62 (qPx_bad 0 hN8 (zif_f (by first | exact fun q => c_39 q.2.1 | exact fun q => c_53 q.2.2 | exact fun q => (by unfold z_five at q; exact q.1.elim c_2 (fun q => q.elim c_7 (fun q => q.elim c_12 (fun q => q.elim c_18 c_24))))) ) rfl hT hW) rfl
        · refine qk_iloadn C dX5_ahead_21 22 rfl rfl 2 rfl ?_
          refine qk_bipush C (10) dX5_ahead_22 24 rfl rfl ?_
          refine qk_icmp_ne C dX5_ahead_24 31 rfl 27 rfl (fun c_24 => ?_) (fun c_24 => ?_)
          · refine qk_iconst C (0) dX5_ahead_31 32 rfl rfl ?_
            refine qk_istore C dX5_ahead_32 34 rfl (by decide) rfl ?_
            refine qk_aloadn C dX5_ahead_34 35 rfl rfl 1 rfl ?_
            refine qk_iloadn C dX5_ahead_35 36 rfl rfl 2 rfl ?_
            refine qk_callV C dX5_ahead_36 39 rfl ql_X5_73 qc_X5_isBust 0 (by decide) rfl rfl (c_X5_isBust l G σ N w hI _) rfl rfl (Nat.le_of_ble_eq_true rfl) ⟨(Nat.le_of_ble_eq_true rfl), (Nat.le_of_ble_eq_true rfl)⟩ (qx_Ki ?_)
            refine qk_if_eqB C dX5_ahead_39 56 rfl 42 rfl (fun c_39 => ?_) (fun c_39 => ?_)
            · refine qk_aloadn C dX5_ahead_56 57 rfl rfl 1 rfl ?_
              refine qk_ldc C dX5_ahead_57 59 rfl qw_321 ?_
              refine qk_callV C dX5_ahead_59 62 rfl ql_X5_58 qc_X5_found 0 (by decide) rfl rfl (c_X5_found l G _ _ 0 (by decide) (by decide)) rfl rfl (Nat.le_of_ble_eq_true rfl) ⟨(Nat.le_of_ble_eq_true rfl), (Nat.le_of_ble_eq_true rfl)⟩ (qx_Ki ?_)
              exact hret _ _ _ _ dX5_ahead_62 (qPx_bad 0 hN8 (zif_f (by first | exact fun q => c_39 q.2.1 | exact fun q => c_53 q.2.2 | exact fun q => (by unfold z_five at q; exact q.1.elim c_2 (fun q => q.elim c_7 (fun q => q.elim c_12 (fun q => q.elim c_18 c_24))))) ) rfl hT hW) rfl
            · refine qk_iload C dX5_ahead_42 44 rfl 0 rfl ?_
              refine qk_if_eq C dX5_ahead_44 56 rfl 47 rfl (fun _ => ?_) (fun c => absurd rfl c)
              refine qk_aloadn C dX5_ahead_56 57 rfl rfl 1 rfl ?_
              refine qk_ldc C dX5_ahead_57 59 rfl qw_321 ?_
              refine qk_callV C dX5_ahead_59 62 rfl ql_X5_58 qc_X5_found 0 (by decide) rfl rfl (c_X5_found l G _ _ 0 (by decide) (by decide)) rfl rfl (Nat.le_of_ble_eq_true rfl) ⟨(Nat.le_of_ble_eq_true rfl), (Nat.le_of_ble_eq_true rfl)⟩ (qx_Ki ?_)
              exact hret _ _ _ _ dX5_ahead_62 (qPx_bad 0 hN8 (zif_f (by first | exact fun q => c_39 q.2.1 | exact fun q => c_53 q.2.2 | exact fun q => (by unfold z_five at q; exact q.1.elim c_2 (fun q => q.elim c_7 (fun q => q.elim c_12 (fun q => q.elim c_18 c_24))))) ) rfl hT hW) rfl
          · refine qk_iconst C (1) dX5_ahead_27 28 rfl rfl ?_
            refine qk_goto C dX5_ahead_28 32 rfl ?_
            refine qk_istore C dX5_ahead_32 34 rfl (by decide) rfl ?_
            refine qk_aloadn C dX5_ahead_34 35 rfl rfl 1 rfl ?_
            refine qk_iloadn C dX5_ahead_35 36 rfl rfl 2 rfl ?_
            refine qk_callV C dX5_ahead_36 39 rfl ql_X5_73 qc_X5_isBust 0 (by decide) rfl rfl (c_X5_isBust l G σ N w hI _) rfl rfl (Nat.le_of_ble_eq_true rfl) ⟨(Nat.le_of_ble_eq_true rfl), (Nat.le_of_ble_eq_true rfl)⟩ (qx_Ki ?_)
            refine qk_if_eqB C dX5_ahead_39 56 rfl 42 rfl (fun c_39 => ?_) (fun c_39 => ?_)
            · refine qk_aloadn C dX5_ahead_56 57 rfl rfl 1 rfl ?_
              refine qk_ldc C dX5_ahead_57 59 rfl qw_321 ?_
              refine qk_callV C dX5_ahead_59 62 rfl ql_X5_58 qc_X5_found 0 (by decide) rfl rfl (c_X5_found l G _ _ 0 (by decide) (by decide)) rfl rfl (Nat.le_of_ble_eq_true rfl) ⟨(Nat.le_of_ble_eq_true rfl), (Nat.le_of_ble_eq_true rfl)⟩ (qx_Ki ?_)
              exact hret _ _ _ _ dX5_ahead_62 (qPx_bad 0 hN8 (zif_f (by first | exact fun q => c_39 q.2.1 | exact fun q => c_53 q.2.2 | exact fun q => (by unfold z_five at q; exact q.1.elim c_2 (fun q => q.elim c_7 (fun q => q.elim c_12 (fun q => q.elim c_18 c_24))))) ) rfl hT hW) rfl
            · refine qk_iload C dX5_ahead_42 44 rfl 0 rfl ?_
              refine qk_if_eq C dX5_ahead_44 56 rfl 47 rfl (fun c => absurd c (by decide)) (fun _ => ?_)
              refine qk_iloadn C dX5_ahead_47 48 rfl rfl 4 rfl ?_
              refine qk_bipush C (100) dX5_ahead_48 50 rfl rfl ?_
              refine qk_callS C dX5_ahead_50 53 rfl ql_X5_53 qc_X5_within (c_X5_within l G _ _ _) rfl rfl (Nat.le_of_ble_eq_true rfl) ⟨(Nat.le_of_ble_eq_true rfl), (Nat.le_of_ble_eq_true rfl)⟩ (qx_Ki ?_)
              refine qk_if_neB C dX5_ahead_53 63 rfl 56 rfl (fun c_53 => ?_) (fun c_53 => ?_)
              · obtain ⟨jb, hjb, rfl⟩ := z_ib_ex c_39 hN8
                obtain ⟨jn, hjn, rfl⟩ := z_in_ex 100 rfl (by omega) c_53
                refine qk_aloadn C dX5_ahead_63 64 rfl rfl 1 rfl ?_
                refine qk_callV C dX5_ahead_64 67 rfl ql_X5_144 qc_X5_beginTrial 0 (by decide) rfl rfl (c_X5_beginTrial l G (qL σ 1 N w) N w hI hW) rfl rfl (Nat.le_of_ble_eq_true rfl) ⟨(Nat.le_of_ble_eq_true rfl), (Nat.le_of_ble_eq_true rfl)⟩ (qx_Kv ?_)
                refine qk_aloadn C dX5_ahead_67 68 rfl rfl 1 rfl ?_
                refine qk_get C dX5_ahead_68 71 rfl qf_X5_16 0 (by decide) rfl rfl ?_
                refine qk_iloadn C dX5_ahead_71 72 rfl rfl 4 rfl ?_
                refine qk_callV C dX5_ahead_72 75 rfl ql_X5_119 qc_X1_passDays _ hM.l65 (qx_Fl hM _) rfl (c_X1_passDays l G 14 N hM _ w hI jn (by omega)) rfl rfl (Nat.le_of_ble_eq_true rfl) ⟨(Nat.le_of_ble_eq_true rfl), (Nat.le_of_ble_eq_true rfl)⟩ (qx_Kv ?_)
                refine qk_aloadn C dX5_ahead_75 76 rfl rfl 1 rfl ?_
                refine qk_get C dX5_ahead_76 79 rfl qf_X5_16 0 (by decide) rfl rfl ?_
                refine qk_get C dX5_ahead_79 82 rfl qf_X5_77 _ hM.l65 (qx_Fl hM _) rfl ?_
                refine qk_iloadn C dX5_ahead_82 83 rfl rfl 2 rfl ?_
                refine qk_aald C dX5_ahead_83 84 rfl (14 + 4) hM.l4 1 (qx_Fl4 hM _) rfl (jb) rfl (by omega) (by decide) rfl ?_
                refine qk_iloadn C dX5_ahead_84 85 rfl rfl 3 rfl ?_
                refine qk_callV C dX5_ahead_85 88 rfl ql_X5_81 qc_X0_told _ (qx_isB.of hM (show jb < 8 by omega)).lt (qx_Fb (qx_isB.of hM (show jb < 8 by omega)) _) rfl (cL_X0_told l G 14 N jb hM hN8 hjb _ (z_dn w N jn) _) rfl rfl (Nat.le_of_ble_eq_true rfl) ⟨(Nat.le_of_ble_eq_true rfl), (Nat.le_of_ble_eq_true rfl)⟩ (qx_Ki ?_)
                exact hret _ _ _ _ dX5_ahead_88 (qPx_ok ((zif_t ⟨by unfold z_five; first | exact Or.inl c_2 | exact Or.inr (Or.inl c_7) | exact Or.inr (Or.inr (Or.inl c_12)) | exact Or.inr (Or.inr (Or.inr (Or.inl c_18))) | exact Or.inr (Or.inr (Or.inr (Or.inr c_24))), c_39, c_53⟩).trans (by rw [zn_nI (show jb < 2 ^ 31 by omega), zn_nI (show jn < 2 ^ 31 by omega)])) rfl (hT.tr hN8) (qH_tr hW hN8 hN8)) rfl
              · refine qk_aloadn C dX5_ahead_56 57 rfl rfl 1 rfl ?_
                refine qk_ldc C dX5_ahead_57 59 rfl qw_321 ?_
                refine qk_callV C dX5_ahead_59 62 rfl ql_X5_58 qc_X5_found 0 (by decide) rfl rfl (c_X5_found l G _ _ 0 (by decide) (by decide)) rfl rfl (Nat.le_of_ble_eq_true rfl) ⟨(Nat.le_of_ble_eq_true rfl), (Nat.le_of_ble_eq_true rfl)⟩ (qx_Ki ?_)
                exact hret _ _ _ _ dX5_ahead_62 (qPx_bad 0 hN8 (zif_f (by first | exact fun q => c_39 q.2.1 | exact fun q => c_53 q.2.2 | exact fun q => (by unfold z_five at q; exact q.1.elim c_2 (fun q => q.elim c_7 (fun q => q.elim c_12 (fun q => q.elim c_18 c_24))))) ) rfl hT hW) rfl

theorem c_X5_left (l : Launch) (G : qx_G) (σ : qx_Sg) (N : Nat) (w : Nat → Int32) (hI : qv_ok w N) (hH : qH σ 1 N w) (n : Int32) : qx_Ct l G yX5_left cX5_left 2 (some .int) 5 113 [.ref (qx_ad G 0), .int n] (σ) (qPx σ (S_left N w n)) := by
  refine qx_of .int (lo := [(0, .ref (qx_ad G 0)), (1, .int n)]) (by decide +kernel) (Nat.le_of_ble_eq_true rfl) rfl (fun Δ (C : qx_C G Δ cX5_left RX5 2 5 113) hret => ?_)
  have hL : qx_isL 1 := Or.inl rfl
  have hM : qx_isL 14 := Or.inr (Or.inl rfl)
  have hN8 := hI.1
  have hN1 := hI.2.1
  have hT : qTr σ (qL σ 1 N w) := qTr.rf.li hN8
  have hW : qH (qL σ 1 N w) 1 N w := qH_qL
  refine qk_cg (qL σ 1 N w) (qH_w hH hL hN8) ?_
  refine qk_iloadn C dX5_left_0 1 rfl rfl 1 rfl ?_
  refine qk_bipush C (100) dX5_left_1 3 rfl rfl ?_
  refine qk_callS C dX5_left_3 6 rfl ql_X5_53 qc_X5_within (c_X5_within l G _ _ _) rfl rfl (Nat.le_of_ble_eq_true rfl) ⟨(Nat.le_of_ble_eq_true rfl), (Nat.le_of_ble_eq_true rfl)⟩ (qx_Ki ?_)
  refine qk_if_neB C dX5_left_6 16 rfl 9 rfl (fun c_6 => ?_) (fun c_6 => ?_)
  · obtain ⟨jn, hjn, rfl⟩ := z_in_ex 100 rfl (by omega) c_6
    refine qk_aloadn C dX5_left_16 17 rfl rfl 0 rfl ?_
    refine qk_callV C dX5_left_17 20 rfl ql_X5_144 qc_X5_beginTrial 0 (by decide) rfl rfl (c_X5_beginTrial l G (qL σ 1 N w) N w hI hW) rfl rfl (Nat.le_of_ble_eq_true rfl) ⟨(Nat.le_of_ble_eq_true rfl), (Nat.le_of_ble_eq_true rfl)⟩ (qx_Kv ?_)
    refine qk_aloadn C dX5_left_20 21 rfl rfl 0 rfl ?_
    refine qk_get C dX5_left_21 24 rfl qf_X5_16 0 (by decide) rfl rfl ?_
    refine qk_iloadn C dX5_left_24 25 rfl rfl 1 rfl ?_
    refine qk_callV C dX5_left_25 28 rfl ql_X5_119 qc_X1_passDays _ hM.l65 (qx_Fl hM _) rfl (c_X1_passDays l G 14 N hM _ w hI jn (by omega)) rfl rfl (Nat.le_of_ble_eq_true rfl) ⟨(Nat.le_of_ble_eq_true rfl), (Nat.le_of_ble_eq_true rfl)⟩ (qx_Kv ?_)
    refine qk_aloadn C dX5_left_28 29 rfl rfl 0 rfl ?_
    refine qk_get C dX5_left_29 32 rfl qf_X5_16 0 (by decide) rfl rfl ?_
    refine qk_get C dX5_left_32 35 rfl qf_X5_122 _ hM.l65 (qx_Fl hM _) rfl ?_
    refine qk_cast qL_j1 ?_
    exact hret _ _ _ _ dX5_left_35 (qPx_ok ((zif_t c_6).trans (by rw [zn_nI (show jn < 2 ^ 31 by omega)])) rfl (hT.tr hN8) (qH_tr hW hN8 hN8)) rfl
  · refine qk_aloadn C dX5_left_9 10 rfl rfl 0 rfl ?_
    refine qk_ldc C dX5_left_10 12 rfl qw_321 ?_
    refine qk_callV C dX5_left_12 15 rfl ql_X5_58 qc_X5_found 0 (by decide) rfl rfl (c_X5_found l G _ _ 0 (by decide) (by decide)) rfl rfl (Nat.le_of_ble_eq_true rfl) ⟨(Nat.le_of_ble_eq_true rfl), (Nat.le_of_ble_eq_true rfl)⟩ (qx_Ki ?_)
    exact hret _ _ _ _ dX5_left_15 (qPx_bad 0 hN8 ((zif_f (by first | exact fun q => c_6 q))) rfl hT hW) rfl

theorem c_X5_when (l : Launch) (G : qx_G) (σ : qx_Sg) (N : Nat) (w : Nat → Int32) (hI : qv_ok w N) (hH : qH σ 1 N w) (b p : Int32) : qx_Ct l G yX5_when cX5_when 4 (some .int) 4 102 [.ref (qx_ad G 0), .int b, .int p] (σ) (qPx σ (S_when N w b p)) := by
  refine qx_of .int (lo := [(0, .ref (qx_ad G 0)), (1, .int b), (2, .int p)]) (by decide +kernel) (Nat.le_of_ble_eq_true rfl) rfl (fun Δ (C : qx_C G Δ cX5_when RX5 4 4 102) hret => ?_)
  have hL : qx_isL 1 := Or.inl rfl
  have hM : qx_isL 14 := Or.inr (Or.inl rfl)
  have hN8 := hI.1
  have hN1 := hI.2.1
  have hT : qTr σ (qL σ 1 N w) := qTr.rf.li hN8
  have hW : qH (qL σ 1 N w) 1 N w := qH_qL
  refine qk_cg (qL σ 1 N w) (qH_w hH hL hN8) ?_
  refine qk_aloadn C dX5_when_0 1 rfl rfl 0 rfl ?_
  refine qk_iloadn C dX5_when_1 2 rfl rfl 1 rfl ?_
  refine qk_callV C dX5_when_2 5 rfl ql_X5_73 qc_X5_isBust 0 (by decide) rfl rfl (c_X5_isBust l G σ N w hI _) rfl rfl (Nat.le_of_ble_eq_true rfl) ⟨(Nat.le_of_ble_eq_true rfl), (Nat.le_of_ble_eq_true rfl)⟩ (qx_Ki ?_)
  refine qk_if_eqB C dX5_when_5 17 rfl 8 rfl (fun c_5 => ?_) (fun c_5 => ?_)
  · refine qk_aloadn C dX5_when_17 18 rfl rfl 0 rfl ?_
    refine qk_ldc C dX5_when_18 20 rfl qw_321 ?_
    refine qk_callV C dX5_when_20 23 rfl ql_X5_58 qc_X5_found 0 (by decide) rfl rfl (c_X5_found l G _ _ 0 (by decide) (by decide)) rfl rfl (Nat.le_of_ble_eq_true rfl) ⟨(Nat.le_of_ble_eq_true rfl), (Nat.le_of_ble_eq_true rfl)⟩ (qx_Ki ?_)
    exact hret _ _ _ _ dX5_when_23 (qPx_bad 0 hN8 ((zif_f (by first | exact fun q => c_5 q.1 | exact fun q => c_14 q.2))) rfl hT hW) rfl
  · refine qk_iloadn C dX5_when_8 9 rfl rfl 2 rfl ?_
    refine qk_bipush C (11) dX5_when_9 11 rfl rfl ?_
    refine qk_callS C dX5_when_11 14 rfl ql_X5_53 qc_X5_within (c_X5_within l G _ _ _) rfl rfl (Nat.le_of_ble_eq_true rfl) ⟨(Nat.le_of_ble_eq_true rfl), (Nat.le_of_ble_eq_true rfl)⟩ (qx_Ki ?_)
    refine qk_if_neB C dX5_when_14 24 rfl 17 rfl (fun c_14 => ?_) (fun c_14 => ?_)
    · obtain ⟨jb, hjb, rfl⟩ := z_ib_ex c_5 hN8
      refine qk_aloadn C dX5_when_24 25 rfl rfl 0 rfl ?_
      refine qk_callV C dX5_when_25 28 rfl ql_X5_144 qc_X5_beginTrial 0 (by decide) rfl rfl (c_X5_beginTrial l G (qL σ 1 N w) N w hI hW) rfl rfl (Nat.le_of_ble_eq_true rfl) ⟨(Nat.le_of_ble_eq_true rfl), (Nat.le_of_ble_eq_true rfl)⟩ (qx_Kv ?_)
      refine qk_iconst C (nI 0) dX5_when_28 29 rfl rfl ?_
      refine qk_istoren C dX5_when_29 30 rfl rfl (by decide) rfl ?_
      have lp_30 : ∀ (n_30 : Nat) (d : Nat), (d ≤ 201 ∧ z_ls (fun d => z_hs (z_dn w N d (32 + 7 * jb + 2)) p) 201 0 = z_ls (fun d => z_hs (z_dn w N d (32 + 7 * jb + 2)) p) (201 - d) d) → 201 - d < n_30 → qx_K l G Δ (qL (qL σ 1 N w) 14 N (z_dn w N d)) 30 [(3, .int (nI d)), (0, .ref (qx_ad G 0)), (1, .int (nI jb)), (2, .int p)] [] := by
        intro n_30
        induction n_30 with
        | zero => intro _ _ h9; exact absurd h9 (Nat.not_lt_zero _)
        | succ n_30 ih_30 =>
          intro d hi hm_30
          refine qk_iloadn C dX5_when_30 31 rfl rfl 0 rfl ?_
          refine qk_sipush C (nI 200) dX5_when_31 34 rfl rfl ?_
          refine qk_icmp_gt C dX5_when_34 68 rfl 37 rfl (fun c_34 => ?_) (fun c_34 => ?_)
          · have h201 : d = 201 := by
              have := (nI_ltI (a := 200) (b := d) (by omega) (by omega)).mp c_34
              omega
            refine qk_aloadn C dX5_when_68 69 rfl rfl 1 rfl ?_
            refine qk_ldc C dX5_when_69 71 rfl qw_419 ?_
            refine qk_callV C dX5_when_71 74 rfl ql_X5_58 qc_X5_found 0 (by decide) rfl rfl (c_X5_found l G _ _ 3 (by decide) (by decide)) rfl rfl (Nat.le_of_ble_eq_true rfl) ⟨(Nat.le_of_ble_eq_true rfl), (Nat.le_of_ble_eq_true rfl)⟩ (qx_Ki ?_)
            exact hret _ _ _ _ dX5_when_74 (qPx_bad 3 hN8 ((zif_t ⟨c_5, c_14⟩).trans (by rw [zn_nI (show jb < 2 ^ 31 by omega), hi.2, h201]; rfl)) rfl (hT.tr hN8) (qH_tr hW hN8 hN8)) rfl
          · have h201 : d ≤ 200 := Nat.not_lt.mp (fun q => c_34 (nI_lt q (by omega)))
            refine qk_aloadn C dX5_when_37 38 rfl rfl 1 rfl ?_
            refine qk_get C dX5_when_38 41 rfl qf_X5_16 0 (by decide) rfl rfl ?_
            refine qk_get C dX5_when_41 44 rfl qf_X5_77 _ hM.l65 (qx_Fl hM _) rfl ?_
            refine qk_iloadn C dX5_when_44 45 rfl rfl 2 rfl ?_
            refine qk_aald C dX5_when_45 46 rfl (14 + 4) hM.l4 1 (qx_Fl4 hM _) rfl (jb) rfl (by omega) (by decide) rfl ?_
            refine qk_iloadn C dX5_when_46 47 rfl rfl 3 rfl ?_
            refine qk_callV C dX5_when_47 50 rfl ql_X5_100 qc_X0_hasPart _ (qx_isB.of hM (show jb < 8 by omega)).lt (qx_Fb (qx_isB.of hM (show jb < 8 by omega)) _) rfl (cL_X0_hasPart l G 14 N jb hM hN8 hjb _ (z_dn w N d) _) rfl rfl (Nat.le_of_ble_eq_true rfl) ⟨(Nat.le_of_ble_eq_true rfl), (Nat.le_of_ble_eq_true rfl)⟩ (qx_Ki ?_)
            refine qk_if_eqB C dX5_when_50 55 rfl 53 rfl (fun c_50 => ?_) (fun c_50 => ?_)
            · refine qk_aloadn C dX5_when_55 56 rfl rfl 1 rfl ?_
              refine qk_get C dX5_when_56 59 rfl qf_X5_16 0 (by decide) rfl rfl ?_
              refine qk_callV C dX5_when_59 62 rfl ql_X5_147 qc_X1_passDay _ hM.l65 (qx_Fl hM _) rfl (c_X1_passDay l G 14 N hM _ _ (qv_dn hI d)) rfl rfl (Nat.le_of_ble_eq_true rfl) ⟨(Nat.le_of_ble_eq_true rfl), (Nat.le_of_ble_eq_true rfl)⟩ (qx_Kv ?_)
              refine qk_iinc C (nI (d + 1)) dX5_when_62 65 rfl 0 rfl (nI_1 d) (by decide) rfl ?_
              refine qk_goto C dX5_when_65 30 rfl ?_
              exact ih_30 (d + 1) ⟨by omega, by rw [hi.2, show 201 - d = (201 - (d + 1)) + 1 by omega]; exact z_ls_f c_50⟩ (by omega)
            · refine qk_iloadn C dX5_when_53 54 rfl rfl 0 rfl ?_
              exact hret _ _ _ _ dX5_when_54 (qPx_ok ((zif_t ⟨c_5, c_14⟩).trans (by rw [zn_nI (show jb < 2 ^ 31 by omega), hi.2, show 201 - d = (201 - (d + 1)) + 1 by omega, z_ls_t c_50]; rfl)) rfl (hT.tr hN8) (qH_tr hW hN8 hN8)) rfl
      exact lp_30 _ 0 ⟨by omega, rfl⟩ (Nat.lt_succ_self _)
    · refine qk_aloadn C dX5_when_17 18 rfl rfl 0 rfl ?_
      refine qk_ldc C dX5_when_18 20 rfl qw_321 ?_
      refine qk_callV C dX5_when_20 23 rfl ql_X5_58 qc_X5_found 0 (by decide) rfl rfl (c_X5_found l G _ _ 0 (by decide) (by decide)) rfl rfl (Nat.le_of_ble_eq_true rfl) ⟨(Nat.le_of_ble_eq_true rfl), (Nat.le_of_ble_eq_true rfl)⟩ (qx_Ki ?_)
      exact hret _ _ _ _ dX5_when_23 (qPx_bad 0 hN8 ((zif_f (by first | exact fun q => c_5 q.1 | exact fun q => c_14 q.2))) rfl hT hW) rfl

theorem c_X5_orderFor (l : Launch) (G : qx_G) (σ : qx_Sg) (N : Nat) (w : Nat → Int32) (hI : qv_ok w N) (hH : qH σ 1 N w) (i b n : Int32) : qx_Ct l G yX5_orderFor cX5_orderFor 8 (some .int) 5 113 [.ref (qx_ad G 0), .int i, .int b, .int n] (σ) (qPx σ (S_orderFor N w i b n)) := by
  refine qx_of .int (lo := [(0, .ref (qx_ad G 0)), (1, .int i), (2, .int b), (3, .int n)]) (by decide +kernel) (Nat.le_of_ble_eq_true rfl) rfl (fun Δ (C : qx_C G Δ cX5_orderFor RX5 8 5 113) hret => ?_)
  have hL : qx_isL 1 := Or.inl rfl
  have hM : qx_isL 14 := Or.inr (Or.inl rfl)
  have hN8 := hI.1
  have hN1 := hI.2.1
  have hT : qTr σ (qL σ 1 N w) := qTr.rf.li hN8
  have hW : qH (qL σ 1 N w) 1 N w := qH_qL
  refine qk_cg (qL σ 1 N w) (qH_w hH hL hN8) ?_
  refine qk_iloadn C dX5_orderFor_0 1 rfl rfl 1 rfl ?_
  refine qk_iconst C (5) dX5_orderFor_1 2 rfl rfl ?_
  refine qk_callS C dX5_orderFor_2 5 rfl ql_X5_53 qc_X5_within (c_X5_within l G _ _ _) rfl rfl (Nat.le_of_ble_eq_true rfl) ⟨(Nat.le_of_ble_eq_true rfl), (Nat.le_of_ble_eq_true rfl)⟩ (qx_Ki ?_)
  refine qk_if_eqB C dX5_orderFor_5 25 rfl 8 rfl (fun c_5 => ?_) (fun c_5 => ?_)
  · refine qk_aloadn C dX5_orderFor_25 26 rfl rfl 0 rfl ?_
    refine qk_ldc C dX5_orderFor_26 28 rfl qw_321 ?_
    refine qk_callV C dX5_orderFor_28 31 rfl ql_X5_58 qc_X5_found 0 (by decide) rfl rfl (c_X5_found l G _ _ 0 (by decide) (by decide)) rfl rfl (Nat.le_of_ble_eq_true rfl) ⟨(Nat.le_of_ble_eq_true rfl), (Nat.le_of_ble_eq_true rfl)⟩ (qx_Ki ?_)
    exact hret _ _ _ _ dX5_orderFor_31 (qPx_bad 0 hN8 ((zif_f (by first | exact fun q => c_5 q.1 | exact fun q => c_13 q.2.1 | exact fun q => c_22 q.2.2))) rfl hT hW) rfl
  · refine qk_aloadn C dX5_orderFor_8 9 rfl rfl 0 rfl ?_
    refine qk_iloadn C dX5_orderFor_9 10 rfl rfl 2 rfl ?_
    refine qk_callV C dX5_orderFor_10 13 rfl ql_X5_73 qc_X5_isBust 0 (by decide) rfl rfl (c_X5_isBust l G σ N w hI _) rfl rfl (Nat.le_of_ble_eq_true rfl) ⟨(Nat.le_of_ble_eq_true rfl), (Nat.le_of_ble_eq_true rfl)⟩ (qx_Ki ?_)
    refine qk_if_eqB C dX5_orderFor_13 25 rfl 16 rfl (fun c_13 => ?_) (fun c_13 => ?_)
    · refine qk_aloadn C dX5_orderFor_25 26 rfl rfl 0 rfl ?_
      refine qk_ldc C dX5_orderFor_26 28 rfl qw_321 ?_
      refine qk_callV C dX5_orderFor_28 31 rfl ql_X5_58 qc_X5_found 0 (by decide) rfl rfl (c_X5_found l G _ _ 0 (by decide) (by decide)) rfl rfl (Nat.le_of_ble_eq_true rfl) ⟨(Nat.le_of_ble_eq_true rfl), (Nat.le_of_ble_eq_true rfl)⟩ (qx_Ki ?_)
      exact hret _ _ _ _ dX5_orderFor_31 (qPx_bad 0 hN8 ((zif_f (by first | exact fun q => c_5 q.1 | exact fun q => c_13 q.2.1 | exact fun q => c_22 q.2.2))) rfl hT hW) rfl
    · refine qk_iloadn C dX5_orderFor_16 17 rfl rfl 3 rfl ?_
      refine qk_bipush C (60) dX5_orderFor_17 19 rfl rfl ?_
      refine qk_callS C dX5_orderFor_19 22 rfl ql_X5_53 qc_X5_within (c_X5_within l G _ _ _) rfl rfl (Nat.le_of_ble_eq_true rfl) ⟨(Nat.le_of_ble_eq_true rfl), (Nat.le_of_ble_eq_true rfl)⟩ (qx_Ki ?_)
      refine qk_if_neB C dX5_orderFor_22 32 rfl 25 rfl (fun c_22 => ?_) (fun c_22 => ?_)
      · obtain ⟨ji, hji, rfl⟩ := z_in_ex 5 rfl (by omega) c_5
        obtain ⟨jb, hjb, rfl⟩ := z_ib_ex c_13 hN8
        obtain ⟨jn, hjn, rfl⟩ := z_in_ex 60 rfl (by omega) c_22
        refine qk_iconst C (0) dX5_orderFor_32 33 rfl rfl ?_
        refine qk_istore C dX5_orderFor_33 35 rfl (by decide) rfl ?_
        refine qk_iconst C ((-1)) dX5_orderFor_35 36 rfl rfl ?_
        refine qk_istore C dX5_orderFor_36 38 rfl (by decide) rfl ?_
        refine qk_iconst C (nI 0) dX5_orderFor_38 39 rfl rfl ?_
        refine qk_istore C dX5_orderFor_39 41 rfl (by decide) rfl ?_
        have lp_41 : ∀ (n_41 : Nat) (p : Nat) (ρ : qx_Sg) (bb mm : Int32), (p ≤ 12 ∧ qTr σ ρ ∧ qH ρ 1 N w ∧ z_bs (z_of N w ji jb jn) p = (bb, mm)) → 12 - p < n_41 → qx_K l G Δ (ρ) 41 [(6, .int (nI p)), (5, .int mm), (4, .int bb), (0, .ref (qx_ad G 0)), (1, .int (nI ji)), (2, .int (nI jb)), (3, .int (nI jn))] [] := by
          intro n_41
          induction n_41 with
          | zero => intro _ _ _ _ _ h9; exact absurd h9 (Nat.not_lt_zero _)
          | succ n_41 ih_41 =>
            intro p ρ bb mm hi hm_41
            refine qk_iload C dX5_orderFor_41 43 rfl 0 rfl ?_
            refine qk_bipush C (nI 12) dX5_orderFor_43 45 rfl rfl ?_
            refine qk_icmp_ge C dX5_orderFor_45 109 rfl 48 rfl (fun c_45 => ?_) (fun c_45 => ?_)
            · have h12 : 12 ≤ p := (nI_leI (by omega) (by omega)).mp c_45
              refine qk_iload C dX5_orderFor_109 111 rfl 2 rfl ?_
              exact hret _ _ _ _ dX5_orderFor_111 (qPx_ok ((zif_t ⟨c_5, c_13, c_22⟩).trans (by rw [zn_nI (show ji < 2 ^ 31 by omega), zn_nI (show jb < 2 ^ 31 by omega), zn_nI (show jn < 2 ^ 31 by omega), ← show p = 12 by omega, hi.2.2.2])) rfl hi.2.1 hi.2.2.1) rfl
            · have h12 : p < 12 := Nat.not_le.mp (fun q => c_45 (nI_le q (by omega)))
              refine qk_aloadn C dX5_orderFor_48 49 rfl rfl 3 rfl ?_
              refine qk_callV C dX5_orderFor_49 52 rfl ql_X5_144 qc_X5_beginTrial 0 (by decide) rfl rfl (c_X5_beginTrial l G ρ N w hI hi.2.2.1) rfl rfl (Nat.le_of_ble_eq_true rfl) ⟨(Nat.le_of_ble_eq_true rfl), (Nat.le_of_ble_eq_true rfl)⟩ (qx_Kv ?_)
              refine qk_aloadn C dX5_orderFor_52 53 rfl rfl 3 rfl ?_
              refine qk_get C dX5_orderFor_53 56 rfl qf_X5_16 0 (by decide) rfl rfl ?_
              refine qk_get C dX5_orderFor_56 59 rfl qf_X5_62 _ hM.l65 (qx_Fl hM _) rfl ?_
              refine qk_iloadn C dX5_orderFor_59 60 rfl rfl 4 rfl ?_
              refine qk_iload C dX5_orderFor_60 62 rfl 0 rfl ?_
              refine qk_iast C dX5_orderFor_62 63 rfl (14 + 1) hM.l1 (qx_Fl1 hM) (ji) rfl (by omega) (by decide) ?_
              refine qk_cg _ (qL_w1 hM hN8 (ji) (by omega) _) ?_
              refine qk_aloadn C dX5_orderFor_63 64 rfl rfl 3 rfl ?_
              refine qk_get C dX5_orderFor_64 67 rfl qf_X5_16 0 (by decide) rfl rfl ?_
              refine qk_iloadn C dX5_orderFor_67 68 rfl rfl 6 rfl ?_
              refine qk_callV C dX5_orderFor_68 71 rfl ql_X5_119 qc_X1_passDays _ hM.l65 (qx_Fl hM _) rfl (c_X1_passDays l G 14 N hM ρ _ (qv_li hI (by omega) (by omega)) jn (by omega)) rfl rfl (Nat.le_of_ble_eq_true rfl) ⟨(Nat.le_of_ble_eq_true rfl), (Nat.le_of_ble_eq_true rfl)⟩ (qx_Kv ?_)
              refine qk_aloadn C dX5_orderFor_71 72 rfl rfl 3 rfl ?_
              refine qk_get C dX5_orderFor_72 75 rfl qf_X5_16 0 (by decide) rfl rfl ?_
              refine qk_get C dX5_orderFor_75 78 rfl qf_X5_77 _ hM.l65 (qx_Fl hM _) rfl ?_
              refine qk_iloadn C dX5_orderFor_78 79 rfl rfl 5 rfl ?_
              refine qk_aald C dX5_orderFor_79 80 rfl (14 + 4) hM.l4 1 (qx_Fl4 hM _) rfl (jb) rfl (by omega) (by decide) rfl ?_
              refine qk_get C dX5_orderFor_80 83 rfl qf_X5_112 _ (qx_isB.of hM (show jb < 8 by omega)).lt (qx_Fb (qx_isB.of hM (show jb < 8 by omega)) _) rfl ?_
              refine qk_cast (qL_bf hjb _) ?_
              refine qk_callS C dX5_orderFor_83 86 rfl ql_X5_154 qc_J6_bitCount_0f7a4 (c_J6_bitCount_0f7a4 l G _ _) rfl rfl (Nat.le_of_ble_eq_true rfl) ⟨(Nat.le_of_ble_eq_true rfl), (Nat.le_of_ble_eq_true rfl)⟩ (qx_Ki ?_)
              refine qk_istore C dX5_orderFor_86 88 rfl (by decide) rfl ?_
              refine qk_iload C dX5_orderFor_88 90 rfl 0 rfl ?_
              refine qk_iload C dX5_orderFor_90 92 rfl 2 rfl ?_
              refine qk_icmp_le C dX5_orderFor_92 103 rfl 95 rfl (fun c_92 => ?_) (fun c_92 => ?_)
              · refine qk_iinc C (nI (p + 1)) dX5_orderFor_103 106 rfl 1 rfl (nI_1 p) (by decide) rfl ?_
                refine qk_goto C dX5_orderFor_106 41 rfl ?_
                exact qk_lo [0, 2, 3, 4, 5, 6, 7] rfl (ih_41 (p + 1) _ _ _ ⟨by omega, hi.2.1.tr hN8, qH_tr hi.2.2.1 hN8 hN8, z_bs_le hi.2.2.2 c_92⟩ (by omega))
              · refine qk_iload C dX5_orderFor_95 97 rfl 1 rfl ?_
                refine qk_istore C dX5_orderFor_97 99 rfl (by decide) rfl ?_
                refine qk_iload C dX5_orderFor_99 101 rfl 1 rfl ?_
                refine qk_istore C dX5_orderFor_101 103 rfl (by decide) rfl ?_
                refine qk_iinc C (nI (p + 1)) dX5_orderFor_103 106 rfl 3 rfl (nI_1 p) (by decide) rfl ?_
                refine qk_goto C dX5_orderFor_106 41 rfl ?_
                exact qk_lo [0, 1, 2, 4, 5, 6, 7] rfl (ih_41 (p + 1) _ _ _ ⟨by omega, hi.2.1.tr hN8, qH_tr hi.2.2.1 hN8 hN8, z_bs_gt hi.2.2.2 c_92⟩ (by omega))
        exact lp_41 _ 0 _ 0 (-1) ⟨by omega, hT, hW, rfl⟩ (Nat.lt_succ_self _)
      · refine qk_aloadn C dX5_orderFor_25 26 rfl rfl 0 rfl ?_
        refine qk_ldc C dX5_orderFor_26 28 rfl qw_321 ?_
        refine qk_callV C dX5_orderFor_28 31 rfl ql_X5_58 qc_X5_found 0 (by decide) rfl rfl (c_X5_found l G _ _ 0 (by decide) (by decide)) rfl rfl (Nat.le_of_ble_eq_true rfl) ⟨(Nat.le_of_ble_eq_true rfl), (Nat.le_of_ble_eq_true rfl)⟩ (qx_Ki ?_)
        exact hret _ _ _ _ dX5_orderFor_31 (qPx_bad 0 hN8 ((zif_f (by first | exact fun q => c_5 q.1 | exact fun q => c_13 q.2.1 | exact fun q => c_22 q.2.2))) rfl hT hW) rfl

theorem c_X5_kindFor (l : Launch) (G : qx_G) (σ : qx_Sg) (N : Nat) (w : Nat → Int32) (hI : qv_ok w N) (hH : qH σ 1 N w) (b n : Int32) : qx_Ct l G yX5_kindFor cX5_kindFor 7 (some .int) 5 113 [.ref (qx_ad G 0), .int b, .int n] (σ) (qPx σ (S_kindFor N w b n)) := by
  refine qx_of .int (lo := [(0, .ref (qx_ad G 0)), (1, .int b), (2, .int n)]) (by decide +kernel) (Nat.le_of_ble_eq_true rfl) rfl (fun Δ (C : qx_C G Δ cX5_kindFor RX5 7 5 113) hret => ?_)
  have hL : qx_isL 1 := Or.inl rfl
  have hM : qx_isL 14 := Or.inr (Or.inl rfl)
  have hN8 := hI.1
  have hN1 := hI.2.1
  have hT : qTr σ (qL σ 1 N w) := qTr.rf.li hN8
  have hW : qH (qL σ 1 N w) 1 N w := qH_qL
  refine qk_cg (qL σ 1 N w) (qH_w hH hL hN8) ?_
  refine qk_aloadn C dX5_kindFor_0 1 rfl rfl 0 rfl ?_
  refine qk_iloadn C dX5_kindFor_1 2 rfl rfl 1 rfl ?_
  refine qk_callV C dX5_kindFor_2 5 rfl ql_X5_73 qc_X5_isBust 0 (by decide) rfl rfl (c_X5_isBust l G σ N w hI _) rfl rfl (Nat.le_of_ble_eq_true rfl) ⟨(Nat.le_of_ble_eq_true rfl), (Nat.le_of_ble_eq_true rfl)⟩ (qx_Ki ?_)
  refine qk_if_eqB C dX5_kindFor_5 17 rfl 8 rfl (fun c_5 => ?_) (fun c_5 => ?_)
  · refine qk_aloadn C dX5_kindFor_17 18 rfl rfl 0 rfl ?_
    refine qk_ldc C dX5_kindFor_18 20 rfl qw_321 ?_
    refine qk_callV C dX5_kindFor_20 23 rfl ql_X5_58 qc_X5_found 0 (by decide) rfl rfl (c_X5_found l G _ _ 0 (by decide) (by decide)) rfl rfl (Nat.le_of_ble_eq_true rfl) ⟨(Nat.le_of_ble_eq_true rfl), (Nat.le_of_ble_eq_true rfl)⟩ (qx_Ki ?_)
    exact hret _ _ _ _ dX5_kindFor_23 (qPx_bad 0 hN8 ((zif_f (by first | exact fun q => c_5 q.1 | exact fun q => c_14 q.2))) rfl hT hW) rfl
  · refine qk_iloadn C dX5_kindFor_8 9 rfl rfl 2 rfl ?_
    refine qk_bipush C (60) dX5_kindFor_9 11 rfl rfl ?_
    refine qk_callS C dX5_kindFor_11 14 rfl ql_X5_53 qc_X5_within (c_X5_within l G _ _ _) rfl rfl (Nat.le_of_ble_eq_true rfl) ⟨(Nat.le_of_ble_eq_true rfl), (Nat.le_of_ble_eq_true rfl)⟩ (qx_Ki ?_)
    refine qk_if_neB C dX5_kindFor_14 24 rfl 17 rfl (fun c_14 => ?_) (fun c_14 => ?_)
    · obtain ⟨jb, hjb, rfl⟩ := z_ib_ex c_5 hN8
      obtain ⟨jn, hjn, rfl⟩ := z_in_ex 60 rfl (by omega) c_14
      refine qk_iconst C (0) dX5_kindFor_24 25 rfl rfl ?_
      refine qk_istoren C dX5_kindFor_25 26 rfl rfl (by decide) rfl ?_
      refine qk_iconst C ((-1)) dX5_kindFor_26 27 rfl rfl ?_
      refine qk_istore C dX5_kindFor_27 29 rfl (by decide) rfl ?_
      refine qk_iconst C (nI 0) dX5_kindFor_29 30 rfl rfl ?_
      refine qk_istore C dX5_kindFor_30 32 rfl (by decide) rfl ?_
      have lp_32 : ∀ (n_32 : Nat) (p : Nat) (ρ : qx_Sg) (bb mm : Int32), (p ≤ 7 ∧ qTr σ ρ ∧ qH ρ 1 N w ∧ z_bs (z_kf N w jb jn) p = (bb, mm)) → 7 - p < n_32 → qx_K l G Δ (ρ) 32 [(5, .int (nI p)), (4, .int mm), (3, .int bb), (0, .ref (qx_ad G 0)), (1, .int (nI jb)), (2, .int (nI jn))] [] := by
        intro n_32
        induction n_32 with
        | zero => intro _ _ _ _ _ h9; exact absurd h9 (Nat.not_lt_zero _)
        | succ n_32 ih_32 =>
          intro p ρ bb mm hi hm_32
          refine qk_iload C dX5_kindFor_32 34 rfl 0 rfl ?_
          refine qk_bipush C (nI 7) dX5_kindFor_34 36 rfl rfl ?_
          refine qk_icmp_ge C dX5_kindFor_36 99 rfl 39 rfl (fun c_36 => ?_) (fun c_36 => ?_)
          · have h12 : 7 ≤ p := (nI_leI (by omega) (by omega)).mp c_36
            refine qk_iloadn C dX5_kindFor_99 100 rfl rfl 2 rfl ?_
            exact hret _ _ _ _ dX5_kindFor_100 (qPx_ok ((zif_t ⟨c_5, c_14⟩).trans (by rw [zn_nI (show jb < 2 ^ 31 by omega), zn_nI (show jn < 2 ^ 31 by omega), ← show p = 7 by omega, hi.2.2.2])) rfl hi.2.1 hi.2.2.1) rfl
          · have h12 : p < 7 := Nat.not_le.mp (fun q => c_36 (nI_le q (by omega)))
            refine qk_aloadn C dX5_kindFor_39 40 rfl rfl 3 rfl ?_
            refine qk_callV C dX5_kindFor_40 43 rfl ql_X5_144 qc_X5_beginTrial 0 (by decide) rfl rfl (c_X5_beginTrial l G ρ N w hI hi.2.2.1) rfl rfl (Nat.le_of_ble_eq_true rfl) ⟨(Nat.le_of_ble_eq_true rfl), (Nat.le_of_ble_eq_true rfl)⟩ (qx_Kv ?_)
            refine qk_aloadn C dX5_kindFor_43 44 rfl rfl 3 rfl ?_
            refine qk_get C dX5_kindFor_44 47 rfl qf_X5_16 0 (by decide) rfl rfl ?_
            refine qk_get C dX5_kindFor_47 50 rfl qf_X5_77 _ hM.l65 (qx_Fl hM _) rfl ?_
            refine qk_iloadn C dX5_kindFor_50 51 rfl rfl 4 rfl ?_
            refine qk_aald C dX5_kindFor_51 52 rfl (14 + 4) hM.l4 1 (qx_Fl4 hM _) rfl (jb) rfl (by omega) (by decide) rfl ?_
            refine qk_iload C dX5_kindFor_52 54 rfl 0 rfl ?_
            refine qk_put C .int dX5_kindFor_54 57 rfl qf_X5_166 _ (qx_isB.of hM (show jb < 8 by omega)).lt (qx_Fb (qx_isB.of hM (show jb < 8 by omega)) _) (fun q hq => by cases hq; rfl) rfl rfl (Nat.le_of_ble_eq_true rfl) (qx_Fb (qx_isB.of hM (show jb < 8 by omega)) _) ?_
            refine qk_cg _ (qL_wb hM hN8 hjb 0 (by decide) _) ?_
            refine qk_aloadn C dX5_kindFor_57 58 rfl rfl 3 rfl ?_
            refine qk_get C dX5_kindFor_58 61 rfl qf_X5_16 0 (by decide) rfl rfl ?_
            refine qk_iloadn C dX5_kindFor_61 62 rfl rfl 5 rfl ?_
            refine qk_callV C dX5_kindFor_62 65 rfl ql_X5_119 qc_X1_passDays _ hM.l65 (qx_Fl hM _) rfl (c_X1_passDays l G 14 N hM ρ _ (qv_kd hI hjb (by omega)) jn (by omega)) rfl rfl (Nat.le_of_ble_eq_true rfl) ⟨(Nat.le_of_ble_eq_true rfl), (Nat.le_of_ble_eq_true rfl)⟩ (qx_Kv ?_)
            refine qk_aloadn C dX5_kindFor_65 66 rfl rfl 3 rfl ?_
            refine qk_get C dX5_kindFor_66 69 rfl qf_X5_16 0 (by decide) rfl rfl ?_
            refine qk_get C dX5_kindFor_69 72 rfl qf_X5_77 _ hM.l65 (qx_Fl hM _) rfl ?_
            refine qk_iloadn C dX5_kindFor_72 73 rfl rfl 4 rfl ?_
            refine qk_aald C dX5_kindFor_73 74 rfl (14 + 4) hM.l4 1 (qx_Fl4 hM _) rfl (jb) rfl (by omega) (by decide) rfl ?_
            refine qk_callV C dX5_kindFor_74 77 rfl ql_X5_169 qc_X0_says _ (qx_isB.of hM (show jb < 8 by omega)).lt (qx_Fb (qx_isB.of hM (show jb < 8 by omega)) _) rfl (cL_X0_says l G 14 N jb hM hN8 hjb ρ _) rfl rfl (Nat.le_of_ble_eq_true rfl) ⟨(Nat.le_of_ble_eq_true rfl), (Nat.le_of_ble_eq_true rfl)⟩ (qx_Ki ?_)
            refine qk_istore C dX5_kindFor_77 79 rfl (by decide) rfl ?_
            refine qk_iload C dX5_kindFor_79 81 rfl 0 rfl ?_
            refine qk_iload C dX5_kindFor_81 83 rfl 2 rfl ?_
            refine qk_icmp_le C dX5_kindFor_83 93 rfl 86 rfl (fun c_83 => ?_) (fun c_83 => ?_)
            · refine qk_iinc C (nI (p + 1)) dX5_kindFor_93 96 rfl 1 rfl (nI_1 p) (by decide) rfl ?_
              refine qk_goto C dX5_kindFor_96 32 rfl ?_
              exact qk_lo [0, 2, 3, 4, 5, 6] rfl (ih_32 (p + 1) _ _ _ ⟨by omega, hi.2.1.tr hN8, qH_tr hi.2.2.1 hN8 hN8, z_bs_le hi.2.2.2 c_83⟩ (by omega))
            · refine qk_iload C dX5_kindFor_86 88 rfl 1 rfl ?_
              refine qk_istoren C dX5_kindFor_88 89 rfl rfl (by decide) rfl ?_
              refine qk_iload C dX5_kindFor_89 91 rfl 1 rfl ?_
              refine qk_istore C dX5_kindFor_91 93 rfl (by decide) rfl ?_
              refine qk_iinc C (nI (p + 1)) dX5_kindFor_93 96 rfl 3 rfl (nI_1 p) (by decide) rfl ?_
              refine qk_goto C dX5_kindFor_96 32 rfl ?_
              exact qk_lo [0, 1, 2, 4, 5, 6] rfl (ih_32 (p + 1) _ _ _ ⟨by omega, hi.2.1.tr hN8, qH_tr hi.2.2.1 hN8 hN8, z_bs_gt hi.2.2.2 c_83⟩ (by omega))
      exact lp_32 _ 0 _ 0 (-1) ⟨by omega, hT, hW, rfl⟩ (Nat.lt_succ_self _)
    · refine qk_aloadn C dX5_kindFor_17 18 rfl rfl 0 rfl ?_
      refine qk_ldc C dX5_kindFor_18 20 rfl qw_321 ?_
      refine qk_callV C dX5_kindFor_20 23 rfl ql_X5_58 qc_X5_found 0 (by decide) rfl rfl (c_X5_found l G _ _ 0 (by decide) (by decide)) rfl rfl (Nat.le_of_ble_eq_true rfl) ⟨(Nat.le_of_ble_eq_true rfl), (Nat.le_of_ble_eq_true rfl)⟩ (qx_Ki ?_)
      exact hret _ _ _ _ dX5_kindFor_23 (qPx_bad 0 hN8 ((zif_f (by first | exact fun q => c_5 q.1 | exact fun q => c_14 q.2))) rfl hT hW) rfl

theorem c_X5_hasByDate (l : Launch) (G : qx_G) (τ : qx_Sg) (N : Nat) (w : Nat → Int32) (hI : qv_ok w N) (hH : qH τ 1 N w) (j : Nat) (hj : j < N) (d : Nat) (p : Int32) (n : Nat) (hn : n < 2 ^ 31) : qx_Ct l G yX5_hasByDate cX5_hasByDate 5 (some .boolean) 5 113 [.ref (qx_ad G 0), .int (nI j), .int (nI d), .int p, .int (nI n)] (τ) (qx_pi (qb (z_hd N w j n p d)) (qL τ 14 N (z_dn (upd w (32 + 7 * j + 1) (nI d)) N n))) := by
  refine qx_of .boolean (lo := [(0, .ref (qx_ad G 0)), (1, .int (nI j)), (2, .int (nI d)), (3, .int p), (4, .int (nI n))]) (by decide +kernel) (Nat.le_of_ble_eq_true rfl) rfl (fun Δ (C : qx_C G Δ cX5_hasByDate RX5 5 5 113) hret => ?_)
  have hL : qx_isL 1 := Or.inl rfl
  have hM : qx_isL 14 := Or.inr (Or.inl rfl)
  have hN8 := hI.1
  have hN1 := hI.2.1
  refine qk_aloadn C dX5_hasByDate_0 1 rfl rfl 0 rfl ?_
  refine qk_callV C dX5_hasByDate_1 4 rfl ql_X5_144 qc_X5_beginTrial 0 (by decide) rfl rfl (c_X5_beginTrial l G τ N w hI hH) rfl rfl (Nat.le_of_ble_eq_true rfl) ⟨(Nat.le_of_ble_eq_true rfl), (Nat.le_of_ble_eq_true rfl)⟩ (qx_Kv ?_)
  refine qk_aloadn C dX5_hasByDate_4 5 rfl rfl 0 rfl ?_
  refine qk_get C dX5_hasByDate_5 8 rfl qf_X5_16 0 (by decide) rfl rfl ?_
  refine qk_get C dX5_hasByDate_8 11 rfl qf_X5_77 _ hM.l65 (qx_Fl hM _) rfl ?_
  refine qk_iloadn C dX5_hasByDate_11 12 rfl rfl 1 rfl ?_
  refine qk_aald C dX5_hasByDate_12 13 rfl (14 + 4) hM.l4 1 (qx_Fl4 hM _) rfl (j) rfl (by omega) (by decide) rfl ?_
  refine qk_iloadn C dX5_hasByDate_13 14 rfl rfl 2 rfl ?_
  refine qk_put C .int dX5_hasByDate_14 17 rfl qf_X5_265 _ (qx_isB.of hM (show j < 8 by omega)).lt (qx_Fb (qx_isB.of hM (show j < 8 by omega)) _) (fun q hq => by cases hq; rfl) rfl rfl (Nat.le_of_ble_eq_true rfl) (qx_Fb (qx_isB.of hM (show j < 8 by omega)) _) ?_
  refine qk_cg _ (qL_wb hM hN8 hj 1 (by decide) _) ?_
  refine qk_aloadn C dX5_hasByDate_17 18 rfl rfl 0 rfl ?_
  refine qk_get C dX5_hasByDate_18 21 rfl qf_X5_16 0 (by decide) rfl rfl ?_
  refine qk_iload C dX5_hasByDate_21 23 rfl 4 rfl ?_
  refine qk_callV C dX5_hasByDate_23 26 rfl ql_X5_119 qc_X1_passDays _ hM.l65 (qx_Fl hM _) rfl (c_X1_passDays l G 14 N hM τ _ (qv_fr hI _ hj (Or.inl rfl)) n hn) rfl rfl (Nat.le_of_ble_eq_true rfl) ⟨(Nat.le_of_ble_eq_true rfl), (Nat.le_of_ble_eq_true rfl)⟩ (qx_Kv ?_)
  refine qk_aloadn C dX5_hasByDate_26 27 rfl rfl 0 rfl ?_
  refine qk_get C dX5_hasByDate_27 30 rfl qf_X5_16 0 (by decide) rfl rfl ?_
  refine qk_get C dX5_hasByDate_30 33 rfl qf_X5_77 _ hM.l65 (qx_Fl hM _) rfl ?_
  refine qk_iloadn C dX5_hasByDate_33 34 rfl rfl 1 rfl ?_
  refine qk_aald C dX5_hasByDate_34 35 rfl (14 + 4) hM.l4 1 (qx_Fl4 hM _) rfl (j) rfl (by omega) (by decide) rfl ?_
  refine qk_iloadn C dX5_hasByDate_35 36 rfl rfl 3 rfl ?_
  refine qk_callV C dX5_hasByDate_36 39 rfl ql_X5_100 qc_X0_hasPart _ (qx_isB.of hM (show j < 8 by omega)).lt (qx_Fb (qx_isB.of hM (show j < 8 by omega)) _) rfl (cL_X0_hasPart l G 14 N j hM hN8 hj τ _ _) rfl rfl (Nat.le_of_ble_eq_true rfl) ⟨(Nat.le_of_ble_eq_true rfl), (Nat.le_of_ble_eq_true rfl)⟩ (qx_Ki ?_)
  exact hret _ _ _ _ dX5_hasByDate_39 ⟨congrArg (fun x => some (Value.int x)) (rfl), rfl⟩ (qb_nar _)

theorem c_X5_dateFor (l : Launch) (G : qx_G) (σ : qx_Sg) (N : Nat) (w : Nat → Int32) (hI : qv_ok w N) (hH : qH σ 1 N w) (b p n : Int32) : qx_Ct l G yX5_dateFor cX5_dateFor 5 (some .int) 6 137 [.ref (qx_ad G 0), .int b, .int p, .int n] (σ) (qPx σ (S_dateForX N w b p n)) := by
  refine qx_of .int (lo := [(0, .ref (qx_ad G 0)), (1, .int b), (2, .int p), (3, .int n)]) (by decide +kernel) (Nat.le_of_ble_eq_true rfl) rfl (fun Δ (C : qx_C G Δ cX5_dateFor RX5 5 6 137) hret => ?_)
  have hL : qx_isL 1 := Or.inl rfl
  have hM : qx_isL 14 := Or.inr (Or.inl rfl)
  have hN8 := hI.1
  have hN1 := hI.2.1
  have hT : qTr σ (qL σ 1 N w) := qTr.rf.li hN8
  have hW : qH (qL σ 1 N w) 1 N w := qH_qL
  refine qk_cg (qL σ 1 N w) (qH_w hH hL hN8) ?_
  refine qk_aloadn C dX5_dateFor_0 1 rfl rfl 0 rfl ?_
  refine qk_iloadn C dX5_dateFor_1 2 rfl rfl 1 rfl ?_
  refine qk_callV C dX5_dateFor_2 5 rfl ql_X5_73 qc_X5_isBust 0 (by decide) rfl rfl (c_X5_isBust l G σ N w hI _) rfl rfl (Nat.le_of_ble_eq_true rfl) ⟨(Nat.le_of_ble_eq_true rfl), (Nat.le_of_ble_eq_true rfl)⟩ (qx_Ki ?_)
  refine qk_if_eqB C dX5_dateFor_5 26 rfl 8 rfl (fun c_5 => ?_) (fun c_5 => ?_)
  · refine qk_aloadn C dX5_dateFor_26 27 rfl rfl 0 rfl ?_
    refine qk_ldc C dX5_dateFor_27 29 rfl qw_321 ?_
    refine qk_callV C dX5_dateFor_29 32 rfl ql_X5_58 qc_X5_found 0 (by decide) rfl rfl (c_X5_found l G _ _ 0 (by decide) (by decide)) rfl rfl (Nat.le_of_ble_eq_true rfl) ⟨(Nat.le_of_ble_eq_true rfl), (Nat.le_of_ble_eq_true rfl)⟩ (qx_Ki ?_)
    exact hret _ _ _ _ dX5_dateFor_32 (qPx_bad 0 hN8 ((zif_f (by first | exact fun q => c_5 q.1 | exact fun q => c_14 q.2.1 | exact fun q => c_23 q.2.2))) rfl hT hW) rfl
  · refine qk_iloadn C dX5_dateFor_8 9 rfl rfl 2 rfl ?_
    refine qk_bipush C (11) dX5_dateFor_9 11 rfl rfl ?_
    refine qk_callS C dX5_dateFor_11 14 rfl ql_X5_53 qc_X5_within (c_X5_within l G _ _ _) rfl rfl (Nat.le_of_ble_eq_true rfl) ⟨(Nat.le_of_ble_eq_true rfl), (Nat.le_of_ble_eq_true rfl)⟩ (qx_Ki ?_)
    refine qk_if_eqB C dX5_dateFor_14 26 rfl 17 rfl (fun c_14 => ?_) (fun c_14 => ?_)
    · refine qk_aloadn C dX5_dateFor_26 27 rfl rfl 0 rfl ?_
      refine qk_ldc C dX5_dateFor_27 29 rfl qw_321 ?_
      refine qk_callV C dX5_dateFor_29 32 rfl ql_X5_58 qc_X5_found 0 (by decide) rfl rfl (c_X5_found l G _ _ 0 (by decide) (by decide)) rfl rfl (Nat.le_of_ble_eq_true rfl) ⟨(Nat.le_of_ble_eq_true rfl), (Nat.le_of_ble_eq_true rfl)⟩ (qx_Ki ?_)
      exact hret _ _ _ _ dX5_dateFor_32 (qPx_bad 0 hN8 ((zif_f (by first | exact fun q => c_5 q.1 | exact fun q => c_14 q.2.1 | exact fun q => c_23 q.2.2))) rfl hT hW) rfl
    · refine qk_iloadn C dX5_dateFor_17 18 rfl rfl 3 rfl ?_
      refine qk_bipush C (12) dX5_dateFor_18 20 rfl rfl ?_
      refine qk_callS C dX5_dateFor_20 23 rfl ql_X5_53 qc_X5_within (c_X5_within l G _ _ _) rfl rfl (Nat.le_of_ble_eq_true rfl) ⟨(Nat.le_of_ble_eq_true rfl), (Nat.le_of_ble_eq_true rfl)⟩ (qx_Ki ?_)
      refine qk_if_neB C dX5_dateFor_23 33 rfl 26 rfl (fun c_23 => ?_) (fun c_23 => ?_)
      · obtain ⟨jb, hjb, rfl⟩ := z_ib_ex c_5 hN8
        obtain ⟨jn, hjn, rfl⟩ := z_in_ex 12 rfl (by omega) c_23
        refine qk_sipush C (nI 1000 + (-1)) dX5_dateFor_33 36 rfl rfl ?_
        refine qk_istore C dX5_dateFor_36 38 rfl (by decide) rfl ?_
        have lp_38 : ∀ (n_38 : Nat) (k : Nat) (ρ : qx_Sg), (k ≤ 1000 ∧ qTr σ ρ ∧ qH ρ 1 N w ∧ z_gd (fun d => z_md w N jb (nI d) ∧ z_hd N w jb jn p d) 1000 = z_gd (fun d => z_md w N jb (nI d) ∧ z_hd N w jb jn p d) k) → k < n_38 → qx_K l G Δ (ρ) 38 [(4, .int (nI k + (-1))), (0, .ref (qx_ad G 0)), (1, .int (nI jb)), (2, .int p), (3, .int (nI jn))] [] := by
          intro n_38
          induction n_38 with
          | zero => intro _ _ _ h9; exact absurd h9 (Nat.not_lt_zero _)
          | succ n_38 ih_38 =>
            intro k ρ hi hm_38
            rcases k with _ | k
            · refine qk_iload C dX5_dateFor_38 40 rfl 0 rfl ?_
              refine qk_if_lt C dX5_dateFor_40 77 rfl 43 rfl (fun _ => ?_) (fun c => absurd (by decide) c)
              refine qk_aloadn C dX5_dateFor_77 78 rfl rfl 1 rfl ?_
              refine qk_ldc C dX5_dateFor_78 80 rfl qw_419 ?_
              refine qk_callV C dX5_dateFor_80 83 rfl ql_X5_58 qc_X5_found 0 (by decide) rfl rfl (c_X5_found l G _ _ 3 (by decide) (by decide)) rfl rfl (Nat.le_of_ble_eq_true rfl) ⟨(Nat.le_of_ble_eq_true rfl), (Nat.le_of_ble_eq_true rfl)⟩ (qx_Ki ?_)
              exact hret _ _ _ _ dX5_dateFor_83 (qPx_bad 3 hN8 ((zif_t ⟨c_5, c_14, c_23⟩).trans (by rw [zn_nI (show jb < 2 ^ 31 by omega), zn_nI (show jn < 2 ^ 31 by omega), hi.2.2.2]; rfl)) rfl hi.2.1 hi.2.2.1) rfl
            · refine qk_iload C dX5_dateFor_38 40 rfl 0 rfl ?_
              refine qk_cast (pk_m1 k) ?_
              refine qk_if_lt C dX5_dateFor_40 77 rfl 43 rfl (fun c_40 => absurd c_40 (nI_pos (by omega))) (fun c_40 => ?_)
              refine qk_cg (qL ρ 1 N w) (qH_w hi.2.2.1 hL hN8) ?_
              refine qk_aloadn C dX5_dateFor_43 44 rfl rfl 1 rfl ?_
              refine qk_get C dX5_dateFor_44 47 rfl qf_X5_12 0 (by decide) rfl rfl ?_
              refine qk_iloadn C dX5_dateFor_47 48 rfl rfl 2 rfl ?_
              refine qk_iload C dX5_dateFor_48 50 rfl 0 rfl ?_
              refine qk_cast (pk_m1 k) ?_
              refine qk_callV C dX5_dateFor_50 53 rfl ql_X5_159 qc_X1_mayDifferAt _ hL.l65 (qx_Fl hL _) rfl (c_X1_mayDifferAt l G 1 N hL ρ w hI jb (by omega) _) rfl rfl (Nat.le_of_ble_eq_true rfl) ⟨(Nat.le_of_ble_eq_true rfl), (Nat.le_of_ble_eq_true rfl)⟩ (qx_Ki ?_)
              refine qk_if_eqB C dX5_dateFor_53 71 rfl 56 rfl (fun c_53 => ?_) (fun c_53 => ?_)
              · refine qk_iinc C (nI k + (-1)) dX5_dateFor_71 74 rfl 0 rfl (by rw [pk_m1 k]; rfl) (by decide) rfl ?_
                refine qk_goto C dX5_dateFor_74 38 rfl ?_
                exact ih_38 k _ ⟨by omega, hi.2.1.li hN8, qH_qL, hi.2.2.2.trans (z_gd_f (by first | exact fun q => c_53 q.1 | exact fun q => c_65 q.2))⟩ (by omega)
              · refine qk_aloadn C dX5_dateFor_56 57 rfl rfl 1 rfl ?_
                refine qk_iloadn C dX5_dateFor_57 58 rfl rfl 2 rfl ?_
                refine qk_iload C dX5_dateFor_58 60 rfl 0 rfl ?_
                refine qk_cast (pk_m1 k) ?_
                refine qk_iloadn C dX5_dateFor_60 61 rfl rfl 3 rfl ?_
                refine qk_iloadn C dX5_dateFor_61 62 rfl rfl 4 rfl ?_
                refine qk_callV C dX5_dateFor_62 65 rfl ql_X5_162 qc_X5_hasByDate 0 (by decide) rfl rfl (c_X5_hasByDate l G (qL ρ 1 N w) N w hI qH_qL jb hjb k _ jn (by omega)) rfl rfl (Nat.le_of_ble_eq_true rfl) ⟨(Nat.le_of_ble_eq_true rfl), (Nat.le_of_ble_eq_true rfl)⟩ (qx_Ki ?_)
                refine qk_if_eqB C dX5_dateFor_65 71 rfl 68 rfl (fun c_65 => ?_) (fun c_65 => ?_)
                · refine qk_iinc C (nI k + (-1)) dX5_dateFor_71 74 rfl 0 rfl (by rw [pk_m1 k]; rfl) (by decide) rfl ?_
                  refine qk_goto C dX5_dateFor_74 38 rfl ?_
                  exact ih_38 k _ ⟨by omega, (hi.2.1.li hN8).tr hN8, qH_tr qH_qL hN8 hN8, hi.2.2.2.trans (z_gd_f (by first | exact fun q => c_53 q.1 | exact fun q => c_65 q.2))⟩ (by omega)
                · refine qk_iload C dX5_dateFor_68 70 rfl 0 rfl ?_
                  refine qk_cast (pk_m1 k) ?_
                  exact hret _ _ _ _ dX5_dateFor_70 (qPx_ok ((zif_t ⟨c_5, c_14, c_23⟩).trans (by rw [zn_nI (show jb < 2 ^ 31 by omega), zn_nI (show jn < 2 ^ 31 by omega), hi.2.2.2, z_gd_t ⟨c_53, c_65⟩]; rfl)) rfl ((hi.2.1.li hN8).tr hN8) (qH_tr qH_qL hN8 hN8)) rfl
        exact lp_38 _ 1000 _ ⟨by omega, hT, hW, rfl⟩ (Nat.lt_succ_self _)
      · refine qk_aloadn C dX5_dateFor_26 27 rfl rfl 0 rfl ?_
        refine qk_ldc C dX5_dateFor_27 29 rfl qw_321 ?_
        refine qk_callV C dX5_dateFor_29 32 rfl ql_X5_58 qc_X5_found 0 (by decide) rfl rfl (c_X5_found l G _ _ 0 (by decide) (by decide)) rfl rfl (Nat.le_of_ble_eq_true rfl) ⟨(Nat.le_of_ble_eq_true rfl), (Nat.le_of_ble_eq_true rfl)⟩ (qx_Ki ?_)
        exact hret _ _ _ _ dX5_dateFor_32 (qPx_bad 0 hN8 ((zif_f (by first | exact fun q => c_5 q.1 | exact fun q => c_14 q.2.1 | exact fun q => c_23 q.2.2))) rfl hT hW) rfl

theorem c_X5_pathTo (l : Launch) (G : qx_G) (σ : qx_Sg) (N : Nat) (w : Nat → Int32) (hI : qv_ok w N) (hH : qH σ 1 N w) (b p : Int32) : qx_Ct l G yX5_pathTo cX5_pathTo 4 (some .int) 4 102 [.ref (qx_ad G 0), .int b, .int p] (σ) (qPx σ (S_pathTo N w b p)) := by
  refine qx_of .int (lo := [(0, .ref (qx_ad G 0)), (1, .int b), (2, .int p)]) (by decide +kernel) (Nat.le_of_ble_eq_true rfl) rfl (fun Δ (C : qx_C G Δ cX5_pathTo RX5 4 4 102) hret => ?_)
  have hL : qx_isL 1 := Or.inl rfl
  have hM : qx_isL 14 := Or.inr (Or.inl rfl)
  have hN8 := hI.1
  have hN1 := hI.2.1
  have hT : qTr σ (qL σ 1 N w) := qTr.rf.li hN8
  have hW : qH (qL σ 1 N w) 1 N w := qH_qL
  refine qk_cg (qL σ 1 N w) (qH_w hH hL hN8) ?_
  refine qk_aloadn C dX5_pathTo_0 1 rfl rfl 0 rfl ?_
  refine qk_iloadn C dX5_pathTo_1 2 rfl rfl 1 rfl ?_
  refine qk_callV C dX5_pathTo_2 5 rfl ql_X5_73 qc_X5_isBust 0 (by decide) rfl rfl (c_X5_isBust l G σ N w hI _) rfl rfl (Nat.le_of_ble_eq_true rfl) ⟨(Nat.le_of_ble_eq_true rfl), (Nat.le_of_ble_eq_true rfl)⟩ (qx_Ki ?_)
  refine qk_if_eqB C dX5_pathTo_5 17 rfl 8 rfl (fun c_5 => ?_) (fun c_5 => ?_)
  · refine qk_aloadn C dX5_pathTo_17 18 rfl rfl 0 rfl ?_
    refine qk_ldc C dX5_pathTo_18 20 rfl qw_321 ?_
    refine qk_callV C dX5_pathTo_20 23 rfl ql_X5_58 qc_X5_found 0 (by decide) rfl rfl (c_X5_found l G _ _ 0 (by decide) (by decide)) rfl rfl (Nat.le_of_ble_eq_true rfl) ⟨(Nat.le_of_ble_eq_true rfl), (Nat.le_of_ble_eq_true rfl)⟩ (qx_Ki ?_)
    exact hret _ _ _ _ dX5_pathTo_23 (qPx_bad 0 hN8 ((zif_f (by first | exact fun q => c_5 q.1 | exact fun q => c_14 q.2))) rfl hT hW) rfl
  · refine qk_iloadn C dX5_pathTo_8 9 rfl rfl 2 rfl ?_
    refine qk_bipush C (11) dX5_pathTo_9 11 rfl rfl ?_
    refine qk_callS C dX5_pathTo_11 14 rfl ql_X5_53 qc_X5_within (c_X5_within l G _ _ _) rfl rfl (Nat.le_of_ble_eq_true rfl) ⟨(Nat.le_of_ble_eq_true rfl), (Nat.le_of_ble_eq_true rfl)⟩ (qx_Ki ?_)
    refine qk_if_neB C dX5_pathTo_14 24 rfl 17 rfl (fun c_14 => ?_) (fun c_14 => ?_)
    · obtain ⟨jb, hjb, rfl⟩ := z_ib_ex c_5 hN8
      obtain ⟨jp, hjp, rfl⟩ := z_in_ex 11 rfl (by omega) c_14
      refine qk_aloadn C dX5_pathTo_24 25 rfl rfl 0 rfl ?_
      refine qk_get C dX5_pathTo_25 28 rfl qf_X5_12 0 (by decide) rfl rfl ?_
      refine qk_get C dX5_pathTo_28 31 rfl qf_X5_77 _ hL.l65 (qx_Fl hL _) rfl ?_
      refine qk_iloadn C dX5_pathTo_31 32 rfl rfl 1 rfl ?_
      refine qk_aald C dX5_pathTo_32 33 rfl (1 + 4) hL.l4 1 (qx_Fl4 hL _) rfl (jb) rfl (by omega) (by decide) rfl ?_
      refine qk_iloadn C dX5_pathTo_33 34 rfl rfl 2 rfl ?_
      refine qk_callV C dX5_pathTo_34 37 rfl ql_X5_100 qc_X0_hasPart _ (qx_isB.of hL (show jb < 8 by omega)).lt (qx_Fb (qx_isB.of hL (show jb < 8 by omega)) _) rfl (cL_X0_hasPart l G 1 N jb hL hN8 hjb σ w _) rfl rfl (Nat.le_of_ble_eq_true rfl) ⟨(Nat.le_of_ble_eq_true rfl), (Nat.le_of_ble_eq_true rfl)⟩ (qx_Ki ?_)
      refine qk_if_eqB C dX5_pathTo_37 42 rfl 40 rfl (fun c_37 => ?_) (fun c_37 => ?_)
      · refine qk_aloadn C dX5_pathTo_42 43 rfl rfl 0 rfl ?_
        refine qk_callV C dX5_pathTo_43 46 rfl ql_X5_144 qc_X5_beginTrial 0 (by decide) rfl rfl (c_X5_beginTrial l G (qL σ 1 N w) N w hI hW) rfl rfl (Nat.le_of_ble_eq_true rfl) ⟨(Nat.le_of_ble_eq_true rfl), (Nat.le_of_ble_eq_true rfl)⟩ (qx_Kv ?_)
        refine qk_aloadn C dX5_pathTo_46 47 rfl rfl 0 rfl ?_
        refine qk_get C dX5_pathTo_47 50 rfl qf_X5_16 0 (by decide) rfl rfl ?_
        refine qk_get C dX5_pathTo_50 53 rfl qf_X5_77 _ hM.l65 (qx_Fl hM _) rfl ?_
        refine qk_iloadn C dX5_pathTo_53 54 rfl rfl 1 rfl ?_
        refine qk_aald C dX5_pathTo_54 55 rfl (14 + 4) hM.l4 1 (qx_Fl4 hM _) rfl (jb) rfl (by omega) (by decide) rfl ?_
        refine qk_iloadn C dX5_pathTo_55 56 rfl rfl 2 rfl ?_
        refine qk_callV C dX5_pathTo_56 59 rfl ql_X5_172 qc_X0_pathUpTo _ (qx_isB.of hM (show jb < 8 by omega)).lt (qx_Fb (qx_isB.of hM (show jb < 8 by omega)) _) rfl (cL_X0_pathUpTo l G 14 N jb hM hN8 hjb _ w jp (by omega)) rfl rfl (Nat.le_of_ble_eq_true rfl) ⟨(Nat.le_of_ble_eq_true rfl), (Nat.le_of_ble_eq_true rfl)⟩ (qx_Ki ?_)
        generalize hr : z_pF (w (32 + 7 * jb + 0)) (w (32 + 7 * jb + 2)) jp 0 = r
        refine qk_istoren C dX5_pathTo_59 60 rfl rfl (by decide) rfl ?_
        refine qk_iloadn C dX5_pathTo_60 61 rfl rfl 0 rfl ?_
        refine qk_if_ne C dX5_pathTo_61 73 rfl 64 rfl (fun c_61 => ?_) (fun c_61 => ?_)
        · refine qk_iloadn C dX5_pathTo_73 74 rfl rfl 0 rfl ?_
          exact hret _ _ _ _ dX5_pathTo_74 (qPx_ok ((zif_t ⟨c_5, c_14⟩).trans ((zif_f (by rw [zn_nI (show jb < 2 ^ 31 by omega)]; exact c_37)).trans (by rw [zn_nI (show jb < 2 ^ 31 by omega), zn_nI (show jp < 2 ^ 31 by omega), hr]; exact if_neg c_61))) rfl (hT.tr hN8) (qH_tr hW hN8 hN8)) rfl
        · refine qk_aloadn C dX5_pathTo_64 65 rfl rfl 1 rfl ?_
          refine qk_ldc C dX5_pathTo_65 67 rfl qw_419 ?_
          refine qk_callV C dX5_pathTo_67 70 rfl ql_X5_58 qc_X5_found 0 (by decide) rfl rfl (c_X5_found l G _ _ 3 (by decide) (by decide)) rfl rfl (Nat.le_of_ble_eq_true rfl) ⟨(Nat.le_of_ble_eq_true rfl), (Nat.le_of_ble_eq_true rfl)⟩ (qx_Ki ?_)
          refine qk_goto C dX5_pathTo_70 74 rfl ?_
          exact hret _ _ _ _ dX5_pathTo_74 (qPx_bad 3 hN8 ((zif_t ⟨c_5, c_14⟩).trans ((zif_f (by rw [zn_nI (show jb < 2 ^ 31 by omega)]; exact c_37)).trans (by rw [zn_nI (show jb < 2 ^ 31 by omega), zn_nI (show jp < 2 ^ 31 by omega), hr]; exact if_pos c_61))) rfl (hT.tr hN8) (qH_tr hW hN8 hN8)) rfl
      · refine qk_iconst C (0) dX5_pathTo_40 41 rfl rfl ?_
        exact hret _ _ _ _ dX5_pathTo_41 (qPx_ok ((zif_t ⟨c_5, c_14⟩).trans (zif_t (by rw [zn_nI (show jb < 2 ^ 31 by omega)]; exact c_37))) rfl hT hW) rfl
    · refine qk_aloadn C dX5_pathTo_17 18 rfl rfl 0 rfl ?_
      refine qk_ldc C dX5_pathTo_18 20 rfl qw_321 ?_
      refine qk_callV C dX5_pathTo_20 23 rfl ql_X5_58 qc_X5_found 0 (by decide) rfl rfl (c_X5_found l G _ _ 0 (by decide) (by decide)) rfl rfl (Nat.le_of_ble_eq_true rfl) ⟨(Nat.le_of_ble_eq_true rfl), (Nat.le_of_ble_eq_true rfl)⟩ (qx_Ki ?_)
      exact hret _ _ _ _ dX5_pathTo_23 (qPx_bad 0 hN8 ((zif_f (by first | exact fun q => c_5 q.1 | exact fun q => c_14 q.2))) rfl hT hW) rfl

theorem z_shl1 {N : Nat} (h : N ≤ 8) : (1 : Int32) <<< (nI N &&& 31) = nI (2 ^ N) := by
  have : N = 0 ∨ N = 1 ∨ N = 2 ∨ N = 3 ∨ N = 4 ∨ N = 5 ∨ N = 6 ∨ N = 7 ∨ N = 8 := by omega
  rcases this with rfl | rfl | rfl | rfl | rfl | rfl | rfl | rfl | rfl <;> decide
theorem z_sl_1 {w : Nat → Int32} {s : Int32} {b : Nat} : z_sl w s b 1 = w 1 := by
  induction b with
  | zero => rfl
  | succ b ih => exact z_selr_all (R := fun u => u 1 = w 1) (by rw [upd_ne (by omega)]; exact ih) ih
theorem qv_sl {w : Nat → Int32} {N : Nat} (h : qv_ok w N) (s : Int32) : ∀ b, b ≤ N → qv_ok (z_sl w s b) N := by
  intro b
  induction b with
  | zero => intro _; exact h
  | succ b ih => intro hb; exact z_selr_all (R := fun u => qv_ok u N) (qv_fr (ih (by omega)) _ (by omega) (Or.inr (Or.inr (Or.inr rfl)))) (ih (by omega))
theorem c_X5_keepsAll (l : Launch) (G : qx_G) (τ : qx_Sg) (N : Nat) (w : Nat → Int32) (hI : qv_ok w N) (hH : qH τ 1 N w) (s : Int32) (n : Nat) (hn : n < 2 ^ 31) : qx_Ct l G yX5_keepsAll cX5_keepsAll 4 (some .boolean) 5 113 [.ref (qx_ad G 0), .int s, .int (nI n)] (τ) (qx_pi (qb (z_ka N w n s)) (qL τ 14 N (z_dn (z_sl w s N) N n))) := by
  refine qx_of .boolean (lo := [(0, .ref (qx_ad G 0)), (1, .int s), (2, .int (nI n))]) (by decide +kernel) (Nat.le_of_ble_eq_true rfl) rfl (fun Δ (C : qx_C G Δ cX5_keepsAll RX5 4 5 113) hret => ?_)
  have hL : qx_isL 1 := Or.inl rfl
  have hM : qx_isL 14 := Or.inr (Or.inl rfl)
  have hN8 := hI.1
  have hN1 := hI.2.1
  refine qk_aloadn C dX5_keepsAll_0 1 rfl rfl 0 rfl ?_
  refine qk_callV C dX5_keepsAll_1 4 rfl ql_X5_144 qc_X5_beginTrial 0 (by decide) rfl rfl (c_X5_beginTrial l G τ N w hI hH) rfl rfl (Nat.le_of_ble_eq_true rfl) ⟨(Nat.le_of_ble_eq_true rfl), (Nat.le_of_ble_eq_true rfl)⟩ (qx_Kv ?_)
  refine qk_iconst C (nI 0) dX5_keepsAll_4 5 rfl rfl ?_
  refine qk_istoren C dX5_keepsAll_5 6 rfl rfl (by decide) rfl ?_
  have lp_6 : ∀ (n_6 : Nat) (b : Nat), b ≤ N → N - b < n_6 → qx_K l G Δ (qL τ 14 N (z_sl w s b)) 6 [(3, .int (nI b)), (0, .ref (qx_ad G 0)), (1, .int s), (2, .int (nI n))] [] := by
    intro n_6
    induction n_6 with
    | zero => intro _ _ h9; exact absurd h9 (Nat.not_lt_zero _)
    | succ n_6 ih_6 =>
      intro b hi hm_6
      refine qk_iloadn C dX5_keepsAll_6 7 rfl rfl 0 rfl ?_
      refine qk_aloadn C dX5_keepsAll_7 8 rfl rfl 1 rfl ?_
      refine qk_get C dX5_keepsAll_8 11 rfl qf_X5_16 0 (by decide) rfl rfl ?_
      refine qk_get C dX5_keepsAll_11 14 rfl qf_X5_175 _ hM.l65 (qx_Fl hM _) rfl ?_
      refine qk_cast qL_j3 ?_
      refine qk_cast (z_sl_1.trans hN1) ?_
      refine qk_icmp_ge C dX5_keepsAll_14 45 rfl 17 rfl (fun c_14 => ?_) (fun c_14 => ?_)
      · have hbN : N ≤ b := (nI_leI (by omega) (by omega)).mp c_14
        have hbe : b = N := by omega
        subst hbe
        refine qk_aloadn C dX5_keepsAll_45 46 rfl rfl 1 rfl ?_
        refine qk_get C dX5_keepsAll_46 49 rfl qf_X5_16 0 (by decide) rfl rfl ?_
        refine qk_iloadn C dX5_keepsAll_49 50 rfl rfl 3 rfl ?_
        refine qk_callV C dX5_keepsAll_50 53 rfl ql_X5_119 qc_X1_passDays _ hM.l65 (qx_Fl hM _) rfl (c_X1_passDays l G 14 b hM τ _ (qv_sl hI s b (Nat.le_refl _)) n hn) rfl rfl (Nat.le_of_ble_eq_true rfl) ⟨(Nat.le_of_ble_eq_true rfl), (Nat.le_of_ble_eq_true rfl)⟩ (qx_Kv ?_)
        refine qk_aloadn C dX5_keepsAll_53 54 rfl rfl 1 rfl ?_
        refine qk_get C dX5_keepsAll_54 57 rfl qf_X5_16 0 (by decide) rfl rfl ?_
        refine qk_get C dX5_keepsAll_57 60 rfl qf_X5_122 _ hM.l65 (qx_Fl hM _) rfl ?_
        refine qk_cast qL_j1 ?_
        refine qk_aloadn C dX5_keepsAll_60 61 rfl rfl 1 rfl ?_
        refine qk_get C dX5_keepsAll_61 64 rfl qf_X5_12 0 (by decide) rfl rfl ?_
        refine qk_get C dX5_keepsAll_64 67 rfl qf_X5_122 _ hL.l65 (qx_Fl hL _) rfl ?_
        refine qk_cast (show _ = w 3 from by rw [qL_o (by omega) (by omega)]; exact hH.1 1 (by omega)) ?_
        refine qk_icmp_ne C dX5_keepsAll_67 74 rfl 70 rfl (fun c_67 => ?_) (fun c_67 => ?_)
        · refine qk_iconst C (0) dX5_keepsAll_74 75 rfl rfl ?_
          exact hret _ _ _ _ dX5_keepsAll_75 ⟨congrArg (fun x => some (Value.int x)) ((qb_f (c_67)).symm), rfl⟩ rfl
        · refine qk_iconst C (1) dX5_keepsAll_70 71 rfl rfl ?_
          refine qk_goto C dX5_keepsAll_71 75 rfl ?_
          exact hret _ _ _ _ dX5_keepsAll_75 ⟨congrArg (fun x => some (Value.int x)) ((qb_t (c_67)).symm), rfl⟩ rfl
      · have hbN : b < N := Nat.not_le.mp (fun q => c_14 (nI_le q (by omega)))
        refine qk_iloadn C dX5_keepsAll_17 18 rfl rfl 2 rfl ?_
        refine qk_iloadn C dX5_keepsAll_18 19 rfl rfl 0 rfl ?_
        refine qk_ishr C dX5_keepsAll_19 20 rfl ?_
        refine qk_iconst C (1) dX5_keepsAll_20 21 rfl rfl ?_
        refine qk_iand C dX5_keepsAll_21 22 rfl ?_
        refine qk_iconst C (1) dX5_keepsAll_22 23 rfl rfl ?_
        refine qk_icmp_ne C dX5_keepsAll_23 39 rfl 26 rfl (fun c_23 => ?_) (fun c_23 => ?_)
        · refine qk_sg (qL τ 14 N (z_sl w s (b + 1))) (congrArg (qL τ 14 N) (z_selr_f c_23).symm) ?_
          refine qk_iinc C (nI (b + 1)) dX5_keepsAll_39 42 rfl 0 rfl (nI_1 b) (by decide) rfl ?_
          refine qk_goto C dX5_keepsAll_42 6 rfl ?_
          exact ih_6 (b + 1) (by omega) (by omega)
        · refine qk_aloadn C dX5_keepsAll_26 27 rfl rfl 1 rfl ?_
          refine qk_get C dX5_keepsAll_27 30 rfl qf_X5_16 0 (by decide) rfl rfl ?_
          refine qk_get C dX5_keepsAll_30 33 rfl qf_X5_77 _ hM.l65 (qx_Fl hM _) rfl ?_
          refine qk_iloadn C dX5_keepsAll_33 34 rfl rfl 0 rfl ?_
          refine qk_aald C dX5_keepsAll_34 35 rfl (14 + 4) hM.l4 1 (qx_Fl4 hM _) rfl (b) rfl (by omega) (by decide) rfl ?_
          refine qk_iconst C (1) dX5_keepsAll_35 36 rfl rfl ?_
          refine qk_put C .int dX5_keepsAll_36 39 rfl qf_X5_268 _ (qx_isB.of hM (show b < 8 by omega)).lt (qx_Fb (qx_isB.of hM (show b < 8 by omega)) _) (fun q hq => by cases hq; rfl) rfl rfl (Nat.le_of_ble_eq_true rfl) (qx_Fb (qx_isB.of hM (show b < 8 by omega)) _) ?_
          refine qk_cg _ (qL_wb hM hN8 hbN 5 (by decide) _) ?_
          refine qk_sg (qL τ 14 N (z_sl w s (b + 1))) (congrArg (qL τ 14 N) (z_selr_t (P := z_hs s (nI b)) c_23).symm) ?_
          refine qk_iinc C (nI (b + 1)) dX5_keepsAll_39 42 rfl 0 rfl (nI_1 b) (by decide) rfl ?_
          refine qk_goto C dX5_keepsAll_42 6 rfl ?_
          exact ih_6 (b + 1) (by omega) (by omega)
  exact lp_6 _ 0 (Nat.zero_le _) (Nat.lt_succ_self _)

theorem c_X5_seal (l : Launch) (G : qx_G) (σ : qx_Sg) (N : Nat) (w : Nat → Int32) (hI : qv_ok w N) (hH : qH σ 1 N w) (n : Int32) : qx_Ct l G yX5_seal cX5_seal 5 (some .int) 6 136 [.ref (qx_ad G 0), .int n] (σ) (qPx σ (S_sealX N w n)) := by
  refine qx_of .int (lo := [(0, .ref (qx_ad G 0)), (1, .int n)]) (by decide +kernel) (Nat.le_of_ble_eq_true rfl) rfl (fun Δ (C : qx_C G Δ cX5_seal RX5 5 6 136) hret => ?_)
  have hL : qx_isL 1 := Or.inl rfl
  have hM : qx_isL 14 := Or.inr (Or.inl rfl)
  have hN8 := hI.1
  have hN1 := hI.2.1
  have hT : qTr σ (qL σ 1 N w) := qTr.rf.li hN8
  have hW : qH (qL σ 1 N w) 1 N w := qH_qL
  refine qk_cg (qL σ 1 N w) (qH_w hH hL hN8) ?_
  refine qk_iloadn C dX5_seal_0 1 rfl rfl 1 rfl ?_
  refine qk_bipush C (20) dX5_seal_1 3 rfl rfl ?_
  refine qk_callS C dX5_seal_3 6 rfl ql_X5_53 qc_X5_within (c_X5_within l G _ _ _) rfl rfl (Nat.le_of_ble_eq_true rfl) ⟨(Nat.le_of_ble_eq_true rfl), (Nat.le_of_ble_eq_true rfl)⟩ (qx_Ki ?_)
  refine qk_if_neB C dX5_seal_6 16 rfl 9 rfl (fun c_6 => ?_) (fun c_6 => ?_)
  · obtain ⟨jn, hjn, rfl⟩ := z_in_ex 20 rfl (by omega) c_6
    refine qk_iconst C (1) dX5_seal_16 17 rfl rfl ?_
    refine qk_aloadn C dX5_seal_17 18 rfl rfl 0 rfl ?_
    refine qk_get C dX5_seal_18 21 rfl qf_X5_12 0 (by decide) rfl rfl ?_
    refine qk_get C dX5_seal_21 24 rfl qf_X5_175 _ hL.l65 (qx_Fl hL _) rfl ?_
    refine qk_cast qL_j3 ?_
    refine qk_cast hN1 ?_
    refine qk_ishl C dX5_seal_24 25 rfl ?_
    refine qk_cast (z_shl1 hN8) ?_
    refine qk_istoren C dX5_seal_25 26 rfl rfl (by decide) rfl ?_
    refine qk_iconst C (nI 0) dX5_seal_26 27 rfl rfl ?_
    refine qk_istoren C dX5_seal_27 28 rfl rfl (by decide) rfl ?_
    have lp_28 : ∀ (n_28 : Nat) (s : Nat) (ρ : qx_Sg), (s ≤ N + 1 ∧ qTr σ ρ ∧ qH ρ 1 N w ∧ z_sx (z_ka N w jn) N (N + 1) 0 = z_sx (z_ka N w jn) N (N + 1 - s) s) → N + 1 - s < n_28 → qx_K l G Δ (ρ) 28 [(3, .int (nI s)), (2, .int (nI (2 ^ N))), (0, .ref (qx_ad G 0)), (1, .int (nI jn))] [] := by
      intro n_28
      induction n_28 with
      | zero => intro _ _ _ h9; exact absurd h9 (Nat.not_lt_zero _)
      | succ n_28 ih_28 =>
        intro s ρ hi hm_28
        refine qk_iloadn C dX5_seal_28 29 rfl rfl 0 rfl ?_
        refine qk_aloadn C dX5_seal_29 30 rfl rfl 2 rfl ?_
        refine qk_get C dX5_seal_30 33 rfl qf_X5_12 0 (by decide) rfl rfl ?_
        refine qk_get C dX5_seal_33 36 rfl qf_X5_175 _ hL.l65 (qx_Fl hL _) rfl ?_
        refine qk_cast ((hi.2.2.1.1 3 (by omega)).trans hN1) ?_
        refine qk_icmp_gt C dX5_seal_36 82 rfl 39 rfl (fun c_36 => ?_) (fun c_36 => ?_)
        · have hsN : s = N + 1 := by
            have := (nI_ltI (a := N) (b := s) (by omega) (by omega)).mp c_36
            omega
          refine qk_aloadn C dX5_seal_82 83 rfl rfl 2 rfl ?_
          refine qk_ldc C dX5_seal_83 85 rfl qw_419 ?_
          refine qk_callV C dX5_seal_85 88 rfl ql_X5_58 qc_X5_found 0 (by decide) rfl rfl (c_X5_found l G _ _ 3 (by decide) (by decide)) rfl rfl (Nat.le_of_ble_eq_true rfl) ⟨(Nat.le_of_ble_eq_true rfl), (Nat.le_of_ble_eq_true rfl)⟩ (qx_Ki ?_)
          exact hret _ _ _ _ dX5_seal_88 (qPx_bad 3 hN8 ((zif_t c_6).trans (by rw [zn_nI (show jn < 2 ^ 31 by omega), hi.2.2.2, hsN, Nat.sub_self]; rfl)) rfl hi.2.1 hi.2.2.1) rfl
        · have hsN : s ≤ N := Nat.not_lt.mp (fun q => c_36 (nI_lt q (by omega)))
          refine qk_iconst C (nI 0) dX5_seal_39 40 rfl rfl ?_
          refine qk_istore C dX5_seal_40 42 rfl (by decide) rfl ?_
          have lp_42 : ∀ (n_42 : Nat) (k : Nat) (ρ2 : qx_Sg), (k ≤ 2 ^ N ∧ qTr σ ρ2 ∧ qH ρ2 1 N w ∧ z_ls (fun k => z_bc (nI k) = nI s ∧ z_ka N w jn (nI k)) (2 ^ N) 0 = z_ls (fun k => z_bc (nI k) = nI s ∧ z_ka N w jn (nI k)) (2 ^ N - k) k) → 2 ^ N - k < n_42 → qx_K l G Δ (ρ2) 42 [(4, .int (nI k)), (3, .int (nI s)), (2, .int (nI (2 ^ N))), (0, .ref (qx_ad G 0)), (1, .int (nI jn))] [] := by
            intro n_42
            induction n_42 with
            | zero => intro _ _ _ h9; exact absurd h9 (Nat.not_lt_zero _)
            | succ n_42 ih_42 =>
              intro k ρ2 hi2 hm_42
              have h2N : 2 ^ N ≤ 256 := Nat.pow_le_pow_right (n := 2) (by omega) hN8
              refine qk_iload C dX5_seal_42 44 rfl 0 rfl ?_
              refine qk_iloadn C dX5_seal_44 45 rfl rfl 2 rfl ?_
              refine qk_icmp_ge C dX5_seal_45 76 rfl 48 rfl (fun c_45 => ?_) (fun c_45 => ?_)
              · have hkN : 2 ^ N ≤ k := (nI_leI (by omega) (by omega)).mp c_45
                refine qk_iinc C (nI (s + 1)) dX5_seal_76 79 rfl 1 rfl (nI_1 s) (by decide) rfl ?_
                refine qk_goto C dX5_seal_79 28 rfl ?_
                exact qk_lo [0, 2, 3, 4] rfl (ih_28 (s + 1) ρ2 ⟨by omega, hi2.2.1, hi2.2.2.1, by rw [hi.2.2.2, show N + 1 - s = (N + 1 - (s + 1)) + 1 by omega]; show (match z_ls _ (2 ^ N) 0 with | some k => some k | none => _) = _; rw [hi2.2.2.2, show 2 ^ N - k = 0 by omega]; rfl⟩ (by omega))
              · have hkN : k < 2 ^ N := Nat.not_le.mp (fun q => c_45 (nI_le q (by omega)))
                refine qk_iload C dX5_seal_48 50 rfl 0 rfl ?_
                refine qk_callS C dX5_seal_50 53 rfl ql_X5_154 qc_J6_bitCount_0f7a4 (c_J6_bitCount_0f7a4 l G _ _) rfl rfl (Nat.le_of_ble_eq_true rfl) ⟨(Nat.le_of_ble_eq_true rfl), (Nat.le_of_ble_eq_true rfl)⟩ (qx_Ki ?_)
                refine qk_iloadn C dX5_seal_53 54 rfl rfl 1 rfl ?_
                refine qk_icmp_ne C dX5_seal_54 70 rfl 57 rfl (fun c_54 => ?_) (fun c_54 => ?_)
                · refine qk_iinc C (nI (k + 1)) dX5_seal_70 73 rfl 0 rfl (nI_1 k) (by decide) rfl ?_
                  refine qk_goto C dX5_seal_73 42 rfl ?_
                  exact ih_42 (k + 1) _ ⟨by omega, hi2.2.1, hi2.2.2.1, by rw [hi2.2.2.2, show 2 ^ N - k = (2 ^ N - (k + 1)) + 1 by omega]; exact z_ls_f (by first | exact fun q => c_54 q.1 | exact fun q => c_64 q.2)⟩ (by omega)
                · refine qk_aloadn C dX5_seal_57 58 rfl rfl 3 rfl ?_
                  refine qk_iload C dX5_seal_58 60 rfl 0 rfl ?_
                  refine qk_iloadn C dX5_seal_60 61 rfl rfl 4 rfl ?_
                  refine qk_callV C dX5_seal_61 64 rfl ql_X5_178 qc_X5_keepsAll 0 (by decide) rfl rfl (c_X5_keepsAll l G ρ2 N w hI hi2.2.2.1 (nI k) jn (by omega)) rfl rfl (Nat.le_of_ble_eq_true rfl) ⟨(Nat.le_of_ble_eq_true rfl), (Nat.le_of_ble_eq_true rfl)⟩ (qx_Ki ?_)
                  refine qk_if_eqB C dX5_seal_64 70 rfl 67 rfl (fun c_64 => ?_) (fun c_64 => ?_)
                  · refine qk_iinc C (nI (k + 1)) dX5_seal_70 73 rfl 0 rfl (nI_1 k) (by decide) rfl ?_
                    refine qk_goto C dX5_seal_73 42 rfl ?_
                    exact ih_42 (k + 1) _ ⟨by omega, hi2.2.1.tr hN8, qH_tr hi2.2.2.1 hN8 hN8, by rw [hi2.2.2.2, show 2 ^ N - k = (2 ^ N - (k + 1)) + 1 by omega]; exact z_ls_f (by first | exact fun q => c_54 q.1 | exact fun q => c_64 q.2)⟩ (by omega)
                  · refine qk_iload C dX5_seal_67 69 rfl 0 rfl ?_
                    exact hret _ _ _ _ dX5_seal_69 (qPx_ok ((zif_t c_6).trans (by rw [zn_nI (show jn < 2 ^ 31 by omega), hi.2.2.2, show N + 1 - s = (N + 1 - (s + 1)) + 1 by omega, show z_sx (z_ka N w jn) N (N + 1 - (s + 1) + 1) s = some k from (by show (match z_ls _ (2 ^ N) 0 with | some k => some k | none => _) = _; rw [hi2.2.2.2, show 2 ^ N - k = (2 ^ N - (k + 1)) + 1 by omega, z_ls_t ⟨c_54, c_64⟩])]; rfl)) rfl (hi2.2.1.tr hN8) (qH_tr hi2.2.2.1 hN8 hN8)) rfl
          exact lp_42 _ 0 _ ⟨Nat.zero_le _, hi.2.1, hi.2.2.1, rfl⟩ (Nat.lt_succ_self _)
    exact lp_28 _ 0 _ ⟨by omega, hT, hW, rfl⟩ (Nat.lt_succ_self _)
  · refine qk_aloadn C dX5_seal_9 10 rfl rfl 0 rfl ?_
    refine qk_ldc C dX5_seal_10 12 rfl qw_321 ?_
    refine qk_callV C dX5_seal_12 15 rfl ql_X5_58 qc_X5_found 0 (by decide) rfl rfl (c_X5_found l G _ _ 0 (by decide) (by decide)) rfl rfl (Nat.le_of_ble_eq_true rfl) ⟨(Nat.le_of_ble_eq_true rfl), (Nat.le_of_ble_eq_true rfl)⟩ (qx_Ki ?_)
    exact hret _ _ _ _ dX5_seal_15 (qPx_bad 0 hN8 ((zif_f (by first | exact fun q => c_6 q))) rfl hT hW) rfl

theorem c_X5_chance (l : Launch) (G : qx_G) (σ : qx_Sg) (N : Nat) (w : Nat → Int32) (hI : qv_ok w N) (hH : qH σ 1 N w) (n : Int32) : qx_Ct l G yX5_chance cX5_chance 3 (some .int) 5 113 [.ref (qx_ad G 0), .int n] (σ) (qPx σ (S_chance N w n)) := by
  refine qx_of .int (lo := [(0, .ref (qx_ad G 0)), (1, .int n)]) (by decide +kernel) (Nat.le_of_ble_eq_true rfl) rfl (fun Δ (C : qx_C G Δ cX5_chance RX5 3 5 113) hret => ?_)
  have hL : qx_isL 1 := Or.inl rfl
  have hM : qx_isL 14 := Or.inr (Or.inl rfl)
  have hN8 := hI.1
  have hN1 := hI.2.1
  have hT : qTr σ (qL σ 1 N w) := qTr.rf.li hN8
  have hW : qH (qL σ 1 N w) 1 N w := qH_qL
  refine qk_cg (qL σ 1 N w) (qH_w hH hL hN8) ?_
  refine qk_iloadn C dX5_chance_0 1 rfl rfl 1 rfl ?_
  refine qk_iconst C (1) dX5_chance_1 2 rfl rfl ?_
  refine qk_icmp_lt C dX5_chance_2 11 rfl 5 rfl (fun c_2 => ?_) (fun c_2 => ?_)
  · refine qk_aloadn C dX5_chance_11 12 rfl rfl 0 rfl ?_
    refine qk_ldc C dX5_chance_12 14 rfl qw_321 ?_
    refine qk_callV C dX5_chance_14 17 rfl ql_X5_58 qc_X5_found 0 (by decide) rfl rfl (c_X5_found l G _ _ 0 (by decide) (by decide)) rfl rfl (Nat.le_of_ble_eq_true rfl) ⟨(Nat.le_of_ble_eq_true rfl), (Nat.le_of_ble_eq_true rfl)⟩ (qx_Ki ?_)
    exact hret _ _ _ _ dX5_chance_17 (qPx_bad 0 hN8 ((zif_f (by first | exact fun q => q.1 c_2 | exact fun q => c_8 q.2))) rfl hT hW) rfl
  · refine qk_iloadn C dX5_chance_5 6 rfl rfl 1 rfl ?_
    refine qk_bipush C (20) dX5_chance_6 8 rfl rfl ?_
    refine qk_icmp_le C dX5_chance_8 18 rfl 11 rfl (fun c_8 => ?_) (fun c_8 => ?_)
    · refine qk_aloadn C dX5_chance_18 19 rfl rfl 0 rfl ?_
      refine qk_get C dX5_chance_19 22 rfl qf_X5_12 0 (by decide) rfl rfl ?_
      refine qk_get C dX5_chance_22 25 rfl qf_X5_115 _ hL.l65 (qx_Fl hL _) rfl ?_
      refine qk_cast qL_j0 ?_
      refine qk_iloadn C dX5_chance_25 26 rfl rfl 1 rfl ?_
      refine qk_iadd C dX5_chance_26 27 rfl ?_
      refine qk_ldc C dX5_chance_27 29 rfl qw_434 ?_
      refine qk_icmp_le C dX5_chance_29 39 rfl 32 rfl (fun c_29 => ?_) (fun c_29 => ?_)
      · obtain ⟨jn, hjn, rfl⟩ := nI_of2 (M := 20) (n := 20) rfl (fun q => c_2 (Int32.lt_of_lt_of_le q (by decide))) c_8
        refine qk_iconst C (nI 0) dX5_chance_39 40 rfl rfl ?_
        refine qk_istoren C dX5_chance_40 41 rfl rfl (by decide) rfl ?_
        have lp_41 : ∀ (n_41 : Nat) (i : Nat), i ≤ jn → jn - i < n_41 → qx_K l G Δ (qL σ 1 N (z_cn w N i)) 41 [(2, .int (nI i)), (0, .ref (qx_ad G 0)), (1, .int (nI jn))] [] := by
          intro n_41
          induction n_41 with
          | zero => intro _ _ h9; exact absurd h9 (Nat.not_lt_zero _)
          | succ n_41 ih_41 =>
            intro i hi hm_41
            refine qk_iloadn C dX5_chance_41 42 rfl rfl 0 rfl ?_
            refine qk_iloadn C dX5_chance_42 43 rfl rfl 2 rfl ?_
            refine qk_icmp_ge C dX5_chance_43 59 rfl 46 rfl (fun c_43 => ?_) (fun c_43 => ?_)
            · have hin : jn ≤ i := (nI_leI (by omega) (by omega)).mp c_43
              refine qk_aloadn C dX5_chance_59 60 rfl rfl 1 rfl ?_
              refine qk_get C dX5_chance_60 63 rfl qf_X5_12 0 (by decide) rfl rfl ?_
              refine qk_get C dX5_chance_63 66 rfl qf_X5_122 _ hL.l65 (qx_Fl hL _) rfl ?_
              refine qk_cast qL_j1 ?_
              exact hret _ _ _ _ dX5_chance_66 (qPx_ok ((zif_t ⟨c_2, c_8⟩).trans ((zif_t c_29).trans (by rw [zn_nI (show jn < 2 ^ 31 by omega), ← show i = jn by omega]))) rfl (qTr.rf.li hN8) qH_qL) rfl
            · have hin : i < jn := Nat.not_le.mp (fun q => c_43 (nI_le q (by omega)))
              refine qk_aloadn C dX5_chance_46 47 rfl rfl 1 rfl ?_
              refine qk_get C dX5_chance_47 50 rfl qf_X5_12 0 (by decide) rfl rfl ?_
              refine qk_callV C dX5_chance_50 53 rfl ql_X5_191 qc_X1_passDayByDraws _ hL.l65 (qx_Fl hL _) rfl (c_X1_passDayByDraws l G 1 N hL σ _ (qv_cn hI i)) rfl rfl (Nat.le_of_ble_eq_true rfl) ⟨(Nat.le_of_ble_eq_true rfl), (Nat.le_of_ble_eq_true rfl)⟩ (qx_Kv ?_)
              refine qk_iinc C (nI (i + 1)) dX5_chance_53 56 rfl 0 rfl (nI_1 i) (by decide) rfl ?_
              refine qk_goto C dX5_chance_56 41 rfl ?_
              exact ih_41 (i + 1) (by omega) (by omega)
        exact lp_41 _ 0 (Nat.zero_le _) (Nat.lt_succ_self _)
      · refine qk_aloadn C dX5_chance_32 33 rfl rfl 0 rfl ?_
        refine qk_ldc C dX5_chance_33 35 rfl qw_425 ?_
        refine qk_callV C dX5_chance_35 38 rfl ql_X5_58 qc_X5_found 0 (by decide) rfl rfl (c_X5_found l G _ _ 4 (by decide) (by decide)) rfl rfl (Nat.le_of_ble_eq_true rfl) ⟨(Nat.le_of_ble_eq_true rfl), (Nat.le_of_ble_eq_true rfl)⟩ (qx_Ki ?_)
        exact hret _ _ _ _ dX5_chance_38 (qPx_bad 4 hN8 ((zif_t ⟨c_2, c_8⟩).trans (zif_f c_29)) rfl hT hW) rfl
    · refine qk_aloadn C dX5_chance_11 12 rfl rfl 0 rfl ?_
      refine qk_ldc C dX5_chance_12 14 rfl qw_321 ?_
      refine qk_callV C dX5_chance_14 17 rfl ql_X5_58 qc_X5_found 0 (by decide) rfl rfl (c_X5_found l G _ _ 0 (by decide) (by decide)) rfl rfl (Nat.le_of_ble_eq_true rfl) ⟨(Nat.le_of_ble_eq_true rfl), (Nat.le_of_ble_eq_true rfl)⟩ (qx_Ki ?_)
      exact hret _ _ _ _ dX5_chance_17 (qPx_bad 0 hN8 ((zif_f (by first | exact fun q => q.1 c_2 | exact fun q => c_8 q.2))) rfl hT hW) rfl

theorem c_X5_seed (l : Launch) (G : qx_G) (σ : qx_Sg) (N : Nat) (w : Nat → Int32) (hI : qv_ok w N) (hH : qH σ 1 N w) (v : Int32) : qx_Ct l G yX5_seed cX5_seed 3 (some .int) 0 0 [.ref (qx_ad G 0), .int v] (σ) (qPx σ (S_seed N w v)) := by
  refine qx_of .int (lo := [(0, .ref (qx_ad G 0)), (1, .int v)]) (by decide +kernel) (Nat.le_of_ble_eq_true rfl) rfl (fun Δ (C : qx_C G Δ cX5_seed RX5 3 0 0) hret => ?_)
  have hL : qx_isL 1 := Or.inl rfl
  have hM : qx_isL 14 := Or.inr (Or.inl rfl)
  have hN8 := hI.1
  have hN1 := hI.2.1
  have hT : qTr σ (qL σ 1 N w) := qTr.rf.li hN8
  have hW : qH (qL σ 1 N w) 1 N w := qH_qL
  refine qk_cg (qL σ 1 N w) (qH_w hH hL hN8) ?_
  refine qk_aloadn C dX5_seed_0 1 rfl rfl 0 rfl ?_
  refine qk_get C dX5_seed_1 4 rfl qf_X5_12 0 (by decide) rfl rfl ?_
  refine qk_get C dX5_seed_4 7 rfl qf_X5_198 _ hL.l65 (qx_Fl hL _) rfl ?_
  refine qk_cast qL_j2 ?_
  refine qk_istoren C dX5_seed_7 8 rfl rfl (by decide) rfl ?_
  refine qk_aloadn C dX5_seed_8 9 rfl rfl 1 rfl ?_
  refine qk_get C dX5_seed_9 12 rfl qf_X5_12 0 (by decide) rfl rfl ?_
  refine qk_iloadn C dX5_seed_12 13 rfl rfl 2 rfl ?_
  refine qk_put C .int dX5_seed_13 16 rfl qf_X5_198 _ hL.l65 (qx_Fl hL _) (fun q hq => by cases hq; rfl) rfl rfl (Nat.le_of_ble_eq_true rfl) (qx_Fl hL _) ?_
  refine qk_cg _ (qL_w0 hL hN8 2 (by decide) _) ?_
  refine qk_iloadn C dX5_seed_16 17 rfl rfl 0 rfl ?_
  exact hret _ _ _ _ dX5_seed_17 (qPx_ok rfl rfl (qTr.rf.li hN8) qH_qL) rfl

theorem c_X5_hold (l : Launch) (G : qx_G) (σ : qx_Sg) (N : Nat) (w : Nat → Int32) (hI : qv_ok w N) (hH : qH σ 1 N w) (i b : Int32) : qx_Ct l G yX5_hold cX5_hold 3 (some .int) 2 43 [.ref (qx_ad G 0), .int i, .int b] (σ) (qPx σ (S_hold N w i b)) := by
  refine qx_of .int (lo := [(0, .ref (qx_ad G 0)), (1, .int i), (2, .int b)]) (by decide +kernel) (Nat.le_of_ble_eq_true rfl) rfl (fun Δ (C : qx_C G Δ cX5_hold RX5 3 2 43) hret => ?_)
  have hL : qx_isL 1 := Or.inl rfl
  have hM : qx_isL 14 := Or.inr (Or.inl rfl)
  have hN8 := hI.1
  have hN1 := hI.2.1
  have hT : qTr σ (qL σ 1 N w) := qTr.rf.li hN8
  have hW : qH (qL σ 1 N w) 1 N w := qH_qL
  refine qk_cg (qL σ 1 N w) (qH_w hH hL hN8) ?_
  refine qk_iloadn C dX5_hold_0 1 rfl rfl 1 rfl ?_
  refine qk_bipush C (9) dX5_hold_1 3 rfl rfl ?_
  refine qk_callS C dX5_hold_3 6 rfl ql_X5_53 qc_X5_within (c_X5_within l G _ _ _) rfl rfl (Nat.le_of_ble_eq_true rfl) ⟨(Nat.le_of_ble_eq_true rfl), (Nat.le_of_ble_eq_true rfl)⟩ (qx_Ki ?_)
  refine qk_if_eqB C dX5_hold_6 22 rfl 9 rfl (fun c_6 => ?_) (fun c_6 => ?_)
  · refine qk_aloadn C dX5_hold_22 23 rfl rfl 0 rfl ?_
    refine qk_ldc C dX5_hold_23 25 rfl qw_321 ?_
    refine qk_callV C dX5_hold_25 28 rfl ql_X5_58 qc_X5_found 0 (by decide) rfl rfl (c_X5_found l G _ _ 0 (by decide) (by decide)) rfl rfl (Nat.le_of_ble_eq_true rfl) ⟨(Nat.le_of_ble_eq_true rfl), (Nat.le_of_ble_eq_true rfl)⟩ (qx_Ki ?_)
    exact hret _ _ _ _ dX5_hold_28 (qPx_bad 0 hN8 ((zif_f (by first | exact fun q => c_6 q.1 | exact fun q => q.2.elim c_11 c_19))) rfl hT hW) rfl
  · refine qk_iloadn C dX5_hold_9 10 rfl rfl 2 rfl ?_
    refine qk_iconst C ((-1)) dX5_hold_10 11 rfl rfl ?_
    refine qk_icmp_eq C dX5_hold_11 29 rfl 14 rfl (fun c_11 => ?_) (fun c_11 => ?_)
    · obtain ⟨ji, hji, rfl⟩ := z_in_ex 9 rfl (by omega) c_6
      refine qk_aloadn C dX5_hold_29 30 rfl rfl 0 rfl ?_
      refine qk_get C dX5_hold_30 33 rfl qf_X5_12 0 (by decide) rfl rfl ?_
      refine qk_get C dX5_hold_33 36 rfl qf_X5_214 _ hL.l65 (qx_Fl hL _) rfl ?_
      refine qk_iloadn C dX5_hold_36 37 rfl rfl 1 rfl ?_
      refine qk_iloadn C dX5_hold_37 38 rfl rfl 2 rfl ?_
      refine qk_iast C dX5_hold_38 39 rfl (1 + 3) hL.l3 (qx_Fl3 hL) (ji) rfl (by omega) (by decide) ?_
      refine qk_cg _ (qL_w3 hL hN8 (ji) (by omega) _) ?_
      refine qk_iconst C (1) dX5_hold_39 40 rfl rfl ?_
      exact hret _ _ _ _ dX5_hold_40 (qPx_ok ((zif_t ⟨c_6, by first | exact Or.inl c_11 | exact Or.inr c_19⟩).trans (by rw [zn_nI (show ji < 2 ^ 31 by omega)])) rfl (qTr.rf.li hN8) qH_qL) rfl
    · refine qk_aloadn C dX5_hold_14 15 rfl rfl 0 rfl ?_
      refine qk_iloadn C dX5_hold_15 16 rfl rfl 2 rfl ?_
      refine qk_callV C dX5_hold_16 19 rfl ql_X5_73 qc_X5_isBust 0 (by decide) rfl rfl (c_X5_isBust l G σ N w hI _) rfl rfl (Nat.le_of_ble_eq_true rfl) ⟨(Nat.le_of_ble_eq_true rfl), (Nat.le_of_ble_eq_true rfl)⟩ (qx_Ki ?_)
      refine qk_if_neB C dX5_hold_19 29 rfl 22 rfl (fun c_19 => ?_) (fun c_19 => ?_)
      · obtain ⟨ji, hji, rfl⟩ := z_in_ex 9 rfl (by omega) c_6
        refine qk_aloadn C dX5_hold_29 30 rfl rfl 0 rfl ?_
        refine qk_get C dX5_hold_30 33 rfl qf_X5_12 0 (by decide) rfl rfl ?_
        refine qk_get C dX5_hold_33 36 rfl qf_X5_214 _ hL.l65 (qx_Fl hL _) rfl ?_
        refine qk_iloadn C dX5_hold_36 37 rfl rfl 1 rfl ?_
        refine qk_iloadn C dX5_hold_37 38 rfl rfl 2 rfl ?_
        refine qk_iast C dX5_hold_38 39 rfl (1 + 3) hL.l3 (qx_Fl3 hL) (ji) rfl (by omega) (by decide) ?_
        refine qk_cg _ (qL_w3 hL hN8 (ji) (by omega) _) ?_
        refine qk_iconst C (1) dX5_hold_39 40 rfl rfl ?_
        exact hret _ _ _ _ dX5_hold_40 (qPx_ok ((zif_t ⟨c_6, by first | exact Or.inl c_11 | exact Or.inr c_19⟩).trans (by rw [zn_nI (show ji < 2 ^ 31 by omega)])) rfl (qTr.rf.li hN8) qH_qL) rfl
      · refine qk_aloadn C dX5_hold_22 23 rfl rfl 0 rfl ?_
        refine qk_ldc C dX5_hold_23 25 rfl qw_321 ?_
        refine qk_callV C dX5_hold_25 28 rfl ql_X5_58 qc_X5_found 0 (by decide) rfl rfl (c_X5_found l G _ _ 0 (by decide) (by decide)) rfl rfl (Nat.le_of_ble_eq_true rfl) ⟨(Nat.le_of_ble_eq_true rfl), (Nat.le_of_ble_eq_true rfl)⟩ (qx_Ki ?_)
        exact hret _ _ _ _ dX5_hold_28 (qPx_bad 0 hN8 ((zif_f (by first | exact fun q => c_6 q.1 | exact fun q => q.2.elim c_11 c_19))) rfl hT hW) rfl

theorem c_X5_as (l : Launch) (G : qx_G) (σ : qx_Sg) (N : Nat) (w : Nat → Int32) (hI : qv_ok w N) (hH : qH σ 1 N w) (i k : Int32) : qx_Ct l G yX5_as cX5_as 4 (some .int) 2 43 [.ref (qx_ad G 0), .int i, .int k] (σ) (qPx σ (S_as N w i k)) := by
  refine qx_of .int (lo := [(0, .ref (qx_ad G 0)), (1, .int i), (2, .int k)]) (by decide +kernel) (Nat.le_of_ble_eq_true rfl) rfl (fun Δ (C : qx_C G Δ cX5_as RX5 4 2 43) hret => ?_)
  have hL : qx_isL 1 := Or.inl rfl
  have hM : qx_isL 14 := Or.inr (Or.inl rfl)
  have hN8 := hI.1
  have hN1 := hI.2.1
  have hT : qTr σ (qL σ 1 N w) := qTr.rf.li hN8
  have hW : qH (qL σ 1 N w) 1 N w := qH_qL
  refine qk_cg (qL σ 1 N w) (qH_w hH hL hN8) ?_
  refine qk_iloadn C dX5_as_0 1 rfl rfl 1 rfl ?_
  refine qk_bipush C (9) dX5_as_1 3 rfl rfl ?_
  refine qk_callS C dX5_as_3 6 rfl ql_X5_53 qc_X5_within (c_X5_within l G _ _ _) rfl rfl (Nat.le_of_ble_eq_true rfl) ⟨(Nat.le_of_ble_eq_true rfl), (Nat.le_of_ble_eq_true rfl)⟩ (qx_Ki ?_)
  refine qk_if_eqB C dX5_as_6 18 rfl 9 rfl (fun c_6 => ?_) (fun c_6 => ?_)
  · refine qk_aloadn C dX5_as_18 19 rfl rfl 0 rfl ?_
    refine qk_ldc C dX5_as_19 21 rfl qw_321 ?_
    refine qk_callV C dX5_as_21 24 rfl ql_X5_58 qc_X5_found 0 (by decide) rfl rfl (c_X5_found l G _ _ 0 (by decide) (by decide)) rfl rfl (Nat.le_of_ble_eq_true rfl) ⟨(Nat.le_of_ble_eq_true rfl), (Nat.le_of_ble_eq_true rfl)⟩ (qx_Ki ?_)
    exact hret _ _ _ _ dX5_as_24 (qPx_bad 0 hN8 ((zif_f (by first | exact fun q => c_6 q.1 | exact fun q => c_15 q.2))) rfl hT hW) rfl
  · refine qk_iloadn C dX5_as_9 10 rfl rfl 2 rfl ?_
    refine qk_bipush C (6) dX5_as_10 12 rfl rfl ?_
    refine qk_callS C dX5_as_12 15 rfl ql_X5_53 qc_X5_within (c_X5_within l G _ _ _) rfl rfl (Nat.le_of_ble_eq_true rfl) ⟨(Nat.le_of_ble_eq_true rfl), (Nat.le_of_ble_eq_true rfl)⟩ (qx_Ki ?_)
    refine qk_if_neB C dX5_as_15 25 rfl 18 rfl (fun c_15 => ?_) (fun c_15 => ?_)
    · obtain ⟨ji, hji, rfl⟩ := z_in_ex 9 rfl (by omega) c_6
      refine qk_aloadn C dX5_as_25 26 rfl rfl 0 rfl ?_
      refine qk_get C dX5_as_26 29 rfl qf_X5_12 0 (by decide) rfl rfl ?_
      refine qk_get C dX5_as_29 32 rfl qf_X5_214 _ hL.l65 (qx_Fl hL _) rfl ?_
      refine qk_iloadn C dX5_as_32 33 rfl rfl 1 rfl ?_
      refine qk_iald C dX5_as_33 34 rfl (1 + 3) hL.l3 (qx_Fl3 hL) (ji) rfl (by omega) (by decide) ?_
      refine qk_cast (qL_a3 (ji)) ?_
      refine qk_istoren C dX5_as_34 35 rfl rfl (by decide) rfl ?_
      refine qk_aloadn C dX5_as_35 36 rfl rfl 1 rfl ?_
      refine qk_iloadn C dX5_as_36 37 rfl rfl 0 rfl ?_
      refine qk_callV C dX5_as_37 40 rfl ql_X5_73 qc_X5_isBust 0 (by decide) rfl rfl (c_X5_isBust l G σ N w hI _) rfl rfl (Nat.le_of_ble_eq_true rfl) ⟨(Nat.le_of_ble_eq_true rfl), (Nat.le_of_ble_eq_true rfl)⟩ (qx_Ki ?_)
      refine qk_if_neB C dX5_as_40 50 rfl 43 rfl (fun c_40 => ?_) (fun c_40 => ?_)
      · obtain ⟨h, hh, eh⟩ := z_ib_ex c_40 hN8
        obtain ⟨q, hq, eq⟩ := (hI.2.2.2.2.1 h hh).1
        refine qk_aloadn C dX5_as_50 51 rfl rfl 1 rfl ?_
        refine qk_get C dX5_as_51 54 rfl qf_X5_12 0 (by decide) rfl rfl ?_
        refine qk_get C dX5_as_54 57 rfl qf_X5_77 _ hL.l65 (qx_Fl hL _) rfl ?_
        refine qk_iloadn C dX5_as_57 58 rfl rfl 0 rfl ?_
        refine qk_cast (eh) ?_
        refine qk_aald C dX5_as_58 59 rfl (1 + 4) hL.l4 1 (qx_Fl4 hL _) rfl (h) rfl (by omega) (by decide) rfl ?_
        refine qk_iloadn C dX5_as_59 60 rfl rfl 3 rfl ?_
        refine qk_callV C dX5_as_60 63 rfl ql_X5_218 qc_X0_isA _ (qx_isB.of hL (show h < 8 by omega)).lt (qx_Fb (qx_isB.of hL (show h < 8 by omega)) _) rfl (cL_X0_isA l G 1 N h hL hN8 hh σ w q eq (by omega) _) rfl rfl (Nat.le_of_ble_eq_true rfl) ⟨(Nat.le_of_ble_eq_true rfl), (Nat.le_of_ble_eq_true rfl)⟩ (qx_Ki ?_)
        refine qk_if_eqB C dX5_as_63 70 rfl 66 rfl (fun c_63 => ?_) (fun c_63 => ?_)
        · refine qk_aloadn C dX5_as_70 71 rfl rfl 1 rfl ?_
          refine qk_ldc C dX5_as_71 73 rfl qw_794 ?_
          refine qk_callV C dX5_as_73 76 rfl ql_X5_58 qc_X5_found 0 (by decide) rfl rfl (c_X5_found l G _ _ 2 (by decide) (by decide)) rfl rfl (Nat.le_of_ble_eq_true rfl) ⟨(Nat.le_of_ble_eq_true rfl), (Nat.le_of_ble_eq_true rfl)⟩ (qx_Ki ?_)
          exact hret _ _ _ _ dX5_as_76 (qPx_bad 2 hN8 ((zif_t ⟨c_6, c_15⟩).trans (by rw [zn_nI (show ji < 2 ^ 31 by omega)]; exact (zif_t c_40).trans (zif_f (by rw [eh, zn_nI (show h < 2 ^ 31 by omega), eq, zn_nI (show q < 2 ^ 31 by omega)]; exact c_63)))) rfl hT hW) rfl
        · refine qk_iloadn C dX5_as_66 67 rfl rfl 0 rfl ?_
          refine qk_goto C dX5_as_67 76 rfl ?_
          exact hret _ _ _ _ dX5_as_76 (qPx_ok ((zif_t ⟨c_6, c_15⟩).trans (by rw [zn_nI (show ji < 2 ^ 31 by omega)]; exact (zif_t c_40).trans (zif_t (by rw [eh, zn_nI (show h < 2 ^ 31 by omega), eq, zn_nI (show q < 2 ^ 31 by omega)]; exact c_63)))) rfl hT hW) rfl
      · refine qk_aloadn C dX5_as_43 44 rfl rfl 1 rfl ?_
        refine qk_ldc C dX5_as_44 46 rfl qw_605 ?_
        refine qk_callV C dX5_as_46 49 rfl ql_X5_58 qc_X5_found 0 (by decide) rfl rfl (c_X5_found l G _ _ 5 (by decide) (by decide)) rfl rfl (Nat.le_of_ble_eq_true rfl) ⟨(Nat.le_of_ble_eq_true rfl), (Nat.le_of_ble_eq_true rfl)⟩ (qx_Ki ?_)
        exact hret _ _ _ _ dX5_as_49 (qPx_bad 5 hN8 ((zif_t ⟨c_6, c_15⟩).trans (by rw [zn_nI (show ji < 2 ^ 31 by omega)]; exact zif_f c_40)) rfl hT hW) rfl
    · refine qk_aloadn C dX5_as_18 19 rfl rfl 0 rfl ?_
      refine qk_ldc C dX5_as_19 21 rfl qw_321 ?_
      refine qk_callV C dX5_as_21 24 rfl ql_X5_58 qc_X5_found 0 (by decide) rfl rfl (c_X5_found l G _ _ 0 (by decide) (by decide)) rfl rfl (Nat.le_of_ble_eq_true rfl) ⟨(Nat.le_of_ble_eq_true rfl), (Nat.le_of_ble_eq_true rfl)⟩ (qx_Ki ?_)
      exact hret _ _ _ _ dX5_as_24 (qPx_bad 0 hN8 ((zif_f (by first | exact fun q => c_6 q.1 | exact fun q => c_15 q.2))) rfl hT hW) rfl

