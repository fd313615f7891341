/-! the methods of BustRest$Bust (and Integer.bitCount), over any cell k that holds a bust -/
theorem qx_up_ne {σ : qx_Sg} {k j : Nat} {r : Nat → Int32} (h : j ≠ k) : va_up σ k r j = σ j := if_neg h
theorem qx_up_eq {σ : qx_Sg} {k : Nat} {r : Nat → Int32} : va_up σ k r k = r := if_pos rfl
theorem qx_bu_ext {r r' : Nat → Int32} (h : ∀ j, j < 7 → r j = r' j) : qx_bu r = qx_bu r' := by
  unfold qx_bu
  rw [h 0 (by omega), h 1 (by omega), h 2 (by omega), h 3 (by omega), h 4 (by omega), h 5 (by omega), h 6 (by omega)]
/-- two worlds that differ at one bust's row at most -/
theorem qx_upB {G : qx_G} {k : Nat} (hB : qx_isB k) {σ σ' : qx_Sg} (h : ∀ j, j < 7 → σ k j = σ' k j) (ho : ∀ i, i ≠ k → σ i = σ' i) : ∀ i, i < 65 → qx_F G i (σ i) = qx_F G i (σ' i) := by
  intro i hi
  by_cases e : i = k
  · subst e
    rw [qx_Fb hB, qx_Fb hB]
    exact qx_bu_ext h
  · rw [ho i e]
theorem qx_j7 {P : Nat → Prop} (h0 : P 0) (h1 : P 1) (h2 : P 2) (h3 : P 3) (h4 : P 4) (h5 : P 5) (h6 : P 6) : ∀ j, j < 7 → P j := by
  intro j hj
  have : j = 0 ∨ j = 1 ∨ j = 2 ∨ j = 3 ∨ j = 4 ∨ j = 5 ∨ j = 6 := by omega
  rcases this with rfl | rfl | rfl | rfl | rfl | rfl | rfl <;> assumption
theorem z_gF_step {h : Int32} {i : Nat} (h0 : 0 < i) (hn : ¬ z_hs h (nI i)) : z_gF h i = z_gF h (i - 1) := by
  obtain ⟨j, rfl⟩ : ∃ j, i = j + 1 := ⟨i - 1, by omega⟩
  exact z_sel_f hn
theorem z_gF_hit {h : Int32} {i : Nat} (h0 : 0 < i) (hn : z_hs h (nI i)) : z_gF h i = nI i := by
  obtain ⟨j, rfl⟩ : ∃ j, i = j + 1 := ⟨i - 1, by omega⟩
  exact z_sel_t hn
theorem c_J6_bitCount_0f7a4 (l : Launch) (G : qx_G) (σ : qx_Sg) (x : Int32) : qx_Ct l G yJ6_bitCount_0f7a4 cJ6_bitCount_0f7a4 1 (some .int) 0 0 [.int x] (σ) (qx_pi (z_bc x) (σ)) := by
  refine qx_of .int (lo := [(0, .int x)]) (by decide +kernel) (Nat.le_of_ble_eq_true rfl) rfl (fun Δ (C : qx_C G Δ cJ6_bitCount_0f7a4 RJ6 1 0 0) hret => ?_)
  refine qk_iloadn C dJ6_bitCount_0f7a4_0 1 rfl rfl 0 rfl ?_
  refine qk_iloadn C dJ6_bitCount_0f7a4_1 2 rfl rfl 0 rfl ?_
  refine qk_iconst C (1) dJ6_bitCount_0f7a4_2 3 rfl rfl ?_
  refine qk_iushr C dJ6_bitCount_0f7a4_3 4 rfl ?_
  refine qk_ldcw C dJ6_bitCount_0f7a4_4 7 rfl qw_366 ?_
  refine qk_iand C dJ6_bitCount_0f7a4_7 8 rfl ?_
  refine qk_isub C dJ6_bitCount_0f7a4_8 9 rfl ?_
  refine qk_istoren C dJ6_bitCount_0f7a4_9 10 rfl rfl (by decide) rfl ?_
  refine qk_iloadn C dJ6_bitCount_0f7a4_10 11 rfl rfl 0 rfl ?_
  refine qk_ldcw C dJ6_bitCount_0f7a4_11 14 rfl qw_367 ?_
  refine qk_iand C dJ6_bitCount_0f7a4_14 15 rfl ?_
  refine qk_iloadn C dJ6_bitCount_0f7a4_15 16 rfl rfl 0 rfl ?_
  refine qk_iconst C (2) dJ6_bitCount_0f7a4_16 17 rfl rfl ?_
  refine qk_iushr C dJ6_bitCount_0f7a4_17 18 rfl ?_
  refine qk_ldcw C dJ6_bitCount_0f7a4_18 21 rfl qw_367 ?_
  refine qk_iand C dJ6_bitCount_0f7a4_21 22 rfl ?_
  refine qk_iadd C dJ6_bitCount_0f7a4_22 23 rfl ?_
  refine qk_istoren C dJ6_bitCount_0f7a4_23 24 rfl rfl (by decide) rfl ?_
  refine qk_iloadn C dJ6_bitCount_0f7a4_24 25 rfl rfl 0 rfl ?_
  refine qk_iloadn C dJ6_bitCount_0f7a4_25 26 rfl rfl 0 rfl ?_
  refine qk_iconst C (4) dJ6_bitCount_0f7a4_26 27 rfl rfl ?_
  refine qk_iushr C dJ6_bitCount_0f7a4_27 28 rfl ?_
  refine qk_iadd C dJ6_bitCount_0f7a4_28 29 rfl ?_
  refine qk_ldcw C dJ6_bitCount_0f7a4_29 32 rfl qw_368 ?_
  refine qk_iand C dJ6_bitCount_0f7a4_32 33 rfl ?_
  refine qk_istoren C dJ6_bitCount_0f7a4_33 34 rfl rfl (by decide) rfl ?_
  refine qk_iloadn C dJ6_bitCount_0f7a4_34 35 rfl rfl 0 rfl ?_
  refine qk_iloadn C dJ6_bitCount_0f7a4_35 36 rfl rfl 0 rfl ?_
  refine qk_bipush C (8) dJ6_bitCount_0f7a4_36 38 rfl rfl ?_
  refine qk_iushr C dJ6_bitCount_0f7a4_38 39 rfl ?_
  refine qk_iadd C dJ6_bitCount_0f7a4_39 40 rfl ?_
  refine qk_istoren C dJ6_bitCount_0f7a4_40 41 rfl rfl (by decide) rfl ?_
  refine qk_iloadn C dJ6_bitCount_0f7a4_41 42 rfl rfl 0 rfl ?_
  refine qk_iloadn C dJ6_bitCount_0f7a4_42 43 rfl rfl 0 rfl ?_
  refine qk_bipush C (16) dJ6_bitCount_0f7a4_43 45 rfl rfl ?_
  refine qk_iushr C dJ6_bitCount_0f7a4_45 46 rfl ?_
  refine qk_iadd C dJ6_bitCount_0f7a4_46 47 rfl ?_
  refine qk_istoren C dJ6_bitCount_0f7a4_47 48 rfl rfl (by decide) rfl ?_
  refine qk_iloadn C dJ6_bitCount_0f7a4_48 49 rfl rfl 0 rfl ?_
  refine qk_bipush C (63) dJ6_bitCount_0f7a4_49 51 rfl rfl ?_
  refine qk_iand C dJ6_bitCount_0f7a4_51 52 rfl ?_
  exact hret _ _ _ _ dJ6_bitCount_0f7a4_52 ⟨congrArg (fun x => some (Value.int x)) (by first | rfl | (simp []; done) | (simp []; decide) | (simp []; rfl) | (simp_all []; done)), rfl⟩ rfl

theorem c_X0_hasPart (l : Launch) (G : qx_G) (k : Nat) (hB : qx_isB k) (σ : qx_Sg) (p : Int32) : qx_Ct l G yX0_hasPart cX0_hasPart 2 (some .boolean) 0 0 [.ref (qx_ad G k), .int p] (σ) (qx_pi (qb (z_hs (σ k 2) p)) (σ)) := by
  refine qx_of .boolean (lo := [(0, .ref (qx_ad G k)), (1, .int p)]) (by decide +kernel) (Nat.le_of_ble_eq_true rfl) rfl (fun Δ (C : qx_C G Δ cX0_hasPart RX0 2 0 0) hret => ?_)
  refine qk_aloadn C dX0_hasPart_0 1 rfl rfl 0 rfl ?_
  refine qk_get C dX0_hasPart_1 4 rfl qf_X0_18 _ hB.lt (qx_Fb hB _) rfl ?_
  refine qk_iloadn C dX0_hasPart_4 5 rfl rfl 1 rfl ?_
  refine qk_ishr C dX0_hasPart_5 6 rfl ?_
  refine qk_iconst C (1) dX0_hasPart_6 7 rfl rfl ?_
  refine qk_iand C dX0_hasPart_7 8 rfl ?_
  refine qk_iconst C (1) dX0_hasPart_8 9 rfl rfl ?_
  refine qk_icmp_ne C dX0_hasPart_9 16 rfl 12 rfl (fun c_9 => ?_) (fun c_9 => ?_)
  · refine qk_iconst C (0) dX0_hasPart_16 17 rfl rfl ?_
    exact hret _ _ _ _ dX0_hasPart_17 ⟨congrArg (fun x => some (Value.int x)) ((qb_f (c_9)).symm), rfl⟩ rfl
  · refine qk_iconst C (1) dX0_hasPart_12 13 rfl rfl ?_
    refine qk_goto C dX0_hasPart_13 17 rfl ?_
    exact hret _ _ _ _ dX0_hasPart_17 ⟨congrArg (fun x => some (Value.int x)) ((qb_t (c_9)).symm), rfl⟩ rfl

theorem c_X0_receive (l : Launch) (G : qx_G) (k : Nat) (hB : qx_isB k) (σ : qx_Sg) (p : Int32) : qx_Ct l G yX0_receive cX0_receive 2 none 0 0 [.ref (qx_ad G k), .int p] (σ) (qx_pv (va_up σ k (upd (σ k) 2 (z_rc (σ k 2) p)))) := by
  refine qx_ofV (lo := [(0, .ref (qx_ad G k)), (1, .int p)]) (by decide +kernel) (Nat.le_of_ble_eq_true rfl) rfl (fun Δ (C : qx_C G Δ cX0_receive RX0 2 0 0) hret => ?_)
  refine qk_aloadn C dX0_receive_0 1 rfl rfl 0 rfl ?_
  refine qk_dup C dX0_receive_1 2 rfl rfl ?_
  refine qk_get C dX0_receive_2 5 rfl qf_X0_18 _ hB.lt (qx_Fb hB _) rfl ?_
  refine qk_iconst C (1) dX0_receive_5 6 rfl rfl ?_
  refine qk_iloadn C dX0_receive_6 7 rfl rfl 1 rfl ?_
  refine qk_ishl C dX0_receive_7 8 rfl ?_
  refine qk_ior C dX0_receive_8 9 rfl ?_
  refine qk_put C .int dX0_receive_9 12 rfl qf_X0_18 _ hB.lt (qx_Fb hB _) (fun q hq => by cases hq; rfl) rfl rfl (Nat.le_of_ble_eq_true rfl) (qx_Fb hB _) ?_
  exact hret _ _ _ dX0_receive_12 ⟨rfl, rfl⟩

theorem c_X0_begin (l : Launch) (G : qx_G) (k : Nat) (hB : qx_isB k) (σ : qx_Sg) (kd dt : Int32) : qx_Ct l G yX0_begin cX0_begin 3 none 0 0 [.ref (qx_ad G k), .int kd, .int dt] (σ) (qx_pv (va_up σ k (z_bg kd dt))) := by
  refine qx_ofV (lo := [(0, .ref (qx_ad G k)), (1, .int kd), (2, .int dt)]) (by decide +kernel) (Nat.le_of_ble_eq_true rfl) rfl (fun Δ (C : qx_C G Δ cX0_begin RX0 3 0 0) hret => ?_)
  refine qk_aloadn C dX0_begin_0 1 rfl rfl 0 rfl ?_
  refine qk_iloadn C dX0_begin_1 2 rfl rfl 1 rfl ?_
  refine qk_put C .int dX0_begin_2 5 rfl qf_X0_9 _ hB.lt (qx_Fb hB _) (fun q hq => by cases hq; rfl) rfl rfl (Nat.le_of_ble_eq_true rfl) (qx_Fb hB _) ?_
  refine qk_aloadn C dX0_begin_5 6 rfl rfl 0 rfl ?_
  refine qk_iloadn C dX0_begin_6 7 rfl rfl 2 rfl ?_
  refine qk_put C .int dX0_begin_7 10 rfl qf_X0_15 _ hB.lt (qx_Fb hB _) (fun q hq => by cases hq; rfl) rfl rfl (Nat.le_of_ble_eq_true rfl) (qx_Fb hB _) ?_
  refine qk_aloadn C dX0_begin_10 11 rfl rfl 0 rfl ?_
  refine qk_iconst C (3) dX0_begin_11 12 rfl rfl ?_
  refine qk_put C .int dX0_begin_12 15 rfl qf_X0_18 _ hB.lt (qx_Fb hB _) (fun q hq => by cases hq; rfl) rfl rfl (Nat.le_of_ble_eq_true rfl) (qx_Fb hB _) ?_
  refine qk_aloadn C dX0_begin_15 16 rfl rfl 0 rfl ?_
  refine qk_iconst C (0) dX0_begin_16 17 rfl rfl ?_
  refine qk_put C .int dX0_begin_17 20 rfl qf_X0_21 _ hB.lt (qx_Fb hB _) (fun q hq => by cases hq; rfl) rfl rfl (Nat.le_of_ble_eq_true rfl) (qx_Fb hB _) ?_
  refine qk_aloadn C dX0_begin_20 21 rfl rfl 0 rfl ?_
  refine qk_iconst C (0) dX0_begin_21 22 rfl rfl ?_
  refine qk_put C .int dX0_begin_22 25 rfl qf_X0_24 _ hB.lt (qx_Fb hB _) (fun q hq => by cases hq; rfl) rfl rfl (Nat.le_of_ble_eq_true rfl) (qx_Fb hB _) ?_
  refine qk_aloadn C dX0_begin_25 26 rfl rfl 0 rfl ?_
  refine qk_iconst C (0) dX0_begin_26 27 rfl rfl ?_
  refine qk_put C .int dX0_begin_27 30 rfl qf_X0_27 _ hB.lt (qx_Fb hB _) (fun q hq => by cases hq; rfl) rfl rfl (Nat.le_of_ble_eq_true rfl) (qx_Fb hB _) ?_
  refine qk_aloadn C dX0_begin_30 31 rfl rfl 0 rfl ?_
  refine qk_iconst C (0) dX0_begin_31 32 rfl rfl ?_
  refine qk_put C .int dX0_begin_32 35 rfl qf_X0_30 _ hB.lt (qx_Fb hB _) (fun q hq => by cases hq; rfl) rfl rfl (Nat.le_of_ble_eq_true rfl) (qx_Fb hB _) ?_
  refine qk_cg (va_up σ k (z_bg kd dt)) (qx_upB hB (qx_j7 (by simp [upd, va_up, z_bg]) (by simp [upd, va_up, z_bg]) (by simp [upd, va_up, z_bg]) (by simp [upd, va_up, z_bg]) (by simp [upd, va_up, z_bg]) (by simp [upd, va_up, z_bg]) (by simp [upd, va_up, z_bg])) (by intro i hi; simp [va_up, hi])) ?_
  exact hret _ _ _ dX0_begin_35 ⟨rfl, rfl⟩

theorem c_X0_yearn (l : Launch) (G : qx_G) (k : Nat) (hB : qx_isB k) (σ : qx_Sg) (m : Int32) : qx_Ct l G yX0_yearn cX0_yearn 2 none 1 21 [.ref (qx_ad G k), .int m] (σ) (qx_pv (va_up σ k (upd (σ k) 4 (qx_mn 99 (σ k 4 + m))))) := by
  refine qx_ofV (lo := [(0, .ref (qx_ad G k)), (1, .int m)]) (by decide +kernel) (Nat.le_of_ble_eq_true rfl) rfl (fun Δ (C : qx_C G Δ cX0_yearn RX0 2 1 21) hret => ?_)
  refine qk_aloadn C dX0_yearn_0 1 rfl rfl 0 rfl ?_
  refine qk_bipush C (99) dX0_yearn_1 3 rfl rfl ?_
  refine qk_aloadn C dX0_yearn_3 4 rfl rfl 0 rfl ?_
  refine qk_get C dX0_yearn_4 7 rfl qf_X0_24 _ hB.lt (qx_Fb hB _) rfl ?_
  refine qk_iloadn C dX0_yearn_7 8 rfl rfl 1 rfl ?_
  refine qk_iadd C dX0_yearn_8 9 rfl ?_
  refine qk_min C dX0_yearn_9 12 rfl ql_X0_69 ⟨(Nat.le_of_ble_eq_true rfl), (Nat.le_of_ble_eq_true rfl)⟩ ?_
  refine qk_put C .int dX0_yearn_12 15 rfl qf_X0_24 _ hB.lt (qx_Fb hB _) (fun q hq => by cases hq; rfl) rfl rfl (Nat.le_of_ble_eq_true rfl) (qx_Fb hB _) ?_
  exact hret _ _ _ dX0_yearn_15 ⟨rfl, rfl⟩

theorem c_X0_leavesWith (l : Launch) (G : qx_G) (k : Nat) (hB : qx_isB k) (σ : qx_Sg) : qx_Ct l G yX0_leavesWith cX0_leavesWith 4 (some .int) 0 0 [.ref (qx_ad G k)] (σ) (qx_pi (z_lw (σ k 0)) (σ)) := by
  refine qx_of .int (lo := [(0, .ref (qx_ad G k))]) (by decide +kernel) (Nat.le_of_ble_eq_true rfl) rfl (fun Δ (C : qx_C G Δ cX0_leavesWith RX0 4 0 0) hret => ?_)
  refine qk_bipush C (50) dX0_leavesWith_0 2 rfl rfl ?_
  refine qk_istoren C dX0_leavesWith_2 3 rfl rfl (by decide) rfl ?_
  refine qk_iloadn C dX0_leavesWith_3 4 rfl rfl 0 rfl ?_
  refine qk_bipush C (10) dX0_leavesWith_4 6 rfl rfl ?_
  refine qk_isub C dX0_leavesWith_6 7 rfl ?_
  refine qk_istoren C dX0_leavesWith_7 8 rfl rfl (by decide) rfl ?_
  refine qk_iloadn C dX0_leavesWith_8 9 rfl rfl 1 rfl ?_
  refine qk_bipush C (30) dX0_leavesWith_9 11 rfl rfl ?_
  refine qk_iadd C dX0_leavesWith_11 12 rfl ?_
  refine qk_istoren C dX0_leavesWith_12 13 rfl rfl (by decide) rfl ?_
  refine qk_aloadn C dX0_leavesWith_13 14 rfl rfl 3 rfl ?_
  refine qk_get C dX0_leavesWith_14 17 rfl qf_X0_9 _ hB.lt (qx_Fb hB _) rfl ?_
  refine qk_eqc (1) (fun c_17_1 => ?_) (fun c_17_1 => ?_)
  · refine qk_tableIn C dX0_leavesWith_17 (1) c_17_1 (by decide) (by decide) rfl 56 rfl ?_
    refine qk_iloadn C dX0_leavesWith_56 57 rfl rfl 1 rfl ?_
    exact hret _ _ _ _ dX0_leavesWith_57 ⟨congrArg (fun x => some (Value.int x)) (by first | rfl | (simp [z_lw, c_17_1]; done) | (simp [z_lw, c_17_1]; decide) | (simp [z_lw, c_17_1]; rfl) | (simp_all [z_lw]; done)), rfl⟩ rfl
  refine qk_eqc (2) (fun c_17_2 => ?_) (fun c_17_2 => ?_)
  · refine qk_tableIn C dX0_leavesWith_17 (2) c_17_2 (by decide) (by decide) rfl 58 rfl ?_
    refine qk_iloadn C dX0_leavesWith_58 59 rfl rfl 0 rfl ?_
    exact hret _ _ _ _ dX0_leavesWith_59 ⟨congrArg (fun x => some (Value.int x)) (by first | rfl | (simp [z_lw, c_17_1, c_17_2]; done) | (simp [z_lw, c_17_1, c_17_2]; decide) | (simp [z_lw, c_17_1, c_17_2]; rfl) | (simp_all [z_lw]; done)), rfl⟩ rfl
  refine qk_eqc (3) (fun c_17_3 => ?_) (fun c_17_3 => ?_)
  · refine qk_tableIn C dX0_leavesWith_17 (3) c_17_3 (by decide) (by decide) rfl 60 rfl ?_
    refine qk_iloadn C dX0_leavesWith_60 61 rfl rfl 0 rfl ?_
    exact hret _ _ _ _ dX0_leavesWith_61 ⟨congrArg (fun x => some (Value.int x)) (by first | rfl | (simp [z_lw, c_17_1, c_17_2, c_17_3]; done) | (simp [z_lw, c_17_1, c_17_2, c_17_3]; decide) | (simp [z_lw, c_17_1, c_17_2, c_17_3]; rfl) | (simp_all [z_lw]; done)), rfl⟩ rfl
  refine qk_eqc (4) (fun c_17_4 => ?_) (fun c_17_4 => ?_)
  · refine qk_tableIn C dX0_leavesWith_17 (4) c_17_4 (by decide) (by decide) rfl 62 rfl ?_
    refine qk_iloadn C dX0_leavesWith_62 63 rfl rfl 0 rfl ?_
    refine qk_iconst C (2) dX0_leavesWith_63 64 rfl rfl ?_
    refine qk_idiv C dX0_leavesWith_64 65 rfl (by decide) ?_
    exact hret _ _ _ _ dX0_leavesWith_65 ⟨congrArg (fun x => some (Value.int x)) (by first | rfl | (simp [z_lw, c_17_1, c_17_2, c_17_3, c_17_4]; done) | (simp [z_lw, c_17_1, c_17_2, c_17_3, c_17_4]; decide) | (simp [z_lw, c_17_1, c_17_2, c_17_3, c_17_4]; rfl) | (simp_all [z_lw]; done)), rfl⟩ rfl
  refine qk_eqc (5) (fun c_17_5 => ?_) (fun c_17_5 => ?_)
  · refine qk_tableIn C dX0_leavesWith_17 (5) c_17_5 (by decide) (by decide) rfl 66 rfl ?_
    refine qk_bipush C (99) dX0_leavesWith_66 68 rfl rfl ?_
    exact hret _ _ _ _ dX0_leavesWith_68 ⟨congrArg (fun x => some (Value.int x)) (by first | rfl | (simp [z_lw, c_17_1, c_17_2, c_17_3, c_17_4, c_17_5]; done) | (simp [z_lw, c_17_1, c_17_2, c_17_3, c_17_4, c_17_5]; decide) | (simp [z_lw, c_17_1, c_17_2, c_17_3, c_17_4, c_17_5]; rfl) | (simp_all [z_lw]; done)), rfl⟩ rfl
  refine qk_eqc (6) (fun c_17_6 => ?_) (fun c_17_6 => ?_)
  · refine qk_tableIn C dX0_leavesWith_17 (6) c_17_6 (by decide) (by decide) rfl 69 rfl ?_
    refine qk_iloadn C dX0_leavesWith_69 70 rfl rfl 1 rfl ?_
    exact hret _ _ _ _ dX0_leavesWith_70 ⟨congrArg (fun x => some (Value.int x)) (by first | rfl | (simp [z_lw, c_17_1, c_17_2, c_17_3, c_17_4, c_17_5, c_17_6]; done) | (simp [z_lw, c_17_1, c_17_2, c_17_3, c_17_4, c_17_5, c_17_6]; decide) | (simp [z_lw, c_17_1, c_17_2, c_17_3, c_17_4, c_17_5, c_17_6]; rfl) | (simp_all [z_lw]; done)), rfl⟩ rfl
  refine qk_tableOut C dX0_leavesWith_17 (by have h1 := lv_neT c_17_1 (show (1 : Int32).toInt = 1 from rfl); have h2 := lv_neT c_17_2 (show (2 : Int32).toInt = 2 from rfl); have h3 := lv_neT c_17_3 (show (3 : Int32).toInt = 3 from rfl); have h4 := lv_neT c_17_4 (show (4 : Int32).toInt = 4 from rfl); have h5 := lv_neT c_17_5 (show (5 : Int32).toInt = 5 from rfl); have h6 := lv_neT c_17_6 (show (6 : Int32).toInt = 6 from rfl); omega) 71 rfl ?_
  refine qk_iloadn C dX0_leavesWith_71 72 rfl rfl 2 rfl ?_
  exact hret _ _ _ _ dX0_leavesWith_72 ⟨congrArg (fun x => some (Value.int x)) (by first | rfl | (simp [z_lw, c_17_1, c_17_2, c_17_3, c_17_4, c_17_5, c_17_6]; done) | (simp [z_lw, c_17_1, c_17_2, c_17_3, c_17_4, c_17_5, c_17_6]; decide) | (simp [z_lw, c_17_1, c_17_2, c_17_3, c_17_4, c_17_5, c_17_6]; rfl) | (simp_all [z_lw]; done)), rfl⟩ rfl

theorem c_X0_greatestPart (l : Launch) (G : qx_G) (k : Nat) (hB : qx_isB k) (σ : qx_Sg) : qx_Ct l G yX0_greatestPart cX0_greatestPart 2 (some .int) 1 21 [.ref (qx_ad G k)] (σ) (qx_pi (z_gp (σ k 2)) (σ)) := by
  refine qx_of .int (lo := [(0, .ref (qx_ad G k))]) (by decide +kernel) (Nat.le_of_ble_eq_true rfl) rfl (fun Δ (C : qx_C G Δ cX0_greatestPart RX0 2 1 21) hret => ?_)
  refine qk_bipush C (nI 11) dX0_greatestPart_0 2 rfl rfl ?_
  refine qk_istoren C dX0_greatestPart_2 3 rfl rfl (by decide) rfl ?_
  have lp_3 : ∀ (n_3 : Nat) (i : Nat), i ≤ 11 ∧ z_gp (σ k 2) = z_gF (σ k 2) i → i < n_3 → qx_K l G Δ (σ) 3 [(1, .int (nI i)), (0, .ref (qx_ad G k))] [] := by
    intro n_3
    induction n_3 with
    | zero => intro _ _ h9; exact absurd h9 (Nat.not_lt_zero _)
    | succ n_3 ih_3 =>
      intro i hi hm_3
      refine qk_iloadn C dX0_greatestPart_3 4 rfl rfl 0 rfl ?_
      refine qk_if_le C dX0_greatestPart_4 23 rfl 7 rfl (fun c_4 => ?_) (fun c_4 => ?_)
      · have hi0 : i = 0 := by
          rcases Nat.eq_zero_or_pos i with e | e
          · exact e
          · exact absurd c_4 (nI_nle e (by omega))
        refine qk_iconst C (0) dX0_greatestPart_23 24 rfl rfl ?_
        exact hret _ _ _ _ dX0_greatestPart_24 ⟨congrArg (fun x => some (Value.int x)) (by rw [hi.2, hi0]; rfl), rfl⟩ rfl
      · have hi0 : 0 < i := Nat.pos_of_ne_zero (fun e => c_4 (by subst e; decide))
        refine qk_aloadn C dX0_greatestPart_7 8 rfl rfl 1 rfl ?_
        refine qk_iloadn C dX0_greatestPart_8 9 rfl rfl 0 rfl ?_
        refine qk_callV C dX0_greatestPart_9 12 rfl ql_X0_50 qc_X0_hasPart _ hB.lt (qx_Fb hB _) rfl (c_X0_hasPart l G _ hB _ _) rfl rfl (Nat.le_of_ble_eq_true rfl) ⟨(Nat.le_of_ble_eq_true rfl), (Nat.le_of_ble_eq_true rfl)⟩ (qx_Ki ?_)
        refine qk_if_eqB C dX0_greatestPart_12 17 rfl 15 rfl (fun c_12 => ?_) (fun c_12 => ?_)
        · refine qk_iinc C (nI (i - 1)) dX0_greatestPart_17 20 rfl 0 rfl (by obtain ⟨j, rfl⟩ : ∃ j, i = j + 1 := ⟨i - 1, by omega⟩; exact pk_m1 j) (by decide) rfl ?_
          refine qk_goto C dX0_greatestPart_20 3 rfl ?_
          exact ih_3 (i - 1) ⟨by omega, by rw [hi.2]; exact z_gF_step hi0 c_12⟩ (by omega)
        · refine qk_iloadn C dX0_greatestPart_15 16 rfl rfl 0 rfl ?_
          exact hret _ _ _ _ dX0_greatestPart_16 ⟨congrArg (fun x => some (Value.int x)) (by rw [hi.2]; exact (z_gF_hit hi0 c_12).symm), rfl⟩ rfl
  exact lp_3 _ 11 ⟨by decide, rfl⟩ (Nat.lt_succ_self _)

theorem z_tell0 {r : Nat → Int32} {w : Int32} (h0 : ¬ w = 0) (h1 : ¬ w = 1) (h2 : ¬ w = 2) (h3 : ¬ w = 3) (h4 : ¬ w = 4) (h5 : ¬ w = 5) (h6 : ¬ w = 6) (h7 : ¬ w = 7) (h8 : ¬ w = 8) (h9 : ¬ w = 9) : z_tell r w = z_say r := by simp [z_tell, *]
theorem z_isF_0 {w : Int32} {j : Nat} : ¬ z_isF w 0 j := fun h => h
theorem z_isF_s {w : Int32} {n j : Nat} : z_isF w (n + 1) j ↔ (nI j = w ∨ z_isF w n (z_ab j)) := Iff.rfl
theorem z_abv {j : Nat} (h : j < 7) : qx_abv.getD j 0 = nI (z_ab j) ∧ z_ab j < 7 := by
  have : j = 0 ∨ j = 1 ∨ j = 2 ∨ j = 3 ∨ j = 4 ∨ j = 5 ∨ j = 6 := by omega
  rcases this with rfl | rfl | rfl | rfl | rfl | rfl | rfl <;> exact ⟨rfl, by decide⟩
def z_tkb (kd h p : Int32) : Prop := z_tk kd (z_rc h (p - 1)) p
noncomputable def z_pF (kd h : Int32) : Nat → Int32 → Int32
  | 0, a => z_sel (z_tk kd h (nI 0)) (z_rc a (nI 0)) 0
  | p + 1, a => z_sel (z_tk kd h (nI (p + 1))) (z_rc a (nI (p + 1))) (z_sel (z_tkb kd h (nI (p + 1))) (z_pF kd h p (z_rc a (nI (p + 1)))) 0)
theorem z_pF_hit {kd h a : Int32} {p : Nat} (ht : z_tk kd h (nI p)) : z_pF kd h p a = z_rc a (nI p) := by
  cases p with
  | zero => exact z_sel_t ht
  | succ p => exact z_sel_t ht
theorem z_pF_0 {kd h a : Int32} (ht : ¬ z_tk kd h (nI 0)) : z_pF kd h 0 a = 0 := z_sel_f ht
theorem z_pF_no {kd h a : Int32} {p : Nat} (h0 : 0 < p) (ht : ¬ z_tk kd h (nI p)) (hb : ¬ z_tkb kd h (nI p)) : z_pF kd h p a = 0 := by
  obtain ⟨j, rfl⟩ : ∃ j, p = j + 1 := ⟨p - 1, by omega⟩
  exact (z_sel_f ht).trans (z_sel_f hb)
theorem z_pF_go {kd h a : Int32} {p : Nat} (h0 : 0 < p) (ht : ¬ z_tk kd h (nI p)) (hb : z_tkb kd h (nI p)) : z_pF kd h p a = z_pF kd h (p - 1) (z_rc a (nI p)) := by
  obtain ⟨j, rfl⟩ : ∃ j, p = j + 1 := ⟨p - 1, by omega⟩
  exact (z_sel_f ht).trans (z_sel_t hb)
theorem c_X0_takes (l : Launch) (G : qx_G) (k : Nat) (hB : qx_isB k) (σ : qx_Sg) (p : Int32) : qx_Ct l G yX0_takes cX0_takes 5 (some .boolean) 1 21 [.ref (qx_ad G k), .int p] (σ) (qx_pi (qb (z_tk (σ k 0) (σ k 2) p)) (σ)) := by
  refine qx_of .boolean (lo := [(0, .ref (qx_ad G k)), (1, .int p)]) (by decide +kernel) (Nat.le_of_ble_eq_true rfl) rfl (fun Δ (C : qx_C G Δ cX0_takes RX0 5 1 21) hret => ?_)
  refine qk_aloadn C dX0_takes_0 1 rfl rfl 0 rfl ?_
  refine qk_iloadn C dX0_takes_1 2 rfl rfl 1 rfl ?_
  refine qk_callV C dX0_takes_2 5 rfl ql_X0_50 qc_X0_hasPart _ hB.lt (qx_Fb hB _) rfl (c_X0_hasPart l G _ hB _ _) rfl rfl (Nat.le_of_ble_eq_true rfl) ⟨(Nat.le_of_ble_eq_true rfl), (Nat.le_of_ble_eq_true rfl)⟩ (qx_Ki ?_)
  refine qk_if_eqB C dX0_takes_5 10 rfl 8 rfl (fun c_5 => ?_) (fun c_5 => ?_)
  · refine qk_iloadn C dX0_takes_10 11 rfl rfl 1 rfl ?_
    refine qk_if_le C dX0_takes_11 28 rfl 14 rfl (fun c_11 => ?_) (fun c_11 => ?_)
    · refine qk_iconst C (0) dX0_takes_28 29 rfl rfl ?_
      refine qk_istoren C dX0_takes_29 30 rfl rfl (by decide) rfl ?_
      refine qk_iloadn C dX0_takes_30 31 rfl rfl 0 rfl ?_
      refine qk_if_ne C dX0_takes_31 40 rfl 34 rfl (fun c => absurd rfl c) (fun _ => ?_)
      refine qk_iloadn C dX0_takes_34 35 rfl rfl 2 rfl ?_
      refine qk_iconst C (2) dX0_takes_35 36 rfl rfl ?_
      refine qk_irem C dX0_takes_36 37 rfl (by decide) ?_
      refine qk_if_ne C dX0_takes_37 44 rfl 40 rfl (fun c_37 => ?_) (fun c_37 => ?_)
      · refine qk_iconst C (0) dX0_takes_44 45 rfl rfl ?_
        refine qk_istoren C dX0_takes_45 46 rfl rfl (by decide) rfl ?_
        refine qk_iloadn C dX0_takes_46 47 rfl rfl 1 rfl ?_
        refine qk_if_eq C dX0_takes_47 59 rfl 50 rfl (fun _ => ?_) (fun c => absurd rfl c)
        refine qk_iconst C (0) dX0_takes_59 60 rfl rfl ?_
        refine qk_istore C dX0_takes_60 62 rfl (by decide) rfl ?_
        refine qk_aloadn C dX0_takes_62 63 rfl rfl 3 rfl ?_
        refine qk_get C dX0_takes_63 66 rfl qf_X0_9 _ hB.lt (qx_Fb hB _) rfl ?_
        refine qk_eqc (1) (fun c_66_1 => ?_) (fun c_66_1 => ?_)
        · refine qk_tableIn C dX0_takes_66 (1) c_66_1 (by decide) (by decide) rfl 104 rfl ?_
          refine qk_iloadn C dX0_takes_104 105 rfl rfl 1 rfl ?_
          exact hret _ _ _ _ dX0_takes_105 ⟨congrArg (fun x => some (Value.int x)) ((qb_f (by first | (simp [z_tk, z_lk, z_pl, z_ev, c_5, c_11, c_37, c_66_1]; done) | (simp_all [z_tk, z_lk, z_pl, z_ev]; done))).symm), rfl⟩ rfl
        refine qk_eqc (2) (fun c_66_2 => ?_) (fun c_66_2 => ?_)
        · refine qk_tableIn C dX0_takes_66 (2) c_66_2 (by decide) (by decide) rfl 106 rfl ?_
          refine qk_iload C dX0_takes_106 108 rfl 0 rfl ?_
          exact hret _ _ _ _ dX0_takes_108 ⟨congrArg (fun x => some (Value.int x)) ((qb_f (by first | (simp [z_tk, z_lk, z_pl, z_ev, c_5, c_11, c_37, c_66_1, c_66_2]; done) | (simp_all [z_tk, z_lk, z_pl, z_ev]; done))).symm), rfl⟩ rfl
        refine qk_eqc (3) (fun c_66_3 => ?_) (fun c_66_3 => ?_)
        · refine qk_tableIn C dX0_takes_66 (3) c_66_3 (by decide) (by decide) rfl 109 rfl ?_
          refine qk_iload C dX0_takes_109 111 rfl 0 rfl ?_
          refine qk_if_ne C dX0_takes_111 119 rfl 114 rfl (fun c => absurd rfl c) (fun _ => ?_)
          refine qk_iloadn C dX0_takes_114 115 rfl rfl 4 rfl ?_
          refine qk_iconst C (3) dX0_takes_115 116 rfl rfl ?_
          refine qk_icmp_ne C dX0_takes_116 123 rfl 119 rfl (fun c_116 => ?_) (fun c_116 => ?_)
          · refine qk_iconst C (0) dX0_takes_123 124 rfl rfl ?_
            exact hret _ _ _ _ dX0_takes_124 ⟨congrArg (fun x => some (Value.int x)) ((qb_f (by first | (simp [z_tk, z_lk, z_pl, z_ev, c_5, c_11, c_37, c_66_1, c_66_2, c_66_3, c_116]; done) | (simp_all [z_tk, z_lk, z_pl, z_ev]; done))).symm), rfl⟩ rfl
          · refine qk_iconst C (1) dX0_takes_119 120 rfl rfl ?_
            refine qk_goto C dX0_takes_120 124 rfl ?_
            exact hret _ _ _ _ dX0_takes_124 ⟨congrArg (fun x => some (Value.int x)) ((qb_t (by first | (simp [z_tk, z_lk, z_pl, z_ev, c_5, c_11, c_37, c_66_1, c_66_2, c_66_3, c_116]; done) | (simp_all [z_tk, z_lk, z_pl, z_ev]; done))).symm), rfl⟩ rfl
        refine qk_eqc (4) (fun c_66_4 => ?_) (fun c_66_4 => ?_)
        · refine qk_tableIn C dX0_takes_66 (4) c_66_4 (by decide) (by decide) rfl 125 rfl ?_
          refine qk_iconst C (1) dX0_takes_125 126 rfl rfl ?_
          exact hret _ _ _ _ dX0_takes_126 ⟨congrArg (fun x => some (Value.int x)) ((qb_t (by first | (simp [z_tk, z_lk, z_pl, z_ev, c_5, c_11, c_37, c_66_1, c_66_2, c_66_3, c_66_4]; done) | (simp_all [z_tk, z_lk, z_pl, z_ev]; done))).symm), rfl⟩ rfl
        refine qk_eqc (5) (fun c_66_5 => ?_) (fun c_66_5 => ?_)
        · refine qk_tableIn C dX0_takes_66 (5) c_66_5 (by decide) (by decide) rfl 127 rfl ?_
          refine qk_iloadn C dX0_takes_127 128 rfl rfl 4 rfl ?_
          refine qk_iconst C (2) dX0_takes_128 129 rfl rfl ?_
          refine qk_icmp_lt C dX0_takes_129 142 rfl 132 rfl (fun c_129 => ?_) (fun c_129 => ?_)
          · refine qk_iconst C (0) dX0_takes_142 143 rfl rfl ?_
            exact hret _ _ _ _ dX0_takes_143 ⟨congrArg (fun x => some (Value.int x)) ((qb_f (by first | (simp [z_tk, z_lk, z_pl, z_ev, c_5, c_11, c_37, c_66_1, c_66_2, c_66_3, c_66_4, c_66_5, c_129]; done) | (simp_all [z_tk, z_lk, z_pl, z_ev]; done))).symm), rfl⟩ rfl
          · refine qk_iloadn C dX0_takes_132 133 rfl rfl 4 rfl ?_
            refine qk_bipush C (7) dX0_takes_133 135 rfl rfl ?_
            refine qk_icmp_gt C dX0_takes_135 142 rfl 138 rfl (fun c_135 => ?_) (fun c_135 => ?_)
            · refine qk_iconst C (0) dX0_takes_142 143 rfl rfl ?_
              exact hret _ _ _ _ dX0_takes_143 ⟨congrArg (fun x => some (Value.int x)) ((qb_f (by first | (simp [z_tk, z_lk, z_pl, z_ev, c_5, c_11, c_37, c_66_1, c_66_2, c_66_3, c_66_4, c_66_5, c_129, c_135]; done) | (simp_all [z_tk, z_lk, z_pl, z_ev]; done))).symm), rfl⟩ rfl
            · refine qk_iconst C (1) dX0_takes_138 139 rfl rfl ?_
              refine qk_goto C dX0_takes_139 143 rfl ?_
              exact hret _ _ _ _ dX0_takes_143 ⟨congrArg (fun x => some (Value.int x)) ((qb_t (by first | (simp [z_tk, z_lk, z_pl, z_ev, c_5, c_11, c_37, c_66_1, c_66_2, c_66_3, c_66_4, c_66_5, c_129, c_135]; done) | (simp_all [z_tk, z_lk, z_pl, z_ev]; done))).symm), rfl⟩ rfl
        refine qk_eqc (6) (fun c_66_6 => ?_) (fun c_66_6 => ?_)
        · refine qk_tableIn C dX0_takes_66 (6) c_66_6 (by decide) (by decide) rfl 144 rfl ?_
          refine qk_iloadn C dX0_takes_144 145 rfl rfl 1 rfl ?_
          refine qk_if_eq C dX0_takes_145 158 rfl 148 rfl (fun _ => ?_) (fun c => absurd rfl c)
          refine qk_iconst C (0) dX0_takes_158 159 rfl rfl ?_
          exact hret _ _ _ _ dX0_takes_159 ⟨congrArg (fun x => some (Value.int x)) ((qb_f (by first | (simp [z_tk, z_lk, z_pl, z_ev, c_5, c_11, c_37, c_66_1, c_66_2, c_66_3, c_66_4, c_66_5, c_66_6]; done) | (simp_all [z_tk, z_lk, z_pl, z_ev]; done))).symm), rfl⟩ rfl
        refine qk_tableOut C dX0_takes_66 (by have h1 := lv_neT c_66_1 (show (1 : Int32).toInt = 1 from rfl); have h2 := lv_neT c_66_2 (show (2 : Int32).toInt = 2 from rfl); have h3 := lv_neT c_66_3 (show (3 : Int32).toInt = 3 from rfl); have h4 := lv_neT c_66_4 (show (4 : Int32).toInt = 4 from rfl); have h5 := lv_neT c_66_5 (show (5 : Int32).toInt = 5 from rfl); have h6 := lv_neT c_66_6 (show (6 : Int32).toInt = 6 from rfl); omega) 160 rfl ?_
        refine qk_iloadn C dX0_takes_160 161 rfl rfl 2 rfl ?_
        exact hret _ _ _ _ dX0_takes_161 ⟨congrArg (fun x => some (Value.int x)) ((qb_f (by first | (simp [z_tk, z_lk, z_pl, z_ev, c_5, c_11, c_37, c_66_1, c_66_2, c_66_3, c_66_4, c_66_5, c_66_6]; done) | (simp_all [z_tk, z_lk, z_pl, z_ev]; done))).symm), rfl⟩ rfl
      · refine qk_iconst C (1) dX0_takes_40 41 rfl rfl ?_
        refine qk_goto C dX0_takes_41 45 rfl ?_
        refine qk_istoren C dX0_takes_45 46 rfl rfl (by decide) rfl ?_
        refine qk_iloadn C dX0_takes_46 47 rfl rfl 1 rfl ?_
        refine qk_if_eq C dX0_takes_47 59 rfl 50 rfl (fun _ => ?_) (fun c => absurd rfl c)
        refine qk_iconst C (0) dX0_takes_59 60 rfl rfl ?_
        refine qk_istore C dX0_takes_60 62 rfl (by decide) rfl ?_
        refine qk_aloadn C dX0_takes_62 63 rfl rfl 3 rfl ?_
        refine qk_get C dX0_takes_63 66 rfl qf_X0_9 _ hB.lt (qx_Fb hB _) rfl ?_
        refine qk_eqc (1) (fun c_66_1 => ?_) (fun c_66_1 => ?_)
        · refine qk_tableIn C dX0_takes_66 (1) c_66_1 (by decide) (by decide) rfl 104 rfl ?_
          refine qk_iloadn C dX0_takes_104 105 rfl rfl 1 rfl ?_
          exact hret _ _ _ _ dX0_takes_105 ⟨congrArg (fun x => some (Value.int x)) ((qb_t (by first | (simp [z_tk, z_lk, z_pl, z_ev, c_5, c_11, c_37, c_66_1]; done) | (simp_all [z_tk, z_lk, z_pl, z_ev]; done))).symm), rfl⟩ rfl
        refine qk_eqc (2) (fun c_66_2 => ?_) (fun c_66_2 => ?_)
        · refine qk_tableIn C dX0_takes_66 (2) c_66_2 (by decide) (by decide) rfl 106 rfl ?_
          refine qk_iload C dX0_takes_106 108 rfl 0 rfl ?_
          exact hret _ _ _ _ dX0_takes_108 ⟨congrArg (fun x => some (Value.int x)) ((qb_f (by first | (simp [z_tk, z_lk, z_pl, z_ev, c_5, c_11, c_37, c_66_1, c_66_2]; done) | (simp_all [z_tk, z_lk, z_pl, z_ev]; done))).symm), rfl⟩ rfl
        refine qk_eqc (3) (fun c_66_3 => ?_) (fun c_66_3 => ?_)
        · refine qk_tableIn C dX0_takes_66 (3) c_66_3 (by decide) (by decide) rfl 109 rfl ?_
          refine qk_iload C dX0_takes_109 111 rfl 0 rfl ?_
          refine qk_if_ne C dX0_takes_111 119 rfl 114 rfl (fun c => absurd rfl c) (fun _ => ?_)
          refine qk_iloadn C dX0_takes_114 115 rfl rfl 4 rfl ?_
          refine qk_iconst C (3) dX0_takes_115 116 rfl rfl ?_
          refine qk_icmp_ne C dX0_takes_116 123 rfl 119 rfl (fun c_116 => ?_) (fun c_116 => ?_)
          · refine qk_iconst C (0) dX0_takes_123 124 rfl rfl ?_
            exact hret _ _ _ _ dX0_takes_124 ⟨congrArg (fun x => some (Value.int x)) ((qb_f (by first | (simp [z_tk, z_lk, z_pl, z_ev, c_5, c_11, c_37, c_66_1, c_66_2, c_66_3, c_116]; done) | (simp_all [z_tk, z_lk, z_pl, z_ev]; done))).symm), rfl⟩ rfl
          · refine qk_iconst C (1) dX0_takes_119 120 rfl rfl ?_
            refine qk_goto C dX0_takes_120 124 rfl ?_
            exact hret _ _ _ _ dX0_takes_124 ⟨congrArg (fun x => some (Value.int x)) ((qb_t (by first | (simp [z_tk, z_lk, z_pl, z_ev, c_5, c_11, c_37, c_66_1, c_66_2, c_66_3, c_116]; done) | (simp_all [z_tk, z_lk, z_pl, z_ev]; done))).symm), rfl⟩ rfl
        refine qk_eqc (4) (fun c_66_4 => ?_) (fun c_66_4 => ?_)
        · refine qk_tableIn C dX0_takes_66 (4) c_66_4 (by decide) (by decide) rfl 125 rfl ?_
          refine qk_iconst C (1) dX0_takes_125 126 rfl rfl ?_
          exact hret _ _ _ _ dX0_takes_126 ⟨congrArg (fun x => some (Value.int x)) ((qb_t (by first | (simp [z_tk, z_lk, z_pl, z_ev, c_5, c_11, c_37, c_66_1, c_66_2, c_66_3, c_66_4]; done) | (simp_all [z_tk, z_lk, z_pl, z_ev]; done))).symm), rfl⟩ rfl
        refine qk_eqc (5) (fun c_66_5 => ?_) (fun c_66_5 => ?_)
        · refine qk_tableIn C dX0_takes_66 (5) c_66_5 (by decide) (by decide) rfl 127 rfl ?_
          refine qk_iloadn C dX0_takes_127 128 rfl rfl 4 rfl ?_
          refine qk_iconst C (2) dX0_takes_128 129 rfl rfl ?_
          refine qk_icmp_lt C dX0_takes_129 142 rfl 132 rfl (fun c_129 => ?_) (fun c_129 => ?_)
          · refine qk_iconst C (0) dX0_takes_142 143 rfl rfl ?_
            exact hret _ _ _ _ dX0_takes_143 ⟨congrArg (fun x => some (Value.int x)) ((qb_f (by first | (simp [z_tk, z_lk, z_pl, z_ev, c_5, c_11, c_37, c_66_1, c_66_2, c_66_3, c_66_4, c_66_5, c_129]; done) | (simp_all [z_tk, z_lk, z_pl, z_ev]; done))).symm), rfl⟩ rfl
          · refine qk_iloadn C dX0_takes_132 133 rfl rfl 4 rfl ?_
            refine qk_bipush C (7) dX0_takes_133 135 rfl rfl ?_
            refine qk_icmp_gt C dX0_takes_135 142 rfl 138 rfl (fun c_135 => ?_) (fun c_135 => ?_)
            · refine qk_iconst C (0) dX0_takes_142 143 rfl rfl ?_
              exact hret _ _ _ _ dX0_takes_143 ⟨congrArg (fun x => some (Value.int x)) ((qb_f (by first | (simp [z_tk, z_lk, z_pl, z_ev, c_5, c_11, c_37, c_66_1, c_66_2, c_66_3, c_66_4, c_66_5, c_129, c_135]; done) | (simp_all [z_tk, z_lk, z_pl, z_ev]; done))).symm), rfl⟩ rfl
            · refine qk_iconst C (1) dX0_takes_138 139 rfl rfl ?_
              refine qk_goto C dX0_takes_139 143 rfl ?_
              exact hret _ _ _ _ dX0_takes_143 ⟨congrArg (fun x => some (Value.int x)) ((qb_t (by first | (simp [z_tk, z_lk, z_pl, z_ev, c_5, c_11, c_37, c_66_1, c_66_2, c_66_3, c_66_4, c_66_5, c_129, c_135]; done) | (simp_all [z_tk, z_lk, z_pl, z_ev]; done))).symm), rfl⟩ rfl
        refine qk_eqc (6) (fun c_66_6 => ?_) (fun c_66_6 => ?_)
        · refine qk_tableIn C dX0_takes_66 (6) c_66_6 (by decide) (by decide) rfl 144 rfl ?_
          refine qk_iloadn C dX0_takes_144 145 rfl rfl 1 rfl ?_
          refine qk_if_eq C dX0_takes_145 158 rfl 148 rfl (fun c => absurd c (by decide)) (fun _ => ?_)
          refine qk_iloadn C dX0_takes_148 149 rfl rfl 4 rfl ?_
          refine qk_bipush C (6) dX0_takes_149 151 rfl rfl ?_
          refine qk_icmp_gt C dX0_takes_151 158 rfl 154 rfl (fun c_151 => ?_) (fun c_151 => ?_)
          · refine qk_iconst C (0) dX0_takes_158 159 rfl rfl ?_
            exact hret _ _ _ _ dX0_takes_159 ⟨congrArg (fun x => some (Value.int x)) ((qb_f (by first | (simp [z_tk, z_lk, z_pl, z_ev, c_5, c_11, c_37, c_66_1, c_66_2, c_66_3, c_66_4, c_66_5, c_66_6, c_151]; done) | (simp_all [z_tk, z_lk, z_pl, z_ev]; done))).symm), rfl⟩ rfl
          · refine qk_iconst C (1) dX0_takes_154 155 rfl rfl ?_
            refine qk_goto C dX0_takes_155 159 rfl ?_
            exact hret _ _ _ _ dX0_takes_159 ⟨congrArg (fun x => some (Value.int x)) ((qb_t (by first | (simp [z_tk, z_lk, z_pl, z_ev, c_5, c_11, c_37, c_66_1, c_66_2, c_66_3, c_66_4, c_66_5, c_66_6, c_151]; done) | (simp_all [z_tk, z_lk, z_pl, z_ev]; done))).symm), rfl⟩ rfl
        refine qk_tableOut C dX0_takes_66 (by have h1 := lv_neT c_66_1 (show (1 : Int32).toInt = 1 from rfl); have h2 := lv_neT c_66_2 (show (2 : Int32).toInt = 2 from rfl); have h3 := lv_neT c_66_3 (show (3 : Int32).toInt = 3 from rfl); have h4 := lv_neT c_66_4 (show (4 : Int32).toInt = 4 from rfl); have h5 := lv_neT c_66_5 (show (5 : Int32).toInt = 5 from rfl); have h6 := lv_neT c_66_6 (show (6 : Int32).toInt = 6 from rfl); omega) 160 rfl ?_
        refine qk_iloadn C dX0_takes_160 161 rfl rfl 2 rfl ?_
        exact hret _ _ _ _ dX0_takes_161 ⟨congrArg (fun x => some (Value.int x)) ((qb_f (by first | (simp [z_tk, z_lk, z_pl, z_ev, c_5, c_11, c_37, c_66_1, c_66_2, c_66_3, c_66_4, c_66_5, c_66_6]; done) | (simp_all [z_tk, z_lk, z_pl, z_ev]; done))).symm), rfl⟩ rfl
    · refine qk_aloadn C dX0_takes_14 15 rfl rfl 0 rfl ?_
      refine qk_iloadn C dX0_takes_15 16 rfl rfl 1 rfl ?_
      refine qk_iconst C (1) dX0_takes_16 17 rfl rfl ?_
      refine qk_isub C dX0_takes_17 18 rfl ?_
      refine qk_callV C dX0_takes_18 21 rfl ql_X0_50 qc_X0_hasPart _ hB.lt (qx_Fb hB _) rfl (c_X0_hasPart l G _ hB _ _) rfl rfl (Nat.le_of_ble_eq_true rfl) ⟨(Nat.le_of_ble_eq_true rfl), (Nat.le_of_ble_eq_true rfl)⟩ (qx_Ki ?_)
      refine qk_if_eqB C dX0_takes_21 28 rfl 24 rfl (fun c_21 => ?_) (fun c_21 => ?_)
      · refine qk_iconst C (0) dX0_takes_28 29 rfl rfl ?_
        refine qk_istoren C dX0_takes_29 30 rfl rfl (by decide) rfl ?_
        refine qk_iloadn C dX0_takes_30 31 rfl rfl 0 rfl ?_
        refine qk_if_ne C dX0_takes_31 40 rfl 34 rfl (fun c => absurd rfl c) (fun _ => ?_)
        refine qk_iloadn C dX0_takes_34 35 rfl rfl 2 rfl ?_
        refine qk_iconst C (2) dX0_takes_35 36 rfl rfl ?_
        refine qk_irem C dX0_takes_36 37 rfl (by decide) ?_
        refine qk_if_ne C dX0_takes_37 44 rfl 40 rfl (fun c_37 => ?_) (fun c_37 => ?_)
        · refine qk_iconst C (0) dX0_takes_44 45 rfl rfl ?_
          refine qk_istoren C dX0_takes_45 46 rfl rfl (by decide) rfl ?_
          refine qk_iloadn C dX0_takes_46 47 rfl rfl 1 rfl ?_
          refine qk_if_eq C dX0_takes_47 59 rfl 50 rfl (fun _ => ?_) (fun c => absurd rfl c)
          refine qk_iconst C (0) dX0_takes_59 60 rfl rfl ?_
          refine qk_istore C dX0_takes_60 62 rfl (by decide) rfl ?_
          refine qk_aloadn C dX0_takes_62 63 rfl rfl 3 rfl ?_
          refine qk_get C dX0_takes_63 66 rfl qf_X0_9 _ hB.lt (qx_Fb hB _) rfl ?_
          refine qk_eqc (1) (fun c_66_1 => ?_) (fun c_66_1 => ?_)
          · refine qk_tableIn C dX0_takes_66 (1) c_66_1 (by decide) (by decide) rfl 104 rfl ?_
            refine qk_iloadn C dX0_takes_104 105 rfl rfl 1 rfl ?_
            exact hret _ _ _ _ dX0_takes_105 ⟨congrArg (fun x => some (Value.int x)) ((qb_f (by first | (simp [z_tk, z_lk, z_pl, z_ev, c_5, c_11, c_21, c_37, c_66_1]; done) | (simp_all [z_tk, z_lk, z_pl, z_ev]; done))).symm), rfl⟩ rfl
          refine qk_eqc (2) (fun c_66_2 => ?_) (fun c_66_2 => ?_)
          · refine qk_tableIn C dX0_takes_66 (2) c_66_2 (by decide) (by decide) rfl 106 rfl ?_
            refine qk_iload C dX0_takes_106 108 rfl 0 rfl ?_
            exact hret _ _ _ _ dX0_takes_108 ⟨congrArg (fun x => some (Value.int x)) ((qb_f (by first | (simp [z_tk, z_lk, z_pl, z_ev, c_5, c_11, c_21, c_37, c_66_1, c_66_2]; done) | (simp_all [z_tk, z_lk, z_pl, z_ev]; done))).symm), rfl⟩ rfl
          refine qk_eqc (3) (fun c_66_3 => ?_) (fun c_66_3 => ?_)
          · refine qk_tableIn C dX0_takes_66 (3) c_66_3 (by decide) (by decide) rfl 109 rfl ?_
            refine qk_iload C dX0_takes_109 111 rfl 0 rfl ?_
            refine qk_if_ne C dX0_takes_111 119 rfl 114 rfl (fun c => absurd rfl c) (fun _ => ?_)
            refine qk_iloadn C dX0_takes_114 115 rfl rfl 4 rfl ?_
            refine qk_iconst C (3) dX0_takes_115 116 rfl rfl ?_
            refine qk_icmp_ne C dX0_takes_116 123 rfl 119 rfl (fun c_116 => ?_) (fun c_116 => ?_)
            · refine qk_iconst C (0) dX0_takes_123 124 rfl rfl ?_
              exact hret _ _ _ _ dX0_takes_124 ⟨congrArg (fun x => some (Value.int x)) ((qb_f (by first | (simp [z_tk, z_lk, z_pl, z_ev, c_5, c_11, c_21, c_37, c_66_1, c_66_2, c_66_3, c_116]; done) | (simp_all [z_tk, z_lk, z_pl, z_ev]; done))).symm), rfl⟩ rfl
            · refine qk_iconst C (1) dX0_takes_119 120 rfl rfl ?_
              refine qk_goto C dX0_takes_120 124 rfl ?_
              exact hret _ _ _ _ dX0_takes_124 ⟨congrArg (fun x => some (Value.int x)) ((qb_t (by first | (simp [z_tk, z_lk, z_pl, z_ev, c_5, c_11, c_21, c_37, c_66_1, c_66_2, c_66_3, c_116]; done) | (simp_all [z_tk, z_lk, z_pl, z_ev]; done))).symm), rfl⟩ rfl
          refine qk_eqc (4) (fun c_66_4 => ?_) (fun c_66_4 => ?_)
          · refine qk_tableIn C dX0_takes_66 (4) c_66_4 (by decide) (by decide) rfl 125 rfl ?_
            refine qk_iconst C (1) dX0_takes_125 126 rfl rfl ?_
            exact hret _ _ _ _ dX0_takes_126 ⟨congrArg (fun x => some (Value.int x)) ((qb_t (by first | (simp [z_tk, z_lk, z_pl, z_ev, c_5, c_11, c_21, c_37, c_66_1, c_66_2, c_66_3, c_66_4]; done) | (simp_all [z_tk, z_lk, z_pl, z_ev]; done))).symm), rfl⟩ rfl
          refine qk_eqc (5) (fun c_66_5 => ?_) (fun c_66_5 => ?_)
          · refine qk_tableIn C dX0_takes_66 (5) c_66_5 (by decide) (by decide) rfl 127 rfl ?_
            refine qk_iloadn C dX0_takes_127 128 rfl rfl 4 rfl ?_
            refine qk_iconst C (2) dX0_takes_128 129 rfl rfl ?_
            refine qk_icmp_lt C dX0_takes_129 142 rfl 132 rfl (fun c_129 => ?_) (fun c_129 => ?_)
            · refine qk_iconst C (0) dX0_takes_142 143 rfl rfl ?_
              exact hret _ _ _ _ dX0_takes_143 ⟨congrArg (fun x => some (Value.int x)) ((qb_f (by first | (simp [z_tk, z_lk, z_pl, z_ev, c_5, c_11, c_21, c_37, c_66_1, c_66_2, c_66_3, c_66_4, c_66_5, c_129]; done) | (simp_all [z_tk, z_lk, z_pl, z_ev]; done))).symm), rfl⟩ rfl
            · refine qk_iloadn C dX0_takes_132 133 rfl rfl 4 rfl ?_
              refine qk_bipush C (7) dX0_takes_133 135 rfl rfl ?_
              refine qk_icmp_gt C dX0_takes_135 142 rfl 138 rfl (fun c_135 => ?_) (fun c_135 => ?_)
              · refine qk_iconst C (0) dX0_takes_142 143 rfl rfl ?_
                exact hret _ _ _ _ dX0_takes_143 ⟨congrArg (fun x => some (Value.int x)) ((qb_f (by first | (simp [z_tk, z_lk, z_pl, z_ev, c_5, c_11, c_21, c_37, c_66_1, c_66_2, c_66_3, c_66_4, c_66_5, c_129, c_135]; done) | (simp_all [z_tk, z_lk, z_pl, z_ev]; done))).symm), rfl⟩ rfl
              · refine qk_iconst C (1) dX0_takes_138 139 rfl rfl ?_
                refine qk_goto C dX0_takes_139 143 rfl ?_
                exact hret _ _ _ _ dX0_takes_143 ⟨congrArg (fun x => some (Value.int x)) ((qb_t (by first | (simp [z_tk, z_lk, z_pl, z_ev, c_5, c_11, c_21, c_37, c_66_1, c_66_2, c_66_3, c_66_4, c_66_5, c_129, c_135]; done) | (simp_all [z_tk, z_lk, z_pl, z_ev]; done))).symm), rfl⟩ rfl
          refine qk_eqc (6) (fun c_66_6 => ?_) (fun c_66_6 => ?_)
          · refine qk_tableIn C dX0_takes_66 (6) c_66_6 (by decide) (by decide) rfl 144 rfl ?_
            refine qk_iloadn C dX0_takes_144 145 rfl rfl 1 rfl ?_
            refine qk_if_eq C dX0_takes_145 158 rfl 148 rfl (fun _ => ?_) (fun c => absurd rfl c)
            refine qk_iconst C (0) dX0_takes_158 159 rfl rfl ?_
            exact hret _ _ _ _ dX0_takes_159 ⟨congrArg (fun x => some (Value.int x)) ((qb_f (by first | (simp [z_tk, z_lk, z_pl, z_ev, c_5, c_11, c_21, c_37, c_66_1, c_66_2, c_66_3, c_66_4, c_66_5, c_66_6]; done) | (simp_all [z_tk, z_lk, z_pl, z_ev]; done))).symm), rfl⟩ rfl
          refine qk_tableOut C dX0_takes_66 (by have h1 := lv_neT c_66_1 (show (1 : Int32).toInt = 1 from rfl); have h2 := lv_neT c_66_2 (show (2 : Int32).toInt = 2 from rfl); have h3 := lv_neT c_66_3 (show (3 : Int32).toInt = 3 from rfl); have h4 := lv_neT c_66_4 (show (4 : Int32).toInt = 4 from rfl); have h5 := lv_neT c_66_5 (show (5 : Int32).toInt = 5 from rfl); have h6 := lv_neT c_66_6 (show (6 : Int32).toInt = 6 from rfl); omega) 160 rfl ?_
          refine qk_iloadn C dX0_takes_160 161 rfl rfl 2 rfl ?_
          exact hret _ _ _ _ dX0_takes_161 ⟨congrArg (fun x => some (Value.int x)) ((qb_f (by first | (simp [z_tk, z_lk, z_pl, z_ev, c_5, c_11, c_21, c_37, c_66_1, c_66_2, c_66_3, c_66_4, c_66_5, c_66_6]; done) | (simp_all [z_tk, z_lk, z_pl, z_ev]; done))).symm), rfl⟩ rfl
        · refine qk_iconst C (1) dX0_takes_40 41 rfl rfl ?_
          refine qk_goto C dX0_takes_41 45 rfl ?_
          refine qk_istoren C dX0_takes_45 46 rfl rfl (by decide) rfl ?_
          refine qk_iloadn C dX0_takes_46 47 rfl rfl 1 rfl ?_
          refine qk_if_eq C dX0_takes_47 59 rfl 50 rfl (fun _ => ?_) (fun c => absurd rfl c)
          refine qk_iconst C (0) dX0_takes_59 60 rfl rfl ?_
          refine qk_istore C dX0_takes_60 62 rfl (by decide) rfl ?_
          refine qk_aloadn C dX0_takes_62 63 rfl rfl 3 rfl ?_
          refine qk_get C dX0_takes_63 66 rfl qf_X0_9 _ hB.lt (qx_Fb hB _) rfl ?_
          refine qk_eqc (1) (fun c_66_1 => ?_) (fun c_66_1 => ?_)
          · refine qk_tableIn C dX0_takes_66 (1) c_66_1 (by decide) (by decide) rfl 104 rfl ?_
            refine qk_iloadn C dX0_takes_104 105 rfl rfl 1 rfl ?_
            exact hret _ _ _ _ dX0_takes_105 ⟨congrArg (fun x => some (Value.int x)) ((qb_t (by first | (simp [z_tk, z_lk, z_pl, z_ev, c_5, c_11, c_21, c_37, c_66_1]; done) | (simp_all [z_tk, z_lk, z_pl, z_ev]; done))).symm), rfl⟩ rfl
          refine qk_eqc (2) (fun c_66_2 => ?_) (fun c_66_2 => ?_)
          · refine qk_tableIn C dX0_takes_66 (2) c_66_2 (by decide) (by decide) rfl 106 rfl ?_
            refine qk_iload C dX0_takes_106 108 rfl 0 rfl ?_
            exact hret _ _ _ _ dX0_takes_108 ⟨congrArg (fun x => some (Value.int x)) ((qb_f (by first | (simp [z_tk, z_lk, z_pl, z_ev, c_5, c_11, c_21, c_37, c_66_1, c_66_2]; done) | (simp_all [z_tk, z_lk, z_pl, z_ev]; done))).symm), rfl⟩ rfl
          refine qk_eqc (3) (fun c_66_3 => ?_) (fun c_66_3 => ?_)
          · refine qk_tableIn C dX0_takes_66 (3) c_66_3 (by decide) (by decide) rfl 109 rfl ?_
            refine qk_iload C dX0_takes_109 111 rfl 0 rfl ?_
            refine qk_if_ne C dX0_takes_111 119 rfl 114 rfl (fun c => absurd rfl c) (fun _ => ?_)
            refine qk_iloadn C dX0_takes_114 115 rfl rfl 4 rfl ?_
            refine qk_iconst C (3) dX0_takes_115 116 rfl rfl ?_
            refine qk_icmp_ne C dX0_takes_116 123 rfl 119 rfl (fun c_116 => ?_) (fun c_116 => ?_)
            · refine qk_iconst C (0) dX0_takes_123 124 rfl rfl ?_
              exact hret _ _ _ _ dX0_takes_124 ⟨congrArg (fun x => some (Value.int x)) ((qb_f (by first | (simp [z_tk, z_lk, z_pl, z_ev, c_5, c_11, c_21, c_37, c_66_1, c_66_2, c_66_3, c_116]; done) | (simp_all [z_tk, z_lk, z_pl, z_ev]; done))).symm), rfl⟩ rfl
            · refine qk_iconst C (1) dX0_takes_119 120 rfl rfl ?_
              refine qk_goto C dX0_takes_120 124 rfl ?_
              exact hret _ _ _ _ dX0_takes_124 ⟨congrArg (fun x => some (Value.int x)) ((qb_t (by first | (simp [z_tk, z_lk, z_pl, z_ev, c_5, c_11, c_21, c_37, c_66_1, c_66_2, c_66_3, c_116]; done) | (simp_all [z_tk, z_lk, z_pl, z_ev]; done))).symm), rfl⟩ rfl
          refine qk_eqc (4) (fun c_66_4 => ?_) (fun c_66_4 => ?_)
          · refine qk_tableIn C dX0_takes_66 (4) c_66_4 (by decide) (by decide) rfl 125 rfl ?_
            refine qk_iconst C (1) dX0_takes_125 126 rfl rfl ?_
            exact hret _ _ _ _ dX0_takes_126 ⟨congrArg (fun x => some (Value.int x)) ((qb_t (by first | (simp [z_tk, z_lk, z_pl, z_ev, c_5, c_11, c_21, c_37, c_66_1, c_66_2, c_66_3, c_66_4]; done) | (simp_all [z_tk, z_lk, z_pl, z_ev]; done))).symm), rfl⟩ rfl
          refine qk_eqc (5) (fun c_66_5 => ?_) (fun c_66_5 => ?_)
          · refine qk_tableIn C dX0_takes_66 (5) c_66_5 (by decide) (by decide) rfl 127 rfl ?_
            refine qk_iloadn C dX0_takes_127 128 rfl rfl 4 rfl ?_
            refine qk_iconst C (2) dX0_takes_128 129 rfl rfl ?_
            refine qk_icmp_lt C dX0_takes_129 142 rfl 132 rfl (fun c_129 => ?_) (fun c_129 => ?_)
            · refine qk_iconst C (0) dX0_takes_142 143 rfl rfl ?_
              exact hret _ _ _ _ dX0_takes_143 ⟨congrArg (fun x => some (Value.int x)) ((qb_f (by first | (simp [z_tk, z_lk, z_pl, z_ev, c_5, c_11, c_21, c_37, c_66_1, c_66_2, c_66_3, c_66_4, c_66_5, c_129]; done) | (simp_all [z_tk, z_lk, z_pl, z_ev]; done))).symm), rfl⟩ rfl
            · refine qk_iloadn C dX0_takes_132 133 rfl rfl 4 rfl ?_
              refine qk_bipush C (7) dX0_takes_133 135 rfl rfl ?_
              refine qk_icmp_gt C dX0_takes_135 142 rfl 138 rfl (fun c_135 => ?_) (fun c_135 => ?_)
              · refine qk_iconst C (0) dX0_takes_142 143 rfl rfl ?_
                exact hret _ _ _ _ dX0_takes_143 ⟨congrArg (fun x => some (Value.int x)) ((qb_f (by first | (simp [z_tk, z_lk, z_pl, z_ev, c_5, c_11, c_21, c_37, c_66_1, c_66_2, c_66_3, c_66_4, c_66_5, c_129, c_135]; done) | (simp_all [z_tk, z_lk, z_pl, z_ev]; done))).symm), rfl⟩ rfl
              · refine qk_iconst C (1) dX0_takes_138 139 rfl rfl ?_
                refine qk_goto C dX0_takes_139 143 rfl ?_
                exact hret _ _ _ _ dX0_takes_143 ⟨congrArg (fun x => some (Value.int x)) ((qb_t (by first | (simp [z_tk, z_lk, z_pl, z_ev, c_5, c_11, c_21, c_37, c_66_1, c_66_2, c_66_3, c_66_4, c_66_5, c_129, c_135]; done) | (simp_all [z_tk, z_lk, z_pl, z_ev]; done))).symm), rfl⟩ rfl
          refine qk_eqc (6) (fun c_66_6 => ?_) (fun c_66_6 => ?_)
          · refine qk_tableIn C dX0_takes_66 (6) c_66_6 (by decide) (by decide) rfl 144 rfl ?_
            refine qk_iloadn C dX0_takes_144 145 rfl rfl 1 rfl ?_
            refine qk_if_eq C dX0_takes_145 158 rfl 148 rfl (fun c => absurd c (by decide)) (fun _ => ?_)
            refine qk_iloadn C dX0_takes_148 149 rfl rfl 4 rfl ?_
            refine qk_bipush C (6) dX0_takes_149 151 rfl rfl ?_
            refine qk_icmp_gt C dX0_takes_151 158 rfl 154 rfl (fun c_151 => ?_) (fun c_151 => ?_)
            · refine qk_iconst C (0) dX0_takes_158 159 rfl rfl ?_
              exact hret _ _ _ _ dX0_takes_159 ⟨congrArg (fun x => some (Value.int x)) ((qb_f (by first | (simp [z_tk, z_lk, z_pl, z_ev, c_5, c_11, c_21, c_37, c_66_1, c_66_2, c_66_3, c_66_4, c_66_5, c_66_6, c_151]; done) | (simp_all [z_tk, z_lk, z_pl, z_ev]; done))).symm), rfl⟩ rfl
            · refine qk_iconst C (1) dX0_takes_154 155 rfl rfl ?_
              refine qk_goto C dX0_takes_155 159 rfl ?_
              exact hret _ _ _ _ dX0_takes_159 ⟨congrArg (fun x => some (Value.int x)) ((qb_t (by first | (simp [z_tk, z_lk, z_pl, z_ev, c_5, c_11, c_21, c_37, c_66_1, c_66_2, c_66_3, c_66_4, c_66_5, c_66_6, c_151]; done) | (simp_all [z_tk, z_lk, z_pl, z_ev]; done))).symm), rfl⟩ rfl
          refine qk_tableOut C dX0_takes_66 (by have h1 := lv_neT c_66_1 (show (1 : Int32).toInt = 1 from rfl); have h2 := lv_neT c_66_2 (show (2 : Int32).toInt = 2 from rfl); have h3 := lv_neT c_66_3 (show (3 : Int32).toInt = 3 from rfl); have h4 := lv_neT c_66_4 (show (4 : Int32).toInt = 4 from rfl); have h5 := lv_neT c_66_5 (show (5 : Int32).toInt = 5 from rfl); have h6 := lv_neT c_66_6 (show (6 : Int32).toInt = 6 from rfl); omega) 160 rfl ?_
          refine qk_iloadn C dX0_takes_160 161 rfl rfl 2 rfl ?_
          exact hret _ _ _ _ dX0_takes_161 ⟨congrArg (fun x => some (Value.int x)) ((qb_f (by first | (simp [z_tk, z_lk, z_pl, z_ev, c_5, c_11, c_21, c_37, c_66_1, c_66_2, c_66_3, c_66_4, c_66_5, c_66_6]; done) | (simp_all [z_tk, z_lk, z_pl, z_ev]; done))).symm), rfl⟩ rfl
      · refine qk_iconst C (1) dX0_takes_24 25 rfl rfl ?_
        refine qk_goto C dX0_takes_25 29 rfl ?_
        refine qk_istoren C dX0_takes_29 30 rfl rfl (by decide) rfl ?_
        refine qk_iloadn C dX0_takes_30 31 rfl rfl 0 rfl ?_
        refine qk_if_ne C dX0_takes_31 40 rfl 34 rfl (fun _ => ?_) (fun c => absurd c (by decide))
        refine qk_iconst C (1) dX0_takes_40 41 rfl rfl ?_
        refine qk_goto C dX0_takes_41 45 rfl ?_
        refine qk_istoren C dX0_takes_45 46 rfl rfl (by decide) rfl ?_
        refine qk_iloadn C dX0_takes_46 47 rfl rfl 1 rfl ?_
        refine qk_if_eq C dX0_takes_47 59 rfl 50 rfl (fun c => absurd c (by decide)) (fun _ => ?_)
        refine qk_iloadn C dX0_takes_50 51 rfl rfl 3 rfl ?_
        refine qk_iconst C (5) dX0_takes_51 52 rfl rfl ?_
        refine qk_icmp_eq C dX0_takes_52 59 rfl 55 rfl (fun c_52 => ?_) (fun c_52 => ?_)
        · refine qk_iconst C (0) dX0_takes_59 60 rfl rfl ?_
          refine qk_istore C dX0_takes_60 62 rfl (by decide) rfl ?_
          refine qk_aloadn C dX0_takes_62 63 rfl rfl 3 rfl ?_
          refine qk_get C dX0_takes_63 66 rfl qf_X0_9 _ hB.lt (qx_Fb hB _) rfl ?_
          refine qk_eqc (1) (fun c_66_1 => ?_) (fun c_66_1 => ?_)
          · refine qk_tableIn C dX0_takes_66 (1) c_66_1 (by decide) (by decide) rfl 104 rfl ?_
            refine qk_iloadn C dX0_takes_104 105 rfl rfl 1 rfl ?_
            exact hret _ _ _ _ dX0_takes_105 ⟨congrArg (fun x => some (Value.int x)) ((qb_t (by first | (simp [z_tk, z_lk, z_pl, z_ev, c_5, c_11, c_21, c_52, c_66_1]; done) | (simp_all [z_tk, z_lk, z_pl, z_ev]; done))).symm), rfl⟩ rfl
          refine qk_eqc (2) (fun c_66_2 => ?_) (fun c_66_2 => ?_)
          · refine qk_tableIn C dX0_takes_66 (2) c_66_2 (by decide) (by decide) rfl 106 rfl ?_
            refine qk_iload C dX0_takes_106 108 rfl 0 rfl ?_
            exact hret _ _ _ _ dX0_takes_108 ⟨congrArg (fun x => some (Value.int x)) ((qb_f (by first | (simp [z_tk, z_lk, z_pl, z_ev, c_5, c_11, c_21, c_52, c_66_1, c_66_2]; done) | (simp_all [z_tk, z_lk, z_pl, z_ev]; done))).symm), rfl⟩ rfl
          refine qk_eqc (3) (fun c_66_3 => ?_) (fun c_66_3 => ?_)
          · refine qk_tableIn C dX0_takes_66 (3) c_66_3 (by decide) (by decide) rfl 109 rfl ?_
            refine qk_iload C dX0_takes_109 111 rfl 0 rfl ?_
            refine qk_if_ne C dX0_takes_111 119 rfl 114 rfl (fun c => absurd rfl c) (fun _ => ?_)
            refine qk_iloadn C dX0_takes_114 115 rfl rfl 4 rfl ?_
            refine qk_iconst C (3) dX0_takes_115 116 rfl rfl ?_
            refine qk_icmp_ne C dX0_takes_116 123 rfl 119 rfl (fun c_116 => ?_) (fun c_116 => ?_)
            · refine qk_iconst C (0) dX0_takes_123 124 rfl rfl ?_
              exact hret _ _ _ _ dX0_takes_124 ⟨congrArg (fun x => some (Value.int x)) ((qb_f (by first | (simp [z_tk, z_lk, z_pl, z_ev, c_5, c_11, c_21, c_52, c_66_1, c_66_2, c_66_3, c_116]; done) | (simp_all [z_tk, z_lk, z_pl, z_ev]; done))).symm), rfl⟩ rfl
            · refine qk_iconst C (1) dX0_takes_119 120 rfl rfl ?_
              refine qk_goto C dX0_takes_120 124 rfl ?_
              exact hret _ _ _ _ dX0_takes_124 ⟨congrArg (fun x => some (Value.int x)) ((qb_t (by first | (simp [z_tk, z_lk, z_pl, z_ev, c_5, c_11, c_21, c_52, c_66_1, c_66_2, c_66_3, c_116]; done) | (simp_all [z_tk, z_lk, z_pl, z_ev]; done))).symm), rfl⟩ rfl
          refine qk_eqc (4) (fun c_66_4 => ?_) (fun c_66_4 => ?_)
          · refine qk_tableIn C dX0_takes_66 (4) c_66_4 (by decide) (by decide) rfl 125 rfl ?_
            refine qk_iconst C (1) dX0_takes_125 126 rfl rfl ?_
            exact hret _ _ _ _ dX0_takes_126 ⟨congrArg (fun x => some (Value.int x)) ((qb_t (by first | (simp [z_tk, z_lk, z_pl, z_ev, c_5, c_11, c_21, c_52, c_66_1, c_66_2, c_66_3, c_66_4]; done) | (simp_all [z_tk, z_lk, z_pl, z_ev]; done))).symm), rfl⟩ rfl
          refine qk_eqc (5) (fun c_66_5 => ?_) (fun c_66_5 => ?_)
          · refine qk_tableIn C dX0_takes_66 (5) c_66_5 (by decide) (by decide) rfl 127 rfl ?_
            refine qk_iloadn C dX0_takes_127 128 rfl rfl 4 rfl ?_
            refine qk_iconst C (2) dX0_takes_128 129 rfl rfl ?_
            refine qk_icmp_lt C dX0_takes_129 142 rfl 132 rfl (fun c_129 => ?_) (fun c_129 => ?_)
            · refine qk_iconst C (0) dX0_takes_142 143 rfl rfl ?_
              exact hret _ _ _ _ dX0_takes_143 ⟨congrArg (fun x => some (Value.int x)) ((qb_f (by first | (simp [z_tk, z_lk, z_pl, z_ev, c_5, c_11, c_21, c_52, c_66_1, c_66_2, c_66_3, c_66_4, c_66_5, c_129]; done) | (simp_all [z_tk, z_lk, z_pl, z_ev]; done))).symm), rfl⟩ rfl
            · refine qk_iloadn C dX0_takes_132 133 rfl rfl 4 rfl ?_
              refine qk_bipush C (7) dX0_takes_133 135 rfl rfl ?_
              refine qk_icmp_gt C dX0_takes_135 142 rfl 138 rfl (fun c_135 => ?_) (fun c_135 => ?_)
              · refine qk_iconst C (0) dX0_takes_142 143 rfl rfl ?_
                exact hret _ _ _ _ dX0_takes_143 ⟨congrArg (fun x => some (Value.int x)) ((qb_f (by first | (simp [z_tk, z_lk, z_pl, z_ev, c_5, c_11, c_21, c_52, c_66_1, c_66_2, c_66_3, c_66_4, c_66_5, c_129, c_135]; done) | (simp_all [z_tk, z_lk, z_pl, z_ev]; done))).symm), rfl⟩ rfl
              · refine qk_iconst C (1) dX0_takes_138 139 rfl rfl ?_
                refine qk_goto C dX0_takes_139 143 rfl ?_
                exact hret _ _ _ _ dX0_takes_143 ⟨congrArg (fun x => some (Value.int x)) ((qb_t (by first | (simp [z_tk, z_lk, z_pl, z_ev, c_5, c_11, c_21, c_52, c_66_1, c_66_2, c_66_3, c_66_4, c_66_5, c_129, c_135]; done) | (simp_all [z_tk, z_lk, z_pl, z_ev]; done))).symm), rfl⟩ rfl
          refine qk_eqc (6) (fun c_66_6 => ?_) (fun c_66_6 => ?_)
          · refine qk_tableIn C dX0_takes_66 (6) c_66_6 (by decide) (by decide) rfl 144 rfl ?_
            refine qk_iloadn C dX0_takes_144 145 rfl rfl 1 rfl ?_
            refine qk_if_eq C dX0_takes_145 158 rfl 148 rfl (fun c => absurd c (by decide)) (fun _ => ?_)
            refine qk_iloadn C dX0_takes_148 149 rfl rfl 4 rfl ?_
            refine qk_bipush C (6) dX0_takes_149 151 rfl rfl ?_
            refine qk_icmp_gt C dX0_takes_151 158 rfl 154 rfl (fun c_151 => ?_) (fun c_151 => ?_)
            · refine qk_iconst C (0) dX0_takes_158 159 rfl rfl ?_
              exact hret _ _ _ _ dX0_takes_159 ⟨congrArg (fun x => some (Value.int x)) ((qb_f (by first | (simp [z_tk, z_lk, z_pl, z_ev, c_5, c_11, c_21, c_52, c_66_1, c_66_2, c_66_3, c_66_4, c_66_5, c_66_6, c_151]; done) | (simp_all [z_tk, z_lk, z_pl, z_ev]; done))).symm), rfl⟩ rfl
            · refine qk_iconst C (1) dX0_takes_154 155 rfl rfl ?_
              refine qk_goto C dX0_takes_155 159 rfl ?_
              exact hret _ _ _ _ dX0_takes_159 ⟨congrArg (fun x => some (Value.int x)) ((qb_t (by first | (simp [z_tk, z_lk, z_pl, z_ev, c_5, c_11, c_21, c_52, c_66_1, c_66_2, c_66_3, c_66_4, c_66_5, c_66_6, c_151]; done) | (simp_all [z_tk, z_lk, z_pl, z_ev]; done))).symm), rfl⟩ rfl
          refine qk_tableOut C dX0_takes_66 (by have h1 := lv_neT c_66_1 (show (1 : Int32).toInt = 1 from rfl); have h2 := lv_neT c_66_2 (show (2 : Int32).toInt = 2 from rfl); have h3 := lv_neT c_66_3 (show (3 : Int32).toInt = 3 from rfl); have h4 := lv_neT c_66_4 (show (4 : Int32).toInt = 4 from rfl); have h5 := lv_neT c_66_5 (show (5 : Int32).toInt = 5 from rfl); have h6 := lv_neT c_66_6 (show (6 : Int32).toInt = 6 from rfl); omega) 160 rfl ?_
          refine qk_iloadn C dX0_takes_160 161 rfl rfl 2 rfl ?_
          exact hret _ _ _ _ dX0_takes_161 ⟨congrArg (fun x => some (Value.int x)) ((qb_t (by first | (simp [z_tk, z_lk, z_pl, z_ev, c_5, c_11, c_21, c_52, c_66_1, c_66_2, c_66_3, c_66_4, c_66_5, c_66_6]; done) | (simp_all [z_tk, z_lk, z_pl, z_ev]; done))).symm), rfl⟩ rfl
        · refine qk_iconst C (1) dX0_takes_55 56 rfl rfl ?_
          refine qk_goto C dX0_takes_56 60 rfl ?_
          refine qk_istore C dX0_takes_60 62 rfl (by decide) rfl ?_
          refine qk_aloadn C dX0_takes_62 63 rfl rfl 3 rfl ?_
          refine qk_get C dX0_takes_63 66 rfl qf_X0_9 _ hB.lt (qx_Fb hB _) rfl ?_
          refine qk_eqc (1) (fun c_66_1 => ?_) (fun c_66_1 => ?_)
          · refine qk_tableIn C dX0_takes_66 (1) c_66_1 (by decide) (by decide) rfl 104 rfl ?_
            refine qk_iloadn C dX0_takes_104 105 rfl rfl 1 rfl ?_
            exact hret _ _ _ _ dX0_takes_105 ⟨congrArg (fun x => some (Value.int x)) ((qb_t (by first | (simp [z_tk, z_lk, z_pl, z_ev, c_5, c_11, c_21, c_52, c_66_1]; done) | (simp_all [z_tk, z_lk, z_pl, z_ev]; done))).symm), rfl⟩ rfl
          refine qk_eqc (2) (fun c_66_2 => ?_) (fun c_66_2 => ?_)
          · refine qk_tableIn C dX0_takes_66 (2) c_66_2 (by decide) (by decide) rfl 106 rfl ?_
            refine qk_iload C dX0_takes_106 108 rfl 0 rfl ?_
            exact hret _ _ _ _ dX0_takes_108 ⟨congrArg (fun x => some (Value.int x)) ((qb_t (by first | (simp [z_tk, z_lk, z_pl, z_ev, c_5, c_11, c_21, c_52, c_66_1, c_66_2]; done) | (simp_all [z_tk, z_lk, z_pl, z_ev]; done))).symm), rfl⟩ rfl
          refine qk_eqc (3) (fun c_66_3 => ?_) (fun c_66_3 => ?_)
          · refine qk_tableIn C dX0_takes_66 (3) c_66_3 (by decide) (by decide) rfl 109 rfl ?_
            refine qk_iload C dX0_takes_109 111 rfl 0 rfl ?_
            refine qk_if_ne C dX0_takes_111 119 rfl 114 rfl (fun _ => ?_) (fun c => absurd c (by decide))
            refine qk_iconst C (1) dX0_takes_119 120 rfl rfl ?_
            refine qk_goto C dX0_takes_120 124 rfl ?_
            exact hret _ _ _ _ dX0_takes_124 ⟨congrArg (fun x => some (Value.int x)) ((qb_t (by first | (simp [z_tk, z_lk, z_pl, z_ev, c_5, c_11, c_21, c_52, c_66_1, c_66_2, c_66_3]; done) | (simp_all [z_tk, z_lk, z_pl, z_ev]; done))).symm), rfl⟩ rfl
          refine qk_eqc (4) (fun c_66_4 => ?_) (fun c_66_4 => ?_)
          · refine qk_tableIn C dX0_takes_66 (4) c_66_4 (by decide) (by decide) rfl 125 rfl ?_
            refine qk_iconst C (1) dX0_takes_125 126 rfl rfl ?_
            exact hret _ _ _ _ dX0_takes_126 ⟨congrArg (fun x => some (Value.int x)) ((qb_t (by first | (simp [z_tk, z_lk, z_pl, z_ev, c_5, c_11, c_21, c_52, c_66_1, c_66_2, c_66_3, c_66_4]; done) | (simp_all [z_tk, z_lk, z_pl, z_ev]; done))).symm), rfl⟩ rfl
          refine qk_eqc (5) (fun c_66_5 => ?_) (fun c_66_5 => ?_)
          · refine qk_tableIn C dX0_takes_66 (5) c_66_5 (by decide) (by decide) rfl 127 rfl ?_
            refine qk_iloadn C dX0_takes_127 128 rfl rfl 4 rfl ?_
            refine qk_iconst C (2) dX0_takes_128 129 rfl rfl ?_
            refine qk_icmp_lt C dX0_takes_129 142 rfl 132 rfl (fun c_129 => ?_) (fun c_129 => ?_)
            · refine qk_iconst C (0) dX0_takes_142 143 rfl rfl ?_
              exact hret _ _ _ _ dX0_takes_143 ⟨congrArg (fun x => some (Value.int x)) ((qb_f (by first | (simp [z_tk, z_lk, z_pl, z_ev, c_5, c_11, c_21, c_52, c_66_1, c_66_2, c_66_3, c_66_4, c_66_5, c_129]; done) | (simp_all [z_tk, z_lk, z_pl, z_ev]; done))).symm), rfl⟩ rfl
            · refine qk_iloadn C dX0_takes_132 133 rfl rfl 4 rfl ?_
              refine qk_bipush C (7) dX0_takes_133 135 rfl rfl ?_
              refine qk_icmp_gt C dX0_takes_135 142 rfl 138 rfl (fun c_135 => ?_) (fun c_135 => ?_)
              · refine qk_iconst C (0) dX0_takes_142 143 rfl rfl ?_
                exact hret _ _ _ _ dX0_takes_143 ⟨congrArg (fun x => some (Value.int x)) ((qb_f (by first | (simp [z_tk, z_lk, z_pl, z_ev, c_5, c_11, c_21, c_52, c_66_1, c_66_2, c_66_3, c_66_4, c_66_5, c_129, c_135]; done) | (simp_all [z_tk, z_lk, z_pl, z_ev]; done))).symm), rfl⟩ rfl
              · refine qk_iconst C (1) dX0_takes_138 139 rfl rfl ?_
                refine qk_goto C dX0_takes_139 143 rfl ?_
                exact hret _ _ _ _ dX0_takes_143 ⟨congrArg (fun x => some (Value.int x)) ((qb_t (by first | (simp [z_tk, z_lk, z_pl, z_ev, c_5, c_11, c_21, c_52, c_66_1, c_66_2, c_66_3, c_66_4, c_66_5, c_129, c_135]; done) | (simp_all [z_tk, z_lk, z_pl, z_ev]; done))).symm), rfl⟩ rfl
          refine qk_eqc (6) (fun c_66_6 => ?_) (fun c_66_6 => ?_)
          · refine qk_tableIn C dX0_takes_66 (6) c_66_6 (by decide) (by decide) rfl 144 rfl ?_
            refine qk_iloadn C dX0_takes_144 145 rfl rfl 1 rfl ?_
            refine qk_if_eq C dX0_takes_145 158 rfl 148 rfl (fun c => absurd c (by decide)) (fun _ => ?_)
            refine qk_iloadn C dX0_takes_148 149 rfl rfl 4 rfl ?_
            refine qk_bipush C (6) dX0_takes_149 151 rfl rfl ?_
            refine qk_icmp_gt C dX0_takes_151 158 rfl 154 rfl (fun c_151 => ?_) (fun c_151 => ?_)
            · refine qk_iconst C (0) dX0_takes_158 159 rfl rfl ?_
              exact hret _ _ _ _ dX0_takes_159 ⟨congrArg (fun x => some (Value.int x)) ((qb_f (by first | (simp [z_tk, z_lk, z_pl, z_ev, c_5, c_11, c_21, c_52, c_66_1, c_66_2, c_66_3, c_66_4, c_66_5, c_66_6, c_151]; done) | (simp_all [z_tk, z_lk, z_pl, z_ev]; done))).symm), rfl⟩ rfl
            · refine qk_iconst C (1) dX0_takes_154 155 rfl rfl ?_
              refine qk_goto C dX0_takes_155 159 rfl ?_
              exact hret _ _ _ _ dX0_takes_159 ⟨congrArg (fun x => some (Value.int x)) ((qb_t (by first | (simp [z_tk, z_lk, z_pl, z_ev, c_5, c_11, c_21, c_52, c_66_1, c_66_2, c_66_3, c_66_4, c_66_5, c_66_6, c_151]; done) | (simp_all [z_tk, z_lk, z_pl, z_ev]; done))).symm), rfl⟩ rfl
          refine qk_tableOut C dX0_takes_66 (by have h1 := lv_neT c_66_1 (show (1 : Int32).toInt = 1 from rfl); have h2 := lv_neT c_66_2 (show (2 : Int32).toInt = 2 from rfl); have h3 := lv_neT c_66_3 (show (3 : Int32).toInt = 3 from rfl); have h4 := lv_neT c_66_4 (show (4 : Int32).toInt = 4 from rfl); have h5 := lv_neT c_66_5 (show (5 : Int32).toInt = 5 from rfl); have h6 := lv_neT c_66_6 (show (6 : Int32).toInt = 6 from rfl); omega) 160 rfl ?_
          refine qk_iloadn C dX0_takes_160 161 rfl rfl 2 rfl ?_
          exact hret _ _ _ _ dX0_takes_161 ⟨congrArg (fun x => some (Value.int x)) ((qb_t (by first | (simp [z_tk, z_lk, z_pl, z_ev, c_5, c_11, c_21, c_52, c_66_1, c_66_2, c_66_3, c_66_4, c_66_5, c_66_6]; done) | (simp_all [z_tk, z_lk, z_pl, z_ev]; done))).symm), rfl⟩ rfl
  · refine qk_iconst C (0) dX0_takes_8 9 rfl rfl ?_
    exact hret _ _ _ _ dX0_takes_9 ⟨congrArg (fun x => some (Value.int x)) ((qb_f (by first | (simp [z_tk, z_lk, z_pl, z_ev, c_5]; done) | (simp_all [z_tk, z_lk, z_pl, z_ev]; done))).symm), rfl⟩ rfl

theorem c_X0_yearnsMore (l : Launch) (G : qx_G) (k : Nat) (hB : qx_isB k) (σ : qx_Sg) : qx_Ct l G yX0_yearnsMore cX0_yearnsMore 5 (some .int) 1 21 [.ref (qx_ad G k)] (σ) (qx_pi (z_yn (σ k 0) (σ k 2)) (σ)) := by
  refine qx_of .int (lo := [(0, .ref (qx_ad G k))]) (by decide +kernel) (Nat.le_of_ble_eq_true rfl) rfl (fun Δ (C : qx_C G Δ cX0_yearnsMore RX0 5 1 21) hret => ?_)
  refine qk_bipush C (12) dX0_yearnsMore_0 2 rfl rfl ?_
  refine qk_aloadn C dX0_yearnsMore_2 3 rfl rfl 0 rfl ?_
  refine qk_get C dX0_yearnsMore_3 6 rfl qf_X0_18 _ hB.lt (qx_Fb hB _) rfl ?_
  refine qk_callS C dX0_yearnsMore_6 9 rfl ql_X0_54 qc_J6_bitCount_0f7a4 (c_J6_bitCount_0f7a4 l G _ _) rfl rfl (Nat.le_of_ble_eq_true rfl) ⟨(Nat.le_of_ble_eq_true rfl), (Nat.le_of_ble_eq_true rfl)⟩ (qx_Ki ?_)
  refine qk_isub C dX0_yearnsMore_9 10 rfl ?_
  refine qk_iconst C (3) dX0_yearnsMore_10 11 rfl rfl ?_
  refine qk_idiv C dX0_yearnsMore_11 12 rfl (by decide) ?_
  refine qk_istoren C dX0_yearnsMore_12 13 rfl rfl (by decide) rfl ?_
  refine qk_iloadn C dX0_yearnsMore_13 14 rfl rfl 0 rfl ?_
  refine qk_iconst C (1) dX0_yearnsMore_14 15 rfl rfl ?_
  refine qk_iadd C dX0_yearnsMore_15 16 rfl ?_
  refine qk_istoren C dX0_yearnsMore_16 17 rfl rfl (by decide) rfl ?_
  refine qk_aloadn C dX0_yearnsMore_17 18 rfl rfl 2 rfl ?_
  refine qk_bipush C (8) dX0_yearnsMore_18 20 rfl rfl ?_
  refine qk_callV C dX0_yearnsMore_20 23 rfl ql_X0_50 qc_X0_hasPart _ hB.lt (qx_Fb hB _) rfl (c_X0_hasPart l G _ hB _ _) rfl rfl (Nat.le_of_ble_eq_true rfl) ⟨(Nat.le_of_ble_eq_true rfl), (Nat.le_of_ble_eq_true rfl)⟩ (qx_Ki ?_)
  refine qk_if_eqB C dX0_yearnsMore_23 30 rfl 26 rfl (fun c_23 => ?_) (fun c_23 => ?_)
  · refine qk_iloadn C dX0_yearnsMore_30 31 rfl rfl 1 rfl ?_
    refine qk_istoren C dX0_yearnsMore_31 32 rfl rfl (by decide) rfl ?_
    refine qk_iloadn C dX0_yearnsMore_32 33 rfl rfl 0 rfl ?_
    refine qk_iconst C (1) dX0_yearnsMore_33 34 rfl rfl ?_
    refine qk_iadd C dX0_yearnsMore_34 35 rfl ?_
    refine qk_istore C dX0_yearnsMore_35 37 rfl (by decide) rfl ?_
    refine qk_aloadn C dX0_yearnsMore_37 38 rfl rfl 4 rfl ?_
    refine qk_get C dX0_yearnsMore_38 41 rfl qf_X0_9 _ hB.lt (qx_Fb hB _) rfl ?_
    refine qk_eqc (1) (fun c_41_1 => ?_) (fun c_41_1 => ?_)
    · refine qk_tableIn C dX0_yearnsMore_41 (1) c_41_1 (by decide) (by decide) rfl 80 rfl ?_
      refine qk_iloadn C dX0_yearnsMore_80 81 rfl rfl 2 rfl ?_
      exact hret _ _ _ _ dX0_yearnsMore_81 ⟨congrArg (fun x => some (Value.int x)) (by first | rfl | (simp [z_yn, z_y2, z_y0, z_sel, c_23, c_41_1]; done) | (simp [z_yn, z_y2, z_y0, z_sel, c_23, c_41_1]; decide) | (simp [z_yn, z_y2, z_y0, z_sel, c_23, c_41_1]; rfl) | (simp_all [z_yn, z_y2, z_y0, z_sel]; done)), rfl⟩ rfl
    refine qk_eqc (2) (fun c_41_2 => ?_) (fun c_41_2 => ?_)
    · refine qk_tableIn C dX0_yearnsMore_41 (2) c_41_2 (by decide) (by decide) rfl 82 rfl ?_
      refine qk_iloadn C dX0_yearnsMore_82 83 rfl rfl 1 rfl ?_
      exact hret _ _ _ _ dX0_yearnsMore_83 ⟨congrArg (fun x => some (Value.int x)) (by first | rfl | (simp [z_yn, z_y2, z_y0, z_sel, c_23, c_41_1, c_41_2]; done) | (simp [z_yn, z_y2, z_y0, z_sel, c_23, c_41_1, c_41_2]; decide) | (simp [z_yn, z_y2, z_y0, z_sel, c_23, c_41_1, c_41_2]; rfl) | (simp_all [z_yn, z_y2, z_y0, z_sel]; done)), rfl⟩ rfl
    refine qk_eqc (3) (fun c_41_3 => ?_) (fun c_41_3 => ?_)
    · refine qk_tableIn C dX0_yearnsMore_41 (3) c_41_3 (by decide) (by decide) rfl 84 rfl ?_
      refine qk_iload C dX0_yearnsMore_84 86 rfl 0 rfl ?_
      exact hret _ _ _ _ dX0_yearnsMore_86 ⟨congrArg (fun x => some (Value.int x)) (by first | rfl | (simp [z_yn, z_y2, z_y0, z_sel, c_23, c_41_1, c_41_2, c_41_3]; done) | (simp [z_yn, z_y2, z_y0, z_sel, c_23, c_41_1, c_41_2, c_41_3]; decide) | (simp [z_yn, z_y2, z_y0, z_sel, c_23, c_41_1, c_41_2, c_41_3]; rfl) | (simp_all [z_yn, z_y2, z_y0, z_sel]; done)), rfl⟩ rfl
    refine qk_eqc (4) (fun c_41_4 => ?_) (fun c_41_4 => ?_)
    · refine qk_tableIn C dX0_yearnsMore_41 (4) c_41_4 (by decide) (by decide) rfl 87 rfl ?_
      refine qk_iconst C (0) dX0_yearnsMore_87 88 rfl rfl ?_
      refine qk_iload C dX0_yearnsMore_88 90 rfl 0 rfl ?_
      refine qk_aloadn C dX0_yearnsMore_90 91 rfl rfl 4 rfl ?_
      refine qk_get C dX0_yearnsMore_91 94 rfl qf_X0_18 _ hB.lt (qx_Fb hB _) rfl ?_
      refine qk_bipush C (24) dX0_yearnsMore_94 96 rfl rfl ?_
      refine qk_iand C dX0_yearnsMore_96 97 rfl ?_
      refine qk_callS C dX0_yearnsMore_97 100 rfl ql_X0_54 qc_J6_bitCount_0f7a4 (c_J6_bitCount_0f7a4 l G _ _) rfl rfl (Nat.le_of_ble_eq_true rfl) ⟨(Nat.le_of_ble_eq_true rfl), (Nat.le_of_ble_eq_true rfl)⟩ (qx_Ki ?_)
      refine qk_isub C dX0_yearnsMore_100 101 rfl ?_
      refine qk_max C dX0_yearnsMore_101 104 rfl ql_X0_60 ⟨(Nat.le_of_ble_eq_true rfl), (Nat.le_of_ble_eq_true rfl)⟩ ?_
      exact hret _ _ _ _ dX0_yearnsMore_104 ⟨congrArg (fun x => some (Value.int x)) (by first | rfl | (simp [z_yn, z_y2, z_y0, z_sel, c_23, c_41_1, c_41_2, c_41_3, c_41_4]; done) | (simp [z_yn, z_y2, z_y0, z_sel, c_23, c_41_1, c_41_2, c_41_3, c_41_4]; decide) | (simp [z_yn, z_y2, z_y0, z_sel, c_23, c_41_1, c_41_2, c_41_3, c_41_4]; rfl) | (simp_all [z_yn, z_y2, z_y0, z_sel]; done)), rfl⟩ rfl
    refine qk_eqc (5) (fun c_41_5 => ?_) (fun c_41_5 => ?_)
    · refine qk_tableIn C dX0_yearnsMore_41 (5) c_41_5 (by decide) (by decide) rfl 105 rfl ?_
      refine qk_iconst C (1) dX0_yearnsMore_105 106 rfl rfl ?_
      exact hret _ _ _ _ dX0_yearnsMore_106 ⟨congrArg (fun x => some (Value.int x)) (by first | rfl | (simp [z_yn, z_y2, z_y0, z_sel, c_23, c_41_1, c_41_2, c_41_3, c_41_4, c_41_5]; done) | (simp [z_yn, z_y2, z_y0, z_sel, c_23, c_41_1, c_41_2, c_41_3, c_41_4, c_41_5]; decide) | (simp [z_yn, z_y2, z_y0, z_sel, c_23, c_41_1, c_41_2, c_41_3, c_41_4, c_41_5]; rfl) | (simp_all [z_yn, z_y2, z_y0, z_sel]; done)), rfl⟩ rfl
    refine qk_eqc (6) (fun c_41_6 => ?_) (fun c_41_6 => ?_)
    · refine qk_tableIn C dX0_yearnsMore_41 (6) c_41_6 (by decide) (by decide) rfl 107 rfl ?_
      refine qk_iconst C (2) dX0_yearnsMore_107 108 rfl rfl ?_
      refine qk_iloadn C dX0_yearnsMore_108 109 rfl rfl 2 rfl ?_
      refine qk_imul C dX0_yearnsMore_109 110 rfl ?_
      exact hret _ _ _ _ dX0_yearnsMore_110 ⟨congrArg (fun x => some (Value.int x)) (by first | rfl | (simp [z_yn, z_y2, z_y0, z_sel, c_23, c_41_1, c_41_2, c_41_3, c_41_4, c_41_5, c_41_6]; done) | (simp [z_yn, z_y2, z_y0, z_sel, c_23, c_41_1, c_41_2, c_41_3, c_41_4, c_41_5, c_41_6]; decide) | (simp [z_yn, z_y2, z_y0, z_sel, c_23, c_41_1, c_41_2, c_41_3, c_41_4, c_41_5, c_41_6]; rfl) | (simp_all [z_yn, z_y2, z_y0, z_sel]; done)), rfl⟩ rfl
    refine qk_tableOut C dX0_yearnsMore_41 (by have h1 := lv_neT c_41_1 (show (1 : Int32).toInt = 1 from rfl); have h2 := lv_neT c_41_2 (show (2 : Int32).toInt = 2 from rfl); have h3 := lv_neT c_41_3 (show (3 : Int32).toInt = 3 from rfl); have h4 := lv_neT c_41_4 (show (4 : Int32).toInt = 4 from rfl); have h5 := lv_neT c_41_5 (show (5 : Int32).toInt = 5 from rfl); have h6 := lv_neT c_41_6 (show (6 : Int32).toInt = 6 from rfl); omega) 111 rfl ?_
    refine qk_iloadn C dX0_yearnsMore_111 112 rfl rfl 3 rfl ?_
    exact hret _ _ _ _ dX0_yearnsMore_112 ⟨congrArg (fun x => some (Value.int x)) (by first | rfl | (simp [z_yn, z_y2, z_y0, z_sel, c_23, c_41_1, c_41_2, c_41_3, c_41_4, c_41_5, c_41_6]; done) | (simp [z_yn, z_y2, z_y0, z_sel, c_23, c_41_1, c_41_2, c_41_3, c_41_4, c_41_5, c_41_6]; decide) | (simp [z_yn, z_y2, z_y0, z_sel, c_23, c_41_1, c_41_2, c_41_3, c_41_4, c_41_5, c_41_6]; rfl) | (simp_all [z_yn, z_y2, z_y0, z_sel]; done)), rfl⟩ rfl
  · refine qk_iconst C (0) dX0_yearnsMore_26 27 rfl rfl ?_
    refine qk_goto C dX0_yearnsMore_27 31 rfl ?_
    refine qk_istoren C dX0_yearnsMore_31 32 rfl rfl (by decide) rfl ?_
    refine qk_iloadn C dX0_yearnsMore_32 33 rfl rfl 0 rfl ?_
    refine qk_iconst C (1) dX0_yearnsMore_33 34 rfl rfl ?_
    refine qk_iadd C dX0_yearnsMore_34 35 rfl ?_
    refine qk_istore C dX0_yearnsMore_35 37 rfl (by decide) rfl ?_
    refine qk_aloadn C dX0_yearnsMore_37 38 rfl rfl 4 rfl ?_
    refine qk_get C dX0_yearnsMore_38 41 rfl qf_X0_9 _ hB.lt (qx_Fb hB _) rfl ?_
    refine qk_eqc (1) (fun c_41_1 => ?_) (fun c_41_1 => ?_)
    · refine qk_tableIn C dX0_yearnsMore_41 (1) c_41_1 (by decide) (by decide) rfl 80 rfl ?_
      refine qk_iloadn C dX0_yearnsMore_80 81 rfl rfl 2 rfl ?_
      exact hret _ _ _ _ dX0_yearnsMore_81 ⟨congrArg (fun x => some (Value.int x)) (by first | rfl | (simp [z_yn, z_y2, z_y0, z_sel, c_23, c_41_1]; done) | (simp [z_yn, z_y2, z_y0, z_sel, c_23, c_41_1]; decide) | (simp [z_yn, z_y2, z_y0, z_sel, c_23, c_41_1]; rfl) | (simp_all [z_yn, z_y2, z_y0, z_sel]; done)), rfl⟩ rfl
    refine qk_eqc (2) (fun c_41_2 => ?_) (fun c_41_2 => ?_)
    · refine qk_tableIn C dX0_yearnsMore_41 (2) c_41_2 (by decide) (by decide) rfl 82 rfl ?_
      refine qk_iloadn C dX0_yearnsMore_82 83 rfl rfl 1 rfl ?_
      exact hret _ _ _ _ dX0_yearnsMore_83 ⟨congrArg (fun x => some (Value.int x)) (by first | rfl | (simp [z_yn, z_y2, z_y0, z_sel, c_23, c_41_1, c_41_2]; done) | (simp [z_yn, z_y2, z_y0, z_sel, c_23, c_41_1, c_41_2]; decide) | (simp [z_yn, z_y2, z_y0, z_sel, c_23, c_41_1, c_41_2]; rfl) | (simp_all [z_yn, z_y2, z_y0, z_sel]; done)), rfl⟩ rfl
    refine qk_eqc (3) (fun c_41_3 => ?_) (fun c_41_3 => ?_)
    · refine qk_tableIn C dX0_yearnsMore_41 (3) c_41_3 (by decide) (by decide) rfl 84 rfl ?_
      refine qk_iload C dX0_yearnsMore_84 86 rfl 0 rfl ?_
      exact hret _ _ _ _ dX0_yearnsMore_86 ⟨congrArg (fun x => some (Value.int x)) (by first | rfl | (simp [z_yn, z_y2, z_y0, z_sel, c_23, c_41_1, c_41_2, c_41_3]; done) | (simp [z_yn, z_y2, z_y0, z_sel, c_23, c_41_1, c_41_2, c_41_3]; decide) | (simp [z_yn, z_y2, z_y0, z_sel, c_23, c_41_1, c_41_2, c_41_3]; rfl) | (simp_all [z_yn, z_y2, z_y0, z_sel]; done)), rfl⟩ rfl
    refine qk_eqc (4) (fun c_41_4 => ?_) (fun c_41_4 => ?_)
    · refine qk_tableIn C dX0_yearnsMore_41 (4) c_41_4 (by decide) (by decide) rfl 87 rfl ?_
      refine qk_iconst C (0) dX0_yearnsMore_87 88 rfl rfl ?_
      refine qk_iload C dX0_yearnsMore_88 90 rfl 0 rfl ?_
      refine qk_aloadn C dX0_yearnsMore_90 91 rfl rfl 4 rfl ?_
      refine qk_get C dX0_yearnsMore_91 94 rfl qf_X0_18 _ hB.lt (qx_Fb hB _) rfl ?_
      refine qk_bipush C (24) dX0_yearnsMore_94 96 rfl rfl ?_
      refine qk_iand C dX0_yearnsMore_96 97 rfl ?_
      refine qk_callS C dX0_yearnsMore_97 100 rfl ql_X0_54 qc_J6_bitCount_0f7a4 (c_J6_bitCount_0f7a4 l G _ _) rfl rfl (Nat.le_of_ble_eq_true rfl) ⟨(Nat.le_of_ble_eq_true rfl), (Nat.le_of_ble_eq_true rfl)⟩ (qx_Ki ?_)
      refine qk_isub C dX0_yearnsMore_100 101 rfl ?_
      refine qk_max C dX0_yearnsMore_101 104 rfl ql_X0_60 ⟨(Nat.le_of_ble_eq_true rfl), (Nat.le_of_ble_eq_true rfl)⟩ ?_
      exact hret _ _ _ _ dX0_yearnsMore_104 ⟨congrArg (fun x => some (Value.int x)) (by first | rfl | (simp [z_yn, z_y2, z_y0, z_sel, c_23, c_41_1, c_41_2, c_41_3, c_41_4]; done) | (simp [z_yn, z_y2, z_y0, z_sel, c_23, c_41_1, c_41_2, c_41_3, c_41_4]; decide) | (simp [z_yn, z_y2, z_y0, z_sel, c_23, c_41_1, c_41_2, c_41_3, c_41_4]; rfl) | (simp_all [z_yn, z_y2, z_y0, z_sel]; done)), rfl⟩ rfl
    refine qk_eqc (5) (fun c_41_5 => ?_) (fun c_41_5 => ?_)
    · refine qk_tableIn C dX0_yearnsMore_41 (5) c_41_5 (by decide) (by decide) rfl 105 rfl ?_
      refine qk_iconst C (1) dX0_yearnsMore_105 106 rfl rfl ?_
      exact hret _ _ _ _ dX0_yearnsMore_106 ⟨congrArg (fun x => some (Value.int x)) (by first | rfl | (simp [z_yn, z_y2, z_y0, z_sel, c_23, c_41_1, c_41_2, c_41_3, c_41_4, c_41_5]; done) | (simp [z_yn, z_y2, z_y0, z_sel, c_23, c_41_1, c_41_2, c_41_3, c_41_4, c_41_5]; decide) | (simp [z_yn, z_y2, z_y0, z_sel, c_23, c_41_1, c_41_2, c_41_3, c_41_4, c_41_5]; rfl) | (simp_all [z_yn, z_y2, z_y0, z_sel]; done)), rfl⟩ rfl
    refine qk_eqc (6) (fun c_41_6 => ?_) (fun c_41_6 => ?_)
    · refine qk_tableIn C dX0_yearnsMore_41 (6) c_41_6 (by decide) (by decide) rfl 107 rfl ?_
      refine qk_iconst C (2) dX0_yearnsMore_107 108 rfl rfl ?_
      refine qk_iloadn C dX0_yearnsMore_108 109 rfl rfl 2 rfl ?_
      refine qk_imul C dX0_yearnsMore_109 110 rfl ?_
      exact hret _ _ _ _ dX0_yearnsMore_110 ⟨congrArg (fun x => some (Value.int x)) (by first | rfl | (simp [z_yn, z_y2, z_y0, z_sel, c_23, c_41_1, c_41_2, c_41_3, c_41_4, c_41_5, c_41_6]; done) | (simp [z_yn, z_y2, z_y0, z_sel, c_23, c_41_1, c_41_2, c_41_3, c_41_4, c_41_5, c_41_6]; decide) | (simp [z_yn, z_y2, z_y0, z_sel, c_23, c_41_1, c_41_2, c_41_3, c_41_4, c_41_5, c_41_6]; rfl) | (simp_all [z_yn, z_y2, z_y0, z_sel]; done)), rfl⟩ rfl
    refine qk_tableOut C dX0_yearnsMore_41 (by have h1 := lv_neT c_41_1 (show (1 : Int32).toInt = 1 from rfl); have h2 := lv_neT c_41_2 (show (2 : Int32).toInt = 2 from rfl); have h3 := lv_neT c_41_3 (show (3 : Int32).toInt = 3 from rfl); have h4 := lv_neT c_41_4 (show (4 : Int32).toInt = 4 from rfl); have h5 := lv_neT c_41_5 (show (5 : Int32).toInt = 5 from rfl); have h6 := lv_neT c_41_6 (show (6 : Int32).toInt = 6 from rfl); omega) 111 rfl ?_
    refine qk_iloadn C dX0_yearnsMore_111 112 rfl rfl 3 rfl ?_
    exact hret _ _ _ _ dX0_yearnsMore_112 ⟨congrArg (fun x => some (Value.int x)) (by first | rfl | (simp [z_yn, z_y2, z_y0, z_sel, c_23, c_41_1, c_41_2, c_41_3, c_41_4, c_41_5, c_41_6]; done) | (simp [z_yn, z_y2, z_y0, z_sel, c_23, c_41_1, c_41_2, c_41_3, c_41_4, c_41_5, c_41_6]; decide) | (simp [z_yn, z_y2, z_y0, z_sel, c_23, c_41_1, c_41_2, c_41_3, c_41_4, c_41_5, c_41_6]; rfl) | (simp_all [z_yn, z_y2, z_y0, z_sel]; done)), rfl⟩ rfl

theorem c_X0_stepsInADay (l : Launch) (G : qx_G) (k : Nat) (hB : qx_isB k) (σ : qx_Sg) : qx_Ct l G yX0_stepsInADay cX0_stepsInADay 4 (some .int) 1 21 [.ref (qx_ad G k)] (σ) (qx_pi (z_st (σ k 0) (σ k 2)) (σ)) := by
  refine qx_of .int (lo := [(0, .ref (qx_ad G k))]) (by decide +kernel) (Nat.le_of_ble_eq_true rfl) rfl (fun Δ (C : qx_C G Δ cX0_stepsInADay RX0 4 1 21) hret => ?_)
  refine qk_iconst C (1) dX0_stepsInADay_0 1 rfl rfl ?_
  refine qk_istoren C dX0_stepsInADay_1 2 rfl rfl (by decide) rfl ?_
  refine qk_iconst C (2) dX0_stepsInADay_2 3 rfl rfl ?_
  refine qk_iloadn C dX0_stepsInADay_3 4 rfl rfl 0 rfl ?_
  refine qk_imul C dX0_stepsInADay_4 5 rfl ?_
  refine qk_cast (show _ = 2 from rfl) ?_
  refine qk_istoren C dX0_stepsInADay_5 6 rfl rfl (by decide) rfl ?_
  refine qk_iloadn C dX0_stepsInADay_6 7 rfl rfl 1 rfl ?_
  refine qk_iconst C (1) dX0_stepsInADay_7 8 rfl rfl ?_
  refine qk_iadd C dX0_stepsInADay_8 9 rfl ?_
  refine qk_cast (show _ = 2 from rfl) ?_
  refine qk_istoren C dX0_stepsInADay_9 10 rfl rfl (by decide) rfl ?_
  refine qk_aloadn C dX0_stepsInADay_10 11 rfl rfl 3 rfl ?_
  refine qk_get C dX0_stepsInADay_11 14 rfl qf_X0_9 _ hB.lt (qx_Fb hB _) rfl ?_
  refine qk_eqc (1) (fun c_14_1 => ?_) (fun c_14_1 => ?_)
  · refine qk_tableIn C dX0_stepsInADay_14 (1) c_14_1 (by decide) (by decide) rfl 52 rfl ?_
    refine qk_iloadn C dX0_stepsInADay_52 53 rfl rfl 1 rfl ?_
    exact hret _ _ _ _ dX0_stepsInADay_53 ⟨congrArg (fun x => some (Value.int x)) (by first | rfl | (simp [z_st, z_sel, c_14_1]; done) | (simp [z_st, z_sel, c_14_1]; decide) | (simp [z_st, z_sel, c_14_1]; rfl) | (simp_all [z_st, z_sel]; done)), rfl⟩ rfl
  refine qk_eqc (2) (fun c_14_2 => ?_) (fun c_14_2 => ?_)
  · refine qk_tableIn C dX0_stepsInADay_14 (2) c_14_2 (by decide) (by decide) rfl 54 rfl ?_
    refine qk_iloadn C dX0_stepsInADay_54 55 rfl rfl 2 rfl ?_
    exact hret _ _ _ _ dX0_stepsInADay_55 ⟨congrArg (fun x => some (Value.int x)) (by first | rfl | (simp [z_st, z_sel, c_14_1, c_14_2]; done) | (simp [z_st, z_sel, c_14_1, c_14_2]; decide) | (simp [z_st, z_sel, c_14_1, c_14_2]; rfl) | (simp_all [z_st, z_sel]; done)), rfl⟩ rfl
  refine qk_eqc (3) (fun c_14_3 => ?_) (fun c_14_3 => ?_)
  · refine qk_tableIn C dX0_stepsInADay_14 (3) c_14_3 (by decide) (by decide) rfl 56 rfl ?_
    refine qk_iloadn C dX0_stepsInADay_56 57 rfl rfl 0 rfl ?_
    exact hret _ _ _ _ dX0_stepsInADay_57 ⟨congrArg (fun x => some (Value.int x)) (by first | rfl | (simp [z_st, z_sel, c_14_1, c_14_2, c_14_3]; done) | (simp [z_st, z_sel, c_14_1, c_14_2, c_14_3]; decide) | (simp [z_st, z_sel, c_14_1, c_14_2, c_14_3]; rfl) | (simp_all [z_st, z_sel]; done)), rfl⟩ rfl
  refine qk_eqc (4) (fun c_14_4 => ?_) (fun c_14_4 => ?_)
  · refine qk_tableIn C dX0_stepsInADay_14 (4) c_14_4 (by decide) (by decide) rfl 58 rfl ?_
    refine qk_iloadn C dX0_stepsInADay_58 59 rfl rfl 0 rfl ?_
    exact hret _ _ _ _ dX0_stepsInADay_59 ⟨congrArg (fun x => some (Value.int x)) (by first | rfl | (simp [z_st, z_sel, c_14_1, c_14_2, c_14_3, c_14_4]; done) | (simp [z_st, z_sel, c_14_1, c_14_2, c_14_3, c_14_4]; decide) | (simp [z_st, z_sel, c_14_1, c_14_2, c_14_3, c_14_4]; rfl) | (simp_all [z_st, z_sel]; done)), rfl⟩ rfl
  refine qk_eqc (5) (fun c_14_5 => ?_) (fun c_14_5 => ?_)
  · refine qk_tableIn C dX0_stepsInADay_14 (5) c_14_5 (by decide) (by decide) rfl 60 rfl ?_
    refine qk_iconst C (5) dX0_stepsInADay_60 61 rfl rfl ?_
    exact hret _ _ _ _ dX0_stepsInADay_61 ⟨congrArg (fun x => some (Value.int x)) (by first | rfl | (simp [z_st, z_sel, c_14_1, c_14_2, c_14_3, c_14_4, c_14_5]; done) | (simp [z_st, z_sel, c_14_1, c_14_2, c_14_3, c_14_4, c_14_5]; decide) | (simp [z_st, z_sel, c_14_1, c_14_2, c_14_3, c_14_4, c_14_5]; rfl) | (simp_all [z_st, z_sel]; done)), rfl⟩ rfl
  refine qk_eqc (6) (fun c_14_6 => ?_) (fun c_14_6 => ?_)
  · refine qk_tableIn C dX0_stepsInADay_14 (6) c_14_6 (by decide) (by decide) rfl 62 rfl ?_
    refine qk_iloadn C dX0_stepsInADay_62 63 rfl rfl 1 rfl ?_
    refine qk_aloadn C dX0_stepsInADay_63 64 rfl rfl 3 rfl ?_
    refine qk_bipush C (10) dX0_stepsInADay_64 66 rfl rfl ?_
    refine qk_callV C dX0_stepsInADay_66 69 rfl ql_X0_50 qc_X0_hasPart _ hB.lt (qx_Fb hB _) rfl (c_X0_hasPart l G _ hB _ _) rfl rfl (Nat.le_of_ble_eq_true rfl) ⟨(Nat.le_of_ble_eq_true rfl), (Nat.le_of_ble_eq_true rfl)⟩ (qx_Ki ?_)
    refine qk_if_eqB C dX0_stepsInADay_69 76 rfl 72 rfl (fun c_69 => ?_) (fun c_69 => ?_)
    · refine qk_iconst C (0) dX0_stepsInADay_76 77 rfl rfl ?_
      refine qk_iadd C dX0_stepsInADay_77 78 rfl ?_
      exact hret _ _ _ _ dX0_stepsInADay_78 ⟨congrArg (fun x => some (Value.int x)) (by first | rfl | (simp [z_st, z_sel, c_14_1, c_14_2, c_14_3, c_14_4, c_14_5, c_14_6, c_69]; done) | (simp [z_st, z_sel, c_14_1, c_14_2, c_14_3, c_14_4, c_14_5, c_14_6, c_69]; decide) | (simp [z_st, z_sel, c_14_1, c_14_2, c_14_3, c_14_4, c_14_5, c_14_6, c_69]; rfl) | (simp_all [z_st, z_sel]; done)), rfl⟩ rfl
    · refine qk_iconst C (1) dX0_stepsInADay_72 73 rfl rfl ?_
      refine qk_goto C dX0_stepsInADay_73 77 rfl ?_
      refine qk_iadd C dX0_stepsInADay_77 78 rfl ?_
      exact hret _ _ _ _ dX0_stepsInADay_78 ⟨congrArg (fun x => some (Value.int x)) (by first | rfl | (simp [z_st, z_sel, c_14_1, c_14_2, c_14_3, c_14_4, c_14_5, c_14_6, c_69]; done) | (simp [z_st, z_sel, c_14_1, c_14_2, c_14_3, c_14_4, c_14_5, c_14_6, c_69]; decide) | (simp [z_st, z_sel, c_14_1, c_14_2, c_14_3, c_14_4, c_14_5, c_14_6, c_69]; rfl) | (simp_all [z_st, z_sel]; done)), rfl⟩ rfl
  refine qk_tableOut C dX0_stepsInADay_14 (by have h1 := lv_neT c_14_1 (show (1 : Int32).toInt = 1 from rfl); have h2 := lv_neT c_14_2 (show (2 : Int32).toInt = 2 from rfl); have h3 := lv_neT c_14_3 (show (3 : Int32).toInt = 3 from rfl); have h4 := lv_neT c_14_4 (show (4 : Int32).toInt = 4 from rfl); have h5 := lv_neT c_14_5 (show (5 : Int32).toInt = 5 from rfl); have h6 := lv_neT c_14_6 (show (6 : Int32).toInt = 6 from rfl); omega) 79 rfl ?_
  refine qk_iloadn C dX0_stepsInADay_79 80 rfl rfl 2 rfl ?_
  exact hret _ _ _ _ dX0_stepsInADay_80 ⟨congrArg (fun x => some (Value.int x)) (by first | rfl | (simp [z_st, z_sel, c_14_1, c_14_2, c_14_3, c_14_4, c_14_5, c_14_6]; done) | (simp [z_st, z_sel, c_14_1, c_14_2, c_14_3, c_14_4, c_14_5, c_14_6]; decide) | (simp [z_st, z_sel, c_14_1, c_14_2, c_14_3, c_14_4, c_14_5, c_14_6]; rfl) | (simp_all [z_st, z_sel]; done)), rfl⟩ rfl

theorem c_X0_says (l : Launch) (G : qx_G) (k : Nat) (hB : qx_isB k) (σ : qx_Sg) : qx_Ct l G yX0_says cX0_says 5 (some .int) 2 42 [.ref (qx_ad G k)] (σ) (qx_pi (z_say (σ k)) (σ)) := by
  refine qx_of .int (lo := [(0, .ref (qx_ad G k))]) (by decide +kernel) (Nat.le_of_ble_eq_true rfl) rfl (fun Δ (C : qx_C G Δ cX0_says RX0 5 2 42) hret => ?_)
  refine qk_bipush C (10) dX0_says_0 2 rfl rfl ?_
  refine qk_aloadn C dX0_says_2 3 rfl rfl 0 rfl ?_
  refine qk_get C dX0_says_3 6 rfl qf_X0_18 _ hB.lt (qx_Fb hB _) rfl ?_
  refine qk_callS C dX0_says_6 9 rfl ql_X0_54 qc_J6_bitCount_0f7a4 (c_J6_bitCount_0f7a4 l G _ _) rfl rfl (Nat.le_of_ble_eq_true rfl) ⟨(Nat.le_of_ble_eq_true rfl), (Nat.le_of_ble_eq_true rfl)⟩ (qx_Ki ?_)
  refine qk_imul C dX0_says_9 10 rfl ?_
  refine qk_istoren C dX0_says_10 11 rfl rfl (by decide) rfl ?_
  refine qk_iloadn C dX0_says_11 12 rfl rfl 0 rfl ?_
  refine qk_aloadn C dX0_says_12 13 rfl rfl 1 rfl ?_
  refine qk_callV C dX0_says_13 16 rfl ql_X0_66 qc_X0_greatestPart _ hB.lt (qx_Fb hB _) rfl (c_X0_greatestPart l G _ hB _) rfl rfl (Nat.le_of_ble_eq_true rfl) ⟨(Nat.le_of_ble_eq_true rfl), (Nat.le_of_ble_eq_true rfl)⟩ (qx_Ki ?_)
  refine qk_iadd C dX0_says_16 17 rfl ?_
  refine qk_istoren C dX0_says_17 18 rfl rfl (by decide) rfl ?_
  refine qk_iconst C (0) dX0_says_18 19 rfl rfl ?_
  refine qk_iloadn C dX0_says_19 20 rfl rfl 1 rfl ?_
  refine qk_aloadn C dX0_says_20 21 rfl rfl 2 rfl ?_
  refine qk_get C dX0_says_21 24 rfl qf_X0_24 _ hB.lt (qx_Fb hB _) rfl ?_
  refine qk_isub C dX0_says_24 25 rfl ?_
  refine qk_max C dX0_says_25 28 rfl ql_X0_60 ⟨(Nat.le_of_ble_eq_true rfl), (Nat.le_of_ble_eq_true rfl)⟩ ?_
  refine qk_istoren C dX0_says_28 29 rfl rfl (by decide) rfl ?_
  refine qk_iloadn C dX0_says_29 30 rfl rfl 0 rfl ?_
  refine qk_bipush C (7) dX0_says_30 32 rfl rfl ?_
  refine qk_aloadn C dX0_says_32 33 rfl rfl 3 rfl ?_
  refine qk_get C dX0_says_33 36 rfl qf_X0_18 _ hB.lt (qx_Fb hB _) rfl ?_
  refine qk_bipush C (24) dX0_says_36 38 rfl rfl ?_
  refine qk_iand C dX0_says_38 39 rfl ?_
  refine qk_callS C dX0_says_39 42 rfl ql_X0_54 qc_J6_bitCount_0f7a4 (c_J6_bitCount_0f7a4 l G _ _) rfl rfl (Nat.le_of_ble_eq_true rfl) ⟨(Nat.le_of_ble_eq_true rfl), (Nat.le_of_ble_eq_true rfl)⟩ (qx_Ki ?_)
  refine qk_imul C dX0_says_42 43 rfl ?_
  refine qk_iadd C dX0_says_43 44 rfl ?_
  refine qk_istore C dX0_says_44 46 rfl (by decide) rfl ?_
  refine qk_aloadn C dX0_says_46 47 rfl rfl 4 rfl ?_
  refine qk_get C dX0_says_47 50 rfl qf_X0_9 _ hB.lt (qx_Fb hB _) rfl ?_
  refine qk_eqc (1) (fun c_50_1 => ?_) (fun c_50_1 => ?_)
  · refine qk_tableIn C dX0_says_50 (1) c_50_1 (by decide) (by decide) rfl 88 rfl ?_
    refine qk_iloadn C dX0_says_88 89 rfl rfl 2 rfl ?_
    exact hret _ _ _ _ dX0_says_89 ⟨congrArg (fun x => some (Value.int x)) (by first | rfl | (simp [z_say, z_sy, z_s3, z_s2, z_s0, z_sel, c_50_1]; done) | (simp [z_say, z_sy, z_s3, z_s2, z_s0, z_sel, c_50_1]; decide) | (simp [z_say, z_sy, z_s3, z_s2, z_s0, z_sel, c_50_1]; rfl) | (simp_all [z_say, z_sy, z_s3, z_s2, z_s0, z_sel]; done)), rfl⟩ rfl
  refine qk_eqc (2) (fun c_50_2 => ?_) (fun c_50_2 => ?_)
  · refine qk_tableIn C dX0_says_50 (2) c_50_2 (by decide) (by decide) rfl 90 rfl ?_
    refine qk_iloadn C dX0_says_90 91 rfl rfl 1 rfl ?_
    exact hret _ _ _ _ dX0_says_91 ⟨congrArg (fun x => some (Value.int x)) (by first | rfl | (simp [z_say, z_sy, z_s3, z_s2, z_s0, z_sel, c_50_1, c_50_2]; done) | (simp [z_say, z_sy, z_s3, z_s2, z_s0, z_sel, c_50_1, c_50_2]; decide) | (simp [z_say, z_sy, z_s3, z_s2, z_s0, z_sel, c_50_1, c_50_2]; rfl) | (simp_all [z_say, z_sy, z_s3, z_s2, z_s0, z_sel]; done)), rfl⟩ rfl
  refine qk_eqc (3) (fun c_50_3 => ?_) (fun c_50_3 => ?_)
  · refine qk_tableIn C dX0_says_50 (3) c_50_3 (by decide) (by decide) rfl 92 rfl ?_
    refine qk_iload C dX0_says_92 94 rfl 0 rfl ?_
    exact hret _ _ _ _ dX0_says_94 ⟨congrArg (fun x => some (Value.int x)) (by first | rfl | (simp [z_say, z_sy, z_s3, z_s2, z_s0, z_sel, c_50_1, c_50_2, c_50_3]; done) | (simp [z_say, z_sy, z_s3, z_s2, z_s0, z_sel, c_50_1, c_50_2, c_50_3]; decide) | (simp [z_say, z_sy, z_s3, z_s2, z_s0, z_sel, c_50_1, c_50_2, c_50_3]; rfl) | (simp_all [z_say, z_sy, z_s3, z_s2, z_s0, z_sel]; done)), rfl⟩ rfl
  refine qk_eqc (4) (fun c_50_4 => ?_) (fun c_50_4 => ?_)
  · refine qk_tableIn C dX0_says_50 (4) c_50_4 (by decide) (by decide) rfl 95 rfl ?_
    refine qk_iload C dX0_says_95 97 rfl 0 rfl ?_
    refine qk_aloadn C dX0_says_97 98 rfl rfl 4 rfl ?_
    refine qk_get C dX0_says_98 101 rfl qf_X0_15 _ hB.lt (qx_Fb hB _) rfl ?_
    refine qk_bipush C (10) dX0_says_101 103 rfl rfl ?_
    refine qk_irem C dX0_says_103 104 rfl (by decide) ?_
    refine qk_iadd C dX0_says_104 105 rfl ?_
    exact hret _ _ _ _ dX0_says_105 ⟨congrArg (fun x => some (Value.int x)) (by first | rfl | (simp [z_say, z_sy, z_s3, z_s2, z_s0, z_sel, c_50_1, c_50_2, c_50_3, c_50_4]; done) | (simp [z_say, z_sy, z_s3, z_s2, z_s0, z_sel, c_50_1, c_50_2, c_50_3, c_50_4]; decide) | (simp [z_say, z_sy, z_s3, z_s2, z_s0, z_sel, c_50_1, c_50_2, c_50_3, c_50_4]; rfl) | (simp_all [z_say, z_sy, z_s3, z_s2, z_s0, z_sel]; done)), rfl⟩ rfl
  refine qk_eqc (5) (fun c_50_5 => ?_) (fun c_50_5 => ?_)
  · refine qk_tableIn C dX0_says_50 (5) c_50_5 (by decide) (by decide) rfl 106 rfl ?_
    refine qk_aloadn C dX0_says_106 107 rfl rfl 4 rfl ?_
    refine qk_iconst C (0) dX0_says_107 108 rfl rfl ?_
    refine qk_callV C dX0_says_108 111 rfl ql_X0_50 qc_X0_hasPart _ hB.lt (qx_Fb hB _) rfl (c_X0_hasPart l G _ hB _ _) rfl rfl (Nat.le_of_ble_eq_true rfl) ⟨(Nat.le_of_ble_eq_true rfl), (Nat.le_of_ble_eq_true rfl)⟩ (qx_Ki ?_)
    refine qk_if_eqB C dX0_says_111 118 rfl 114 rfl (fun c_111 => ?_) (fun c_111 => ?_)
    · refine qk_iconst C (0) dX0_says_118 119 rfl rfl ?_
      exact hret _ _ _ _ dX0_says_119 ⟨congrArg (fun x => some (Value.int x)) (by first | rfl | (simp [z_say, z_sy, z_s3, z_s2, z_s0, z_sel, c_50_1, c_50_2, c_50_3, c_50_4, c_50_5, c_111]; done) | (simp [z_say, z_sy, z_s3, z_s2, z_s0, z_sel, c_50_1, c_50_2, c_50_3, c_50_4, c_50_5, c_111]; decide) | (simp [z_say, z_sy, z_s3, z_s2, z_s0, z_sel, c_50_1, c_50_2, c_50_3, c_50_4, c_50_5, c_111]; rfl) | (simp_all [z_say, z_sy, z_s3, z_s2, z_s0, z_sel]; done)), rfl⟩ rfl
    · refine qk_iloadn C dX0_says_114 115 rfl rfl 3 rfl ?_
      refine qk_goto C dX0_says_115 119 rfl ?_
      exact hret _ _ _ _ dX0_says_119 ⟨congrArg (fun x => some (Value.int x)) (by first | rfl | (simp [z_say, z_sy, z_s3, z_s2, z_s0, z_sel, c_50_1, c_50_2, c_50_3, c_50_4, c_50_5, c_111]; done) | (simp [z_say, z_sy, z_s3, z_s2, z_s0, z_sel, c_50_1, c_50_2, c_50_3, c_50_4, c_50_5, c_111]; decide) | (simp [z_say, z_sy, z_s3, z_s2, z_s0, z_sel, c_50_1, c_50_2, c_50_3, c_50_4, c_50_5, c_111]; rfl) | (simp_all [z_say, z_sy, z_s3, z_s2, z_s0, z_sel]; done)), rfl⟩ rfl
  refine qk_eqc (6) (fun c_50_6 => ?_) (fun c_50_6 => ?_)
  · refine qk_tableIn C dX0_says_50 (6) c_50_6 (by decide) (by decide) rfl 120 rfl ?_
    refine qk_iconst C (3) dX0_says_120 121 rfl rfl ?_
    refine qk_iloadn C dX0_says_121 122 rfl rfl 2 rfl ?_
    refine qk_imul C dX0_says_122 123 rfl ?_
    exact hret _ _ _ _ dX0_says_123 ⟨congrArg (fun x => some (Value.int x)) (by first | rfl | (simp [z_say, z_sy, z_s3, z_s2, z_s0, z_sel, c_50_1, c_50_2, c_50_3, c_50_4, c_50_5, c_50_6]; done) | (simp [z_say, z_sy, z_s3, z_s2, z_s0, z_sel, c_50_1, c_50_2, c_50_3, c_50_4, c_50_5, c_50_6]; decide) | (simp [z_say, z_sy, z_s3, z_s2, z_s0, z_sel, c_50_1, c_50_2, c_50_3, c_50_4, c_50_5, c_50_6]; rfl) | (simp_all [z_say, z_sy, z_s3, z_s2, z_s0, z_sel]; done)), rfl⟩ rfl
  refine qk_tableOut C dX0_says_50 (by have h1 := lv_neT c_50_1 (show (1 : Int32).toInt = 1 from rfl); have h2 := lv_neT c_50_2 (show (2 : Int32).toInt = 2 from rfl); have h3 := lv_neT c_50_3 (show (3 : Int32).toInt = 3 from rfl); have h4 := lv_neT c_50_4 (show (4 : Int32).toInt = 4 from rfl); have h5 := lv_neT c_50_5 (show (5 : Int32).toInt = 5 from rfl); have h6 := lv_neT c_50_6 (show (6 : Int32).toInt = 6 from rfl); omega) 124 rfl ?_
  refine qk_iloadn C dX0_says_124 125 rfl rfl 3 rfl ?_
  exact hret _ _ _ _ dX0_says_125 ⟨congrArg (fun x => some (Value.int x)) (by first | rfl | (simp [z_say, z_sy, z_s3, z_s2, z_s0, z_sel, c_50_1, c_50_2, c_50_3, c_50_4, c_50_5, c_50_6]; done) | (simp [z_say, z_sy, z_s3, z_s2, z_s0, z_sel, c_50_1, c_50_2, c_50_3, c_50_4, c_50_5, c_50_6]; decide) | (simp [z_say, z_sy, z_s3, z_s2, z_s0, z_sel, c_50_1, c_50_2, c_50_3, c_50_4, c_50_5, c_50_6]; rfl) | (simp_all [z_say, z_sy, z_s3, z_s2, z_s0, z_sel]; done)), rfl⟩ rfl

theorem c_X0_wouldWalk (l : Launch) (G : qx_G) (k : Nat) (hB : qx_isB k) (σ : qx_Sg) : qx_Ct l G yX0_wouldWalk cX0_wouldWalk 1 (some .boolean) 1 23 [.ref (qx_ad G k)] (σ) (qx_pi (qb (z_ww (σ k))) (σ)) := by
  refine qx_of .boolean (lo := [(0, .ref (qx_ad G k))]) (by decide +kernel) (Nat.le_of_ble_eq_true rfl) rfl (fun Δ (C : qx_C G Δ cX0_wouldWalk RX0 1 1 23) hret => ?_)
  refine qk_aloadn C dX0_wouldWalk_0 1 rfl rfl 0 rfl ?_
  refine qk_get C dX0_wouldWalk_1 4 rfl qf_X0_24 _ hB.lt (qx_Fb hB _) rfl ?_
  refine qk_aloadn C dX0_wouldWalk_4 5 rfl rfl 0 rfl ?_
  refine qk_callV C dX0_wouldWalk_5 8 rfl ql_X0_37 qc_X0_leavesWith _ hB.lt (qx_Fb hB _) rfl (c_X0_leavesWith l G _ hB _) rfl rfl (Nat.le_of_ble_eq_true rfl) ⟨(Nat.le_of_ble_eq_true rfl), (Nat.le_of_ble_eq_true rfl)⟩ (qx_Ki ?_)
  refine qk_icmp_lt C dX0_wouldWalk_8 38 rfl 11 rfl (fun c_8 => ?_) (fun c_8 => ?_)
  · refine qk_iconst C (0) dX0_wouldWalk_38 39 rfl rfl ?_
    exact hret _ _ _ _ dX0_wouldWalk_39 ⟨congrArg (fun x => some (Value.int x)) ((qb_f (by first | (simp [z_ww, c_8]; done) | (simp_all [z_ww]; done))).symm), rfl⟩ rfl
  · refine qk_aloadn C dX0_wouldWalk_11 12 rfl rfl 0 rfl ?_
    refine qk_bipush C (11) dX0_wouldWalk_12 14 rfl rfl ?_
    refine qk_callV C dX0_wouldWalk_14 17 rfl ql_X0_50 qc_X0_hasPart _ hB.lt (qx_Fb hB _) rfl (c_X0_hasPart l G _ hB _ _) rfl rfl (Nat.le_of_ble_eq_true rfl) ⟨(Nat.le_of_ble_eq_true rfl), (Nat.le_of_ble_eq_true rfl)⟩ (qx_Ki ?_)
    refine qk_if_eqB C dX0_wouldWalk_17 38 rfl 20 rfl (fun c_17 => ?_) (fun c_17 => ?_)
    · refine qk_iconst C (0) dX0_wouldWalk_38 39 rfl rfl ?_
      exact hret _ _ _ _ dX0_wouldWalk_39 ⟨congrArg (fun x => some (Value.int x)) ((qb_f (by first | (simp [z_ww, c_8, c_17]; done) | (simp_all [z_ww]; done))).symm), rfl⟩ rfl
    · refine qk_aloadn C dX0_wouldWalk_20 21 rfl rfl 0 rfl ?_
      refine qk_get C dX0_wouldWalk_21 24 rfl qf_X0_27 _ hB.lt (qx_Fb hB _) rfl ?_
      refine qk_if_ne C dX0_wouldWalk_24 38 rfl 27 rfl (fun c_24 => ?_) (fun c_24 => ?_)
      · refine qk_iconst C (0) dX0_wouldWalk_38 39 rfl rfl ?_
        exact hret _ _ _ _ dX0_wouldWalk_39 ⟨congrArg (fun x => some (Value.int x)) ((qb_f (by first | (simp [z_ww, c_8, c_17, c_24]; done) | (simp_all [z_ww]; done))).symm), rfl⟩ rfl
      · refine qk_aloadn C dX0_wouldWalk_27 28 rfl rfl 0 rfl ?_
        refine qk_get C dX0_wouldWalk_28 31 rfl qf_X0_30 _ hB.lt (qx_Fb hB _) rfl ?_
        refine qk_if_ne C dX0_wouldWalk_31 38 rfl 34 rfl (fun c_31 => ?_) (fun c_31 => ?_)
        · refine qk_iconst C (0) dX0_wouldWalk_38 39 rfl rfl ?_
          exact hret _ _ _ _ dX0_wouldWalk_39 ⟨congrArg (fun x => some (Value.int x)) ((qb_f (by first | (simp [z_ww, c_8, c_17, c_24, c_31]; done) | (simp_all [z_ww]; done))).symm), rfl⟩ rfl
        · refine qk_iconst C (1) dX0_wouldWalk_34 35 rfl rfl ?_
          refine qk_goto C dX0_wouldWalk_35 39 rfl ?_
          exact hret _ _ _ _ dX0_wouldWalk_39 ⟨congrArg (fun x => some (Value.int x)) ((qb_t (by first | (simp [z_ww, c_8, c_17, c_24, c_31]; done) | (simp_all [z_ww]; done))).symm), rfl⟩ rfl

theorem c_X0_told (l : Launch) (G : qx_G) (k : Nat) (hB : qx_isB k) (σ : qx_Sg) (w : Int32) : qx_Ct l G yX0_told cX0_told 2 (some .int) 3 66 [.ref (qx_ad G k), .int w] (σ) (qx_pi (z_tell (σ k) w) (σ)) := by
  refine qx_of .int (lo := [(0, .ref (qx_ad G k)), (1, .int w)]) (by decide +kernel) (Nat.le_of_ble_eq_true rfl) rfl (fun Δ (C : qx_C G Δ cX0_told RX0 2 3 66) hret => ?_)
  refine qk_iloadn C dX0_told_0 1 rfl rfl 1 rfl ?_
  refine qk_eqc (0) (fun c_1_0 => ?_) (fun c_1_0 => ?_)
  · refine qk_tableIn C dX0_told_1 (0) c_1_0 (by decide) (by decide) rfl 56 rfl ?_
    refine qk_aloadn C dX0_told_56 57 rfl rfl 0 rfl ?_
    refine qk_get C dX0_told_57 60 rfl qf_X0_9 _ hB.lt (qx_Fb hB _) rfl ?_
    exact hret _ _ _ _ dX0_told_60 ⟨congrArg (fun x => some (Value.int x)) (by first | rfl | (simp [z_tell, c_1_0]; done) | (simp [z_tell, c_1_0]; decide) | (simp [z_tell, c_1_0]; rfl) | (simp_all [z_tell]; done)), rfl⟩ rfl
  refine qk_eqc (1) (fun c_1_1 => ?_) (fun c_1_1 => ?_)
  · refine qk_tableIn C dX0_told_1 (1) c_1_1 (by decide) (by decide) rfl 61 rfl ?_
    refine qk_aloadn C dX0_told_61 62 rfl rfl 0 rfl ?_
    refine qk_get C dX0_told_62 65 rfl qf_X0_15 _ hB.lt (qx_Fb hB _) rfl ?_
    exact hret _ _ _ _ dX0_told_65 ⟨congrArg (fun x => some (Value.int x)) (by first | rfl | (simp [z_tell, c_1_0, c_1_1]; done) | (simp [z_tell, c_1_0, c_1_1]; decide) | (simp [z_tell, c_1_0, c_1_1]; rfl) | (simp_all [z_tell]; done)), rfl⟩ rfl
  refine qk_eqc (2) (fun c_1_2 => ?_) (fun c_1_2 => ?_)
  · refine qk_tableIn C dX0_told_1 (2) c_1_2 (by decide) (by decide) rfl 66 rfl ?_
    refine qk_aloadn C dX0_told_66 67 rfl rfl 0 rfl ?_
    refine qk_get C dX0_told_67 70 rfl qf_X0_18 _ hB.lt (qx_Fb hB _) rfl ?_
    exact hret _ _ _ _ dX0_told_70 ⟨congrArg (fun x => some (Value.int x)) (by first | rfl | (simp [z_tell, c_1_0, c_1_1, c_1_2]; done) | (simp [z_tell, c_1_0, c_1_1, c_1_2]; decide) | (simp [z_tell, c_1_0, c_1_1, c_1_2]; rfl) | (simp_all [z_tell]; done)), rfl⟩ rfl
  refine qk_eqc (3) (fun c_1_3 => ?_) (fun c_1_3 => ?_)
  · refine qk_tableIn C dX0_told_1 (3) c_1_3 (by decide) (by decide) rfl 71 rfl ?_
    refine qk_aloadn C dX0_told_71 72 rfl rfl 0 rfl ?_
    refine qk_get C dX0_told_72 75 rfl qf_X0_21 _ hB.lt (qx_Fb hB _) rfl ?_
    exact hret _ _ _ _ dX0_told_75 ⟨congrArg (fun x => some (Value.int x)) (by first | rfl | (simp [z_tell, c_1_0, c_1_1, c_1_2, c_1_3]; done) | (simp [z_tell, c_1_0, c_1_1, c_1_2, c_1_3]; decide) | (simp [z_tell, c_1_0, c_1_1, c_1_2, c_1_3]; rfl) | (simp_all [z_tell]; done)), rfl⟩ rfl
  refine qk_eqc (4) (fun c_1_4 => ?_) (fun c_1_4 => ?_)
  · refine qk_tableIn C dX0_told_1 (4) c_1_4 (by decide) (by decide) rfl 76 rfl ?_
    refine qk_aloadn C dX0_told_76 77 rfl rfl 0 rfl ?_
    refine qk_get C dX0_told_77 80 rfl qf_X0_24 _ hB.lt (qx_Fb hB _) rfl ?_
    exact hret _ _ _ _ dX0_told_80 ⟨congrArg (fun x => some (Value.int x)) (by first | rfl | (simp [z_tell, c_1_0, c_1_1, c_1_2, c_1_3, c_1_4]; done) | (simp [z_tell, c_1_0, c_1_1, c_1_2, c_1_3, c_1_4]; decide) | (simp [z_tell, c_1_0, c_1_1, c_1_2, c_1_3, c_1_4]; rfl) | (simp_all [z_tell]; done)), rfl⟩ rfl
  refine qk_eqc (5) (fun c_1_5 => ?_) (fun c_1_5 => ?_)
  · refine qk_tableIn C dX0_told_1 (5) c_1_5 (by decide) (by decide) rfl 81 rfl ?_
    refine qk_aloadn C dX0_told_81 82 rfl rfl 0 rfl ?_
    refine qk_get C dX0_told_82 85 rfl qf_X0_27 _ hB.lt (qx_Fb hB _) rfl ?_
    exact hret _ _ _ _ dX0_told_85 ⟨congrArg (fun x => some (Value.int x)) (by first | rfl | (simp [z_tell, c_1_0, c_1_1, c_1_2, c_1_3, c_1_4, c_1_5]; done) | (simp [z_tell, c_1_0, c_1_1, c_1_2, c_1_3, c_1_4, c_1_5]; decide) | (simp [z_tell, c_1_0, c_1_1, c_1_2, c_1_3, c_1_4, c_1_5]; rfl) | (simp_all [z_tell]; done)), rfl⟩ rfl
  refine qk_eqc (6) (fun c_1_6 => ?_) (fun c_1_6 => ?_)
  · refine qk_tableIn C dX0_told_1 (6) c_1_6 (by decide) (by decide) rfl 86 rfl ?_
    refine qk_aloadn C dX0_told_86 87 rfl rfl 0 rfl ?_
    refine qk_get C dX0_told_87 90 rfl qf_X0_30 _ hB.lt (qx_Fb hB _) rfl ?_
    exact hret _ _ _ _ dX0_told_90 ⟨congrArg (fun x => some (Value.int x)) (by first | rfl | (simp [z_tell, c_1_0, c_1_1, c_1_2, c_1_3, c_1_4, c_1_5, c_1_6]; done) | (simp [z_tell, c_1_0, c_1_1, c_1_2, c_1_3, c_1_4, c_1_5, c_1_6]; decide) | (simp [z_tell, c_1_0, c_1_1, c_1_2, c_1_3, c_1_4, c_1_5, c_1_6]; rfl) | (simp_all [z_tell]; done)), rfl⟩ rfl
  refine qk_eqc (7) (fun c_1_7 => ?_) (fun c_1_7 => ?_)
  · refine qk_tableIn C dX0_told_1 (7) c_1_7 (by decide) (by decide) rfl 91 rfl ?_
    refine qk_aloadn C dX0_told_91 92 rfl rfl 0 rfl ?_
    refine qk_callV C dX0_told_92 95 rfl ql_X0_33 qc_X0_yearnsMore _ hB.lt (qx_Fb hB _) rfl (c_X0_yearnsMore l G _ hB _) rfl rfl (Nat.le_of_ble_eq_true rfl) ⟨(Nat.le_of_ble_eq_true rfl), (Nat.le_of_ble_eq_true rfl)⟩ (qx_Ki ?_)
    exact hret _ _ _ _ dX0_told_95 ⟨congrArg (fun x => some (Value.int x)) (by first | rfl | (simp [z_tell, c_1_0, c_1_1, c_1_2, c_1_3, c_1_4, c_1_5, c_1_6, c_1_7]; done) | (simp [z_tell, c_1_0, c_1_1, c_1_2, c_1_3, c_1_4, c_1_5, c_1_6, c_1_7]; decide) | (simp [z_tell, c_1_0, c_1_1, c_1_2, c_1_3, c_1_4, c_1_5, c_1_6, c_1_7]; rfl) | (simp_all [z_tell]; done)), rfl⟩ rfl
  refine qk_eqc (8) (fun c_1_8 => ?_) (fun c_1_8 => ?_)
  · refine qk_tableIn C dX0_told_1 (8) c_1_8 (by decide) (by decide) rfl 96 rfl ?_
    refine qk_aloadn C dX0_told_96 97 rfl rfl 0 rfl ?_
    refine qk_callV C dX0_told_97 100 rfl ql_X0_37 qc_X0_leavesWith _ hB.lt (qx_Fb hB _) rfl (c_X0_leavesWith l G _ hB _) rfl rfl (Nat.le_of_ble_eq_true rfl) ⟨(Nat.le_of_ble_eq_true rfl), (Nat.le_of_ble_eq_true rfl)⟩ (qx_Ki ?_)
    exact hret _ _ _ _ dX0_told_100 ⟨congrArg (fun x => some (Value.int x)) (by first | rfl | (simp [z_tell, c_1_0, c_1_1, c_1_2, c_1_3, c_1_4, c_1_5, c_1_6, c_1_7, c_1_8]; done) | (simp [z_tell, c_1_0, c_1_1, c_1_2, c_1_3, c_1_4, c_1_5, c_1_6, c_1_7, c_1_8]; decide) | (simp [z_tell, c_1_0, c_1_1, c_1_2, c_1_3, c_1_4, c_1_5, c_1_6, c_1_7, c_1_8]; rfl) | (simp_all [z_tell]; done)), rfl⟩ rfl
  refine qk_eqc (9) (fun c_1_9 => ?_) (fun c_1_9 => ?_)
  · refine qk_tableIn C dX0_told_1 (9) c_1_9 (by decide) (by decide) rfl 101 rfl ?_
    refine qk_aloadn C dX0_told_101 102 rfl rfl 0 rfl ?_
    refine qk_callV C dX0_told_102 105 rfl ql_X0_40 qc_X0_stepsInADay _ hB.lt (qx_Fb hB _) rfl (c_X0_stepsInADay l G _ hB _) rfl rfl (Nat.le_of_ble_eq_true rfl) ⟨(Nat.le_of_ble_eq_true rfl), (Nat.le_of_ble_eq_true rfl)⟩ (qx_Ki ?_)
    exact hret _ _ _ _ dX0_told_105 ⟨congrArg (fun x => some (Value.int x)) (by first | rfl | (simp [z_tell, c_1_0, c_1_1, c_1_2, c_1_3, c_1_4, c_1_5, c_1_6, c_1_7, c_1_8, c_1_9]; done) | (simp [z_tell, c_1_0, c_1_1, c_1_2, c_1_3, c_1_4, c_1_5, c_1_6, c_1_7, c_1_8, c_1_9]; decide) | (simp [z_tell, c_1_0, c_1_1, c_1_2, c_1_3, c_1_4, c_1_5, c_1_6, c_1_7, c_1_8, c_1_9]; rfl) | (simp_all [z_tell]; done)), rfl⟩ rfl
  refine qk_tableOut C dX0_told_1 (by have h0 := lv_neT c_1_0 (show (0 : Int32).toInt = 0 from rfl); have h1 := lv_neT c_1_1 (show (1 : Int32).toInt = 1 from rfl); have h2 := lv_neT c_1_2 (show (2 : Int32).toInt = 2 from rfl); have h3 := lv_neT c_1_3 (show (3 : Int32).toInt = 3 from rfl); have h4 := lv_neT c_1_4 (show (4 : Int32).toInt = 4 from rfl); have h5 := lv_neT c_1_5 (show (5 : Int32).toInt = 5 from rfl); have h6 := lv_neT c_1_6 (show (6 : Int32).toInt = 6 from rfl); have h7 := lv_neT c_1_7 (show (7 : Int32).toInt = 7 from rfl); have h8 := lv_neT c_1_8 (show (8 : Int32).toInt = 8 from rfl); have h9 := lv_neT c_1_9 (show (9 : Int32).toInt = 9 from rfl); omega) 106 rfl ?_
  refine qk_aloadn C dX0_told_106 107 rfl rfl 0 rfl ?_
  refine qk_callV C dX0_told_107 110 rfl ql_X0_43 qc_X0_says _ hB.lt (qx_Fb hB _) rfl (c_X0_says l G _ hB _) rfl rfl (Nat.le_of_ble_eq_true rfl) ⟨(Nat.le_of_ble_eq_true rfl), (Nat.le_of_ble_eq_true rfl)⟩ (qx_Ki ?_)
  exact hret _ _ _ _ dX0_told_110 ⟨congrArg (fun x => some (Value.int x)) (by first | rfl | (simp [z_tell, c_1_0, c_1_1, c_1_2, c_1_3, c_1_4, c_1_5, c_1_6, c_1_7, c_1_8, c_1_9]; done) | (simp [z_tell, c_1_0, c_1_1, c_1_2, c_1_3, c_1_4, c_1_5, c_1_6, c_1_7, c_1_8, c_1_9]; decide) | (simp [z_tell, c_1_0, c_1_1, c_1_2, c_1_3, c_1_4, c_1_5, c_1_6, c_1_7, c_1_8, c_1_9]; rfl) | (simp_all [z_tell]; done)), rfl⟩ rfl

theorem c_X0_become (l : Launch) (G : qx_G) (k : Nat) (hB : qx_isB k) (σ : qx_Sg) (w : Nat) (hw : w < 7) (v : Int32) : qx_Ct l G yX0_become cX0_become 3 none 0 0 [.ref (qx_ad G k), .int (nI w), .int v] (σ) (qx_pv (va_up σ k (upd (σ k) w v))) := by
  refine qx_ofV (lo := [(0, .ref (qx_ad G k)), (1, .int (nI w)), (2, .int v)]) (by decide +kernel) (Nat.le_of_ble_eq_true rfl) rfl (fun Δ (C : qx_C G Δ cX0_become RX0 3 0 0) hret => ?_)
  refine qk_iloadn C dX0_become_0 1 rfl rfl 1 rfl ?_
  refine qk_eqc (0) (fun c_1_0 => ?_) (fun c_1_0 => ?_)
  · refine qk_tableIn C dX0_become_1 (0) c_1_0 (by decide) (by decide) rfl 44 rfl ?_
    refine qk_aloadn C dX0_become_44 45 rfl rfl 0 rfl ?_
    refine qk_iloadn C dX0_become_45 46 rfl rfl 2 rfl ?_
    refine qk_put C .int dX0_become_46 49 rfl qf_X0_9 _ hB.lt (qx_Fb hB _) (fun q hq => by cases hq; rfl) rfl rfl (Nat.le_of_ble_eq_true rfl) (qx_Fb hB _) ?_
    refine qk_goto C dX0_become_49 100 rfl ?_
    exact hret _ _ _ dX0_become_100 ⟨rfl, by first | (rw [show w = 0 from (nI_eq (by omega) (by omega)).mp c_1_0]; done) | (rw [show w = 1 from (nI_eq (by omega) (by omega)).mp c_1_1]; done) | (rw [show w = 2 from (nI_eq (by omega) (by omega)).mp c_1_2]; done) | (rw [show w = 3 from (nI_eq (by omega) (by omega)).mp c_1_3]; done) | (rw [show w = 4 from (nI_eq (by omega) (by omega)).mp c_1_4]; done) | (rw [show w = 5 from (nI_eq (by omega) (by omega)).mp c_1_5]; done) | (rw [show w = 6 from (nI_eq (by omega) (by omega)).mp c_1_6]; done) | (exfalso; have h0 : w ≠ 0 := fun e => c_1_0 (by rw [e]; rfl); have h1 : w ≠ 1 := fun e => c_1_1 (by rw [e]; rfl); have h2 : w ≠ 2 := fun e => c_1_2 (by rw [e]; rfl); have h3 : w ≠ 3 := fun e => c_1_3 (by rw [e]; rfl); have h4 : w ≠ 4 := fun e => c_1_4 (by rw [e]; rfl); have h5 : w ≠ 5 := fun e => c_1_5 (by rw [e]; rfl); have h6 : w ≠ 6 := fun e => c_1_6 (by rw [e]; rfl); omega)⟩
  refine qk_eqc (1) (fun c_1_1 => ?_) (fun c_1_1 => ?_)
  · refine qk_tableIn C dX0_become_1 (1) c_1_1 (by decide) (by decide) rfl 52 rfl ?_
    refine qk_aloadn C dX0_become_52 53 rfl rfl 0 rfl ?_
    refine qk_iloadn C dX0_become_53 54 rfl rfl 2 rfl ?_
    refine qk_put C .int dX0_become_54 57 rfl qf_X0_15 _ hB.lt (qx_Fb hB _) (fun q hq => by cases hq; rfl) rfl rfl (Nat.le_of_ble_eq_true rfl) (qx_Fb hB _) ?_
    refine qk_goto C dX0_become_57 100 rfl ?_
    exact hret _ _ _ dX0_become_100 ⟨rfl, by first | (rw [show w = 0 from (nI_eq (by omega) (by omega)).mp c_1_0]; done) | (rw [show w = 1 from (nI_eq (by omega) (by omega)).mp c_1_1]; done) | (rw [show w = 2 from (nI_eq (by omega) (by omega)).mp c_1_2]; done) | (rw [show w = 3 from (nI_eq (by omega) (by omega)).mp c_1_3]; done) | (rw [show w = 4 from (nI_eq (by omega) (by omega)).mp c_1_4]; done) | (rw [show w = 5 from (nI_eq (by omega) (by omega)).mp c_1_5]; done) | (rw [show w = 6 from (nI_eq (by omega) (by omega)).mp c_1_6]; done) | (exfalso; have h0 : w ≠ 0 := fun e => c_1_0 (by rw [e]; rfl); have h1 : w ≠ 1 := fun e => c_1_1 (by rw [e]; rfl); have h2 : w ≠ 2 := fun e => c_1_2 (by rw [e]; rfl); have h3 : w ≠ 3 := fun e => c_1_3 (by rw [e]; rfl); have h4 : w ≠ 4 := fun e => c_1_4 (by rw [e]; rfl); have h5 : w ≠ 5 := fun e => c_1_5 (by rw [e]; rfl); have h6 : w ≠ 6 := fun e => c_1_6 (by rw [e]; rfl); omega)⟩
  refine qk_eqc (2) (fun c_1_2 => ?_) (fun c_1_2 => ?_)
  · refine qk_tableIn C dX0_become_1 (2) c_1_2 (by decide) (by decide) rfl 60 rfl ?_
    refine qk_aloadn C dX0_become_60 61 rfl rfl 0 rfl ?_
    refine qk_iloadn C dX0_become_61 62 rfl rfl 2 rfl ?_
    refine qk_put C .int dX0_become_62 65 rfl qf_X0_18 _ hB.lt (qx_Fb hB _) (fun q hq => by cases hq; rfl) rfl rfl (Nat.le_of_ble_eq_true rfl) (qx_Fb hB _) ?_
    refine qk_goto C dX0_become_65 100 rfl ?_
    exact hret _ _ _ dX0_become_100 ⟨rfl, by first | (rw [show w = 0 from (nI_eq (by omega) (by omega)).mp c_1_0]; done) | (rw [show w = 1 from (nI_eq (by omega) (by omega)).mp c_1_1]; done) | (rw [show w = 2 from (nI_eq (by omega) (by omega)).mp c_1_2]; done) | (rw [show w = 3 from (nI_eq (by omega) (by omega)).mp c_1_3]; done) | (rw [show w = 4 from (nI_eq (by omega) (by omega)).mp c_1_4]; done) | (rw [show w = 5 from (nI_eq (by omega) (by omega)).mp c_1_5]; done) | (rw [show w = 6 from (nI_eq (by omega) (by omega)).mp c_1_6]; done) | (exfalso; have h0 : w ≠ 0 := fun e => c_1_0 (by rw [e]; rfl); have h1 : w ≠ 1 := fun e => c_1_1 (by rw [e]; rfl); have h2 : w ≠ 2 := fun e => c_1_2 (by rw [e]; rfl); have h3 : w ≠ 3 := fun e => c_1_3 (by rw [e]; rfl); have h4 : w ≠ 4 := fun e => c_1_4 (by rw [e]; rfl); have h5 : w ≠ 5 := fun e => c_1_5 (by rw [e]; rfl); have h6 : w ≠ 6 := fun e => c_1_6 (by rw [e]; rfl); omega)⟩
  refine qk_eqc (3) (fun c_1_3 => ?_) (fun c_1_3 => ?_)
  · refine qk_tableIn C dX0_become_1 (3) c_1_3 (by decide) (by decide) rfl 68 rfl ?_
    refine qk_aloadn C dX0_become_68 69 rfl rfl 0 rfl ?_
    refine qk_iloadn C dX0_become_69 70 rfl rfl 2 rfl ?_
    refine qk_put C .int dX0_become_70 73 rfl qf_X0_21 _ hB.lt (qx_Fb hB _) (fun q hq => by cases hq; rfl) rfl rfl (Nat.le_of_ble_eq_true rfl) (qx_Fb hB _) ?_
    refine qk_goto C dX0_become_73 100 rfl ?_
    exact hret _ _ _ dX0_become_100 ⟨rfl, by first | (rw [show w = 0 from (nI_eq (by omega) (by omega)).mp c_1_0]; done) | (rw [show w = 1 from (nI_eq (by omega) (by omega)).mp c_1_1]; done) | (rw [show w = 2 from (nI_eq (by omega) (by omega)).mp c_1_2]; done) | (rw [show w = 3 from (nI_eq (by omega) (by omega)).mp c_1_3]; done) | (rw [show w = 4 from (nI_eq (by omega) (by omega)).mp c_1_4]; done) | (rw [show w = 5 from (nI_eq (by omega) (by omega)).mp c_1_5]; done) | (rw [show w = 6 from (nI_eq (by omega) (by omega)).mp c_1_6]; done) | (exfalso; have h0 : w ≠ 0 := fun e => c_1_0 (by rw [e]; rfl); have h1 : w ≠ 1 := fun e => c_1_1 (by rw [e]; rfl); have h2 : w ≠ 2 := fun e => c_1_2 (by rw [e]; rfl); have h3 : w ≠ 3 := fun e => c_1_3 (by rw [e]; rfl); have h4 : w ≠ 4 := fun e => c_1_4 (by rw [e]; rfl); have h5 : w ≠ 5 := fun e => c_1_5 (by rw [e]; rfl); have h6 : w ≠ 6 := fun e => c_1_6 (by rw [e]; rfl); omega)⟩
  refine qk_eqc (4) (fun c_1_4 => ?_) (fun c_1_4 => ?_)
  · refine qk_tableIn C dX0_become_1 (4) c_1_4 (by decide) (by decide) rfl 76 rfl ?_
    refine qk_aloadn C dX0_become_76 77 rfl rfl 0 rfl ?_
    refine qk_iloadn C dX0_become_77 78 rfl rfl 2 rfl ?_
    refine qk_put C .int dX0_become_78 81 rfl qf_X0_24 _ hB.lt (qx_Fb hB _) (fun q hq => by cases hq; rfl) rfl rfl (Nat.le_of_ble_eq_true rfl) (qx_Fb hB _) ?_
    refine qk_goto C dX0_become_81 100 rfl ?_
    exact hret _ _ _ dX0_become_100 ⟨rfl, by first | (rw [show w = 0 from (nI_eq (by omega) (by omega)).mp c_1_0]; done) | (rw [show w = 1 from (nI_eq (by omega) (by omega)).mp c_1_1]; done) | (rw [show w = 2 from (nI_eq (by omega) (by omega)).mp c_1_2]; done) | (rw [show w = 3 from (nI_eq (by omega) (by omega)).mp c_1_3]; done) | (rw [show w = 4 from (nI_eq (by omega) (by omega)).mp c_1_4]; done) | (rw [show w = 5 from (nI_eq (by omega) (by omega)).mp c_1_5]; done) | (rw [show w = 6 from (nI_eq (by omega) (by omega)).mp c_1_6]; done) | (exfalso; have h0 : w ≠ 0 := fun e => c_1_0 (by rw [e]; rfl); have h1 : w ≠ 1 := fun e => c_1_1 (by rw [e]; rfl); have h2 : w ≠ 2 := fun e => c_1_2 (by rw [e]; rfl); have h3 : w ≠ 3 := fun e => c_1_3 (by rw [e]; rfl); have h4 : w ≠ 4 := fun e => c_1_4 (by rw [e]; rfl); have h5 : w ≠ 5 := fun e => c_1_5 (by rw [e]; rfl); have h6 : w ≠ 6 := fun e => c_1_6 (by rw [e]; rfl); omega)⟩
  refine qk_eqc (5) (fun c_1_5 => ?_) (fun c_1_5 => ?_)
  · refine qk_tableIn C dX0_become_1 (5) c_1_5 (by decide) (by decide) rfl 84 rfl ?_
    refine qk_aloadn C dX0_become_84 85 rfl rfl 0 rfl ?_
    refine qk_iloadn C dX0_become_85 86 rfl rfl 2 rfl ?_
    refine qk_put C .int dX0_become_86 89 rfl qf_X0_27 _ hB.lt (qx_Fb hB _) (fun q hq => by cases hq; rfl) rfl rfl (Nat.le_of_ble_eq_true rfl) (qx_Fb hB _) ?_
    refine qk_goto C dX0_become_89 100 rfl ?_
    exact hret _ _ _ dX0_become_100 ⟨rfl, by first | (rw [show w = 0 from (nI_eq (by omega) (by omega)).mp c_1_0]; done) | (rw [show w = 1 from (nI_eq (by omega) (by omega)).mp c_1_1]; done) | (rw [show w = 2 from (nI_eq (by omega) (by omega)).mp c_1_2]; done) | (rw [show w = 3 from (nI_eq (by omega) (by omega)).mp c_1_3]; done) | (rw [show w = 4 from (nI_eq (by omega) (by omega)).mp c_1_4]; done) | (rw [show w = 5 from (nI_eq (by omega) (by omega)).mp c_1_5]; done) | (rw [show w = 6 from (nI_eq (by omega) (by omega)).mp c_1_6]; done) | (exfalso; have h0 : w ≠ 0 := fun e => c_1_0 (by rw [e]; rfl); have h1 : w ≠ 1 := fun e => c_1_1 (by rw [e]; rfl); have h2 : w ≠ 2 := fun e => c_1_2 (by rw [e]; rfl); have h3 : w ≠ 3 := fun e => c_1_3 (by rw [e]; rfl); have h4 : w ≠ 4 := fun e => c_1_4 (by rw [e]; rfl); have h5 : w ≠ 5 := fun e => c_1_5 (by rw [e]; rfl); have h6 : w ≠ 6 := fun e => c_1_6 (by rw [e]; rfl); omega)⟩
  refine qk_eqc (6) (fun c_1_6 => ?_) (fun c_1_6 => ?_)
  · refine qk_tableIn C dX0_become_1 (6) c_1_6 (by decide) (by decide) rfl 92 rfl ?_
    refine qk_aloadn C dX0_become_92 93 rfl rfl 0 rfl ?_
    refine qk_iloadn C dX0_become_93 94 rfl rfl 2 rfl ?_
    refine qk_put C .int dX0_become_94 97 rfl qf_X0_30 _ hB.lt (qx_Fb hB _) (fun q hq => by cases hq; rfl) rfl rfl (Nat.le_of_ble_eq_true rfl) (qx_Fb hB _) ?_
    refine qk_goto C dX0_become_97 100 rfl ?_
    exact hret _ _ _ dX0_become_100 ⟨rfl, by first | (rw [show w = 0 from (nI_eq (by omega) (by omega)).mp c_1_0]; done) | (rw [show w = 1 from (nI_eq (by omega) (by omega)).mp c_1_1]; done) | (rw [show w = 2 from (nI_eq (by omega) (by omega)).mp c_1_2]; done) | (rw [show w = 3 from (nI_eq (by omega) (by omega)).mp c_1_3]; done) | (rw [show w = 4 from (nI_eq (by omega) (by omega)).mp c_1_4]; done) | (rw [show w = 5 from (nI_eq (by omega) (by omega)).mp c_1_5]; done) | (rw [show w = 6 from (nI_eq (by omega) (by omega)).mp c_1_6]; done) | (exfalso; have h0 : w ≠ 0 := fun e => c_1_0 (by rw [e]; rfl); have h1 : w ≠ 1 := fun e => c_1_1 (by rw [e]; rfl); have h2 : w ≠ 2 := fun e => c_1_2 (by rw [e]; rfl); have h3 : w ≠ 3 := fun e => c_1_3 (by rw [e]; rfl); have h4 : w ≠ 4 := fun e => c_1_4 (by rw [e]; rfl); have h5 : w ≠ 5 := fun e => c_1_5 (by rw [e]; rfl); have h6 : w ≠ 6 := fun e => c_1_6 (by rw [e]; rfl); omega)⟩
  refine qk_tableOut C dX0_become_1 (by have h0 := lv_neT c_1_0 (show (0 : Int32).toInt = 0 from rfl); have h1 := lv_neT c_1_1 (show (1 : Int32).toInt = 1 from rfl); have h2 := lv_neT c_1_2 (show (2 : Int32).toInt = 2 from rfl); have h3 := lv_neT c_1_3 (show (3 : Int32).toInt = 3 from rfl); have h4 := lv_neT c_1_4 (show (4 : Int32).toInt = 4 from rfl); have h5 := lv_neT c_1_5 (show (5 : Int32).toInt = 5 from rfl); have h6 := lv_neT c_1_6 (show (6 : Int32).toInt = 6 from rfl); omega) 100 rfl ?_
  exact hret _ _ _ dX0_become_100 ⟨rfl, by first | (rw [show w = 0 from (nI_eq (by omega) (by omega)).mp c_1_0]; done) | (rw [show w = 1 from (nI_eq (by omega) (by omega)).mp c_1_1]; done) | (rw [show w = 2 from (nI_eq (by omega) (by omega)).mp c_1_2]; done) | (rw [show w = 3 from (nI_eq (by omega) (by omega)).mp c_1_3]; done) | (rw [show w = 4 from (nI_eq (by omega) (by omega)).mp c_1_4]; done) | (rw [show w = 5 from (nI_eq (by omega) (by omega)).mp c_1_5]; done) | (rw [show w = 6 from (nI_eq (by omega) (by omega)).mp c_1_6]; done) | (exfalso; have h0 : w ≠ 0 := fun e => c_1_0 (by rw [e]; rfl); have h1 : w ≠ 1 := fun e => c_1_1 (by rw [e]; rfl); have h2 : w ≠ 2 := fun e => c_1_2 (by rw [e]; rfl); have h3 : w ≠ 3 := fun e => c_1_3 (by rw [e]; rfl); have h4 : w ≠ 4 := fun e => c_1_4 (by rw [e]; rfl); have h5 : w ≠ 5 := fun e => c_1_5 (by rw [e]; rfl); have h6 : w ≠ 6 := fun e => c_1_6 (by rw [e]; rfl); omega)⟩

theorem c_X0_isA (l : Launch) (G : qx_G) (k : Nat) (hB : qx_isB k) (σ : qx_Sg) (j : Nat) (hj : σ k 0 = nI j) (hj7 : j < 7) (w : Int32) : qx_Ct l G yX0_isA cX0_isA 4 (some .boolean) 0 0 [.ref (qx_ad G k), .int w] (σ) (qx_pi (qb (z_is j w)) (σ)) := by
  refine qx_of .boolean (lo := [(0, .ref (qx_ad G k)), (1, .int w)]) (by decide +kernel) (Nat.le_of_ble_eq_true rfl) rfl (fun Δ (C : qx_C G Δ cX0_isA RX0 4 0 0) hret => ?_)
  refine qk_aloadn C dX0_isA_0 1 rfl rfl 0 rfl ?_
  refine qk_get C dX0_isA_1 4 rfl qf_X0_9 _ hB.lt (qx_Fb hB _) rfl ?_
  refine qk_cast (hj) ?_
  refine qk_istoren C dX0_isA_4 5 rfl rfl (by decide) rfl ?_
  refine qk_iconst C (nI 0) dX0_isA_5 6 rfl rfl ?_
  refine qk_istoren C dX0_isA_6 7 rfl rfl (by decide) rfl ?_
  have lp_7 : ∀ (n_7 : Nat) (i j2 : Nat), (i ≤ 7 ∧ j2 < 7 ∧ (z_is j w ↔ z_isF w (7 - i) j2)) → 7 - i < n_7 → qx_K l G Δ (σ) 7 [(3, .int (nI i)), (2, .int (nI j2)), (0, .ref (qx_ad G k)), (1, .int w)] [] := by
    intro n_7
    induction n_7 with
    | zero => intro _ _ _ h9; exact absurd h9 (Nat.not_lt_zero _)
    | succ n_7 ih_7 =>
      intro i j2 hi hm_7
      refine qk_iloadn C dX0_isA_7 8 rfl rfl 0 rfl ?_
      refine qk_bipush C (nI 7) dX0_isA_8 10 rfl rfl ?_
      refine qk_icmp_ge C dX0_isA_10 32 rfl 13 rfl (fun c_10 => ?_) (fun c_10 => ?_)
      · have hi7 : i = 7 := by
          have := (nI_leI (a := 7) (b := i) (by omega) (by omega)).mp c_10
          omega
        refine qk_iconst C (0) dX0_isA_32 33 rfl rfl ?_
        exact hret _ _ _ _ dX0_isA_33 ⟨congrArg (fun x => some (Value.int x)) ((qb_f (fun h => by have := hi.2.2.mp h; rw [hi7] at this; exact this)).symm), rfl⟩ rfl
      · have hi7 : i < 7 := by
          rcases Nat.lt_or_ge i 7 with q | q
          · exact q
          · exact absurd (nI_le q (by omega)) c_10
        refine qk_iloadn C dX0_isA_13 14 rfl rfl 1 rfl ?_
        refine qk_iloadn C dX0_isA_14 15 rfl rfl 3 rfl ?_
        refine qk_icmp_ne C dX0_isA_15 20 rfl 18 rfl (fun c_15 => ?_) (fun c_15 => ?_)
        · refine qk_gAbv C dX0_isA_20 23 rfl (Or.inr ⟨_, qw_792⟩) ?_
          refine qk_iloadn C dX0_isA_23 24 rfl rfl 1 rfl ?_
          refine qk_tAbv C dX0_isA_24 25 rfl j2 rfl hi.2.1 ?_
          refine qk_cast ((z_abv hi.2.1).1) ?_
          refine qk_istoren C dX0_isA_25 26 rfl rfl (by decide) rfl ?_
          refine qk_iinc C (nI (i + 1)) dX0_isA_26 29 rfl 1 rfl (nI_1 i) (by decide) rfl ?_
          refine qk_goto C dX0_isA_29 7 rfl ?_
          exact ih_7 (i + 1) (z_ab j2) ⟨by omega, (z_abv hi.2.1).2, hi.2.2.trans (by rw [show 7 - i = (7 - (i + 1)) + 1 by omega]; exact ⟨fun h => h.resolve_left c_15, Or.inr⟩)⟩ (by omega)
        · refine qk_iconst C (1) dX0_isA_18 19 rfl rfl ?_
          exact hret _ _ _ _ dX0_isA_19 ⟨congrArg (fun x => some (Value.int x)) ((qb_t (hi.2.2.mpr (by rw [show 7 - i = (7 - (i + 1)) + 1 by omega]; exact Or.inl c_15))).symm), rfl⟩ rfl
  exact lp_7 _ 0 j ⟨by omega, hj7, Iff.rfl⟩ (Nat.lt_succ_self _)

theorem c_X0_copyFrom (l : Launch) (G : qx_G) (k : Nat) (hB : qx_isB k) (σ : qx_Sg) (k2 : Nat) (hB2 : qx_isB k2) (hne : ¬ k2 = k) : qx_Ct l G yX0_copyFrom cX0_copyFrom 2 none 0 0 [.ref (qx_ad G k), .ref (qx_ad G k2)] (σ) (qx_pv (va_up σ k (σ k2))) := by
  refine qx_ofV (lo := [(0, .ref (qx_ad G k)), (1, .ref (qx_ad G k2))]) (by decide +kernel) (Nat.le_of_ble_eq_true rfl) rfl (fun Δ (C : qx_C G Δ cX0_copyFrom RX0 2 0 0) hret => ?_)
  refine qk_aloadn C dX0_copyFrom_0 1 rfl rfl 0 rfl ?_
  refine qk_aloadn C dX0_copyFrom_1 2 rfl rfl 1 rfl ?_
  refine qk_get C dX0_copyFrom_2 5 rfl qf_X0_9 _ hB2.lt (qx_Fb hB2 _) rfl ?_
  refine qk_put C .int dX0_copyFrom_5 8 rfl qf_X0_9 _ hB.lt (qx_Fb hB _) (fun q hq => by cases hq; rfl) rfl rfl (Nat.le_of_ble_eq_true rfl) (qx_Fb hB _) ?_
  refine qk_aloadn C dX0_copyFrom_8 9 rfl rfl 0 rfl ?_
  refine qk_aloadn C dX0_copyFrom_9 10 rfl rfl 1 rfl ?_
  refine qk_get C dX0_copyFrom_10 13 rfl qf_X0_15 _ hB2.lt (qx_Fb hB2 _) rfl ?_
  refine qk_put C .int dX0_copyFrom_13 16 rfl qf_X0_15 _ hB.lt (qx_Fb hB _) (fun q hq => by cases hq; rfl) rfl rfl (Nat.le_of_ble_eq_true rfl) (qx_Fb hB _) ?_
  refine qk_aloadn C dX0_copyFrom_16 17 rfl rfl 0 rfl ?_
  refine qk_aloadn C dX0_copyFrom_17 18 rfl rfl 1 rfl ?_
  refine qk_get C dX0_copyFrom_18 21 rfl qf_X0_18 _ hB2.lt (qx_Fb hB2 _) rfl ?_
  refine qk_put C .int dX0_copyFrom_21 24 rfl qf_X0_18 _ hB.lt (qx_Fb hB _) (fun q hq => by cases hq; rfl) rfl rfl (Nat.le_of_ble_eq_true rfl) (qx_Fb hB _) ?_
  refine qk_aloadn C dX0_copyFrom_24 25 rfl rfl 0 rfl ?_
  refine qk_aloadn C dX0_copyFrom_25 26 rfl rfl 1 rfl ?_
  refine qk_get C dX0_copyFrom_26 29 rfl qf_X0_21 _ hB2.lt (qx_Fb hB2 _) rfl ?_
  refine qk_put C .int dX0_copyFrom_29 32 rfl qf_X0_21 _ hB.lt (qx_Fb hB _) (fun q hq => by cases hq; rfl) rfl rfl (Nat.le_of_ble_eq_true rfl) (qx_Fb hB _) ?_
  refine qk_aloadn C dX0_copyFrom_32 33 rfl rfl 0 rfl ?_
  refine qk_aloadn C dX0_copyFrom_33 34 rfl rfl 1 rfl ?_
  refine qk_get C dX0_copyFrom_34 37 rfl qf_X0_24 _ hB2.lt (qx_Fb hB2 _) rfl ?_
  refine qk_put C .int dX0_copyFrom_37 40 rfl qf_X0_24 _ hB.lt (qx_Fb hB _) (fun q hq => by cases hq; rfl) rfl rfl (Nat.le_of_ble_eq_true rfl) (qx_Fb hB _) ?_
  refine qk_aloadn C dX0_copyFrom_40 41 rfl rfl 0 rfl ?_
  refine qk_aloadn C dX0_copyFrom_41 42 rfl rfl 1 rfl ?_
  refine qk_get C dX0_copyFrom_42 45 rfl qf_X0_27 _ hB2.lt (qx_Fb hB2 _) rfl ?_
  refine qk_put C .int dX0_copyFrom_45 48 rfl qf_X0_27 _ hB.lt (qx_Fb hB _) (fun q hq => by cases hq; rfl) rfl rfl (Nat.le_of_ble_eq_true rfl) (qx_Fb hB _) ?_
  refine qk_aloadn C dX0_copyFrom_48 49 rfl rfl 0 rfl ?_
  refine qk_aloadn C dX0_copyFrom_49 50 rfl rfl 1 rfl ?_
  refine qk_get C dX0_copyFrom_50 53 rfl qf_X0_30 _ hB2.lt (qx_Fb hB2 _) rfl ?_
  refine qk_put C .int dX0_copyFrom_53 56 rfl qf_X0_30 _ hB.lt (qx_Fb hB _) (fun q hq => by cases hq; rfl) rfl rfl (Nat.le_of_ble_eq_true rfl) (qx_Fb hB _) ?_
  refine qk_cg (va_up σ k (σ k2)) (qx_upB hB (qx_j7 (by simp [upd, va_up, hne]) (by simp [upd, va_up, hne]) (by simp [upd, va_up, hne]) (by simp [upd, va_up, hne]) (by simp [upd, va_up, hne]) (by simp [upd, va_up, hne]) (by simp [upd, va_up, hne])) (by intro i hi; simp [va_up, hi])) ?_
  exact hret _ _ _ dX0_copyFrom_56 ⟨rfl, rfl⟩

theorem c_X0_takesBehind (l : Launch) (G : qx_G) (k : Nat) (hB : qx_isB k) (σ : qx_Sg) (p : Int32) : qx_Ct l G yX0_takesBehind cX0_takesBehind 4 (some .boolean) 2 45 [.ref (qx_ad G k), .int p] (σ) (qx_pi (qb (z_tkb (σ k 0) (σ k 2) p)) (σ)) := by
  refine qx_of .boolean (lo := [(0, .ref (qx_ad G k)), (1, .int p)]) (by decide +kernel) (Nat.le_of_ble_eq_true rfl) rfl (fun Δ (C : qx_C G Δ cX0_takesBehind RX0 4 2 45) hret => ?_)
  refine qk_aloadn C dX0_takesBehind_0 1 rfl rfl 0 rfl ?_
  refine qk_get C dX0_takesBehind_1 4 rfl qf_X0_18 _ hB.lt (qx_Fb hB _) rfl ?_
  refine qk_istoren C dX0_takesBehind_4 5 rfl rfl (by decide) rfl ?_
  refine qk_aloadn C dX0_takesBehind_5 6 rfl rfl 1 rfl ?_
  refine qk_iloadn C dX0_takesBehind_6 7 rfl rfl 2 rfl ?_
  refine qk_iconst C (1) dX0_takesBehind_7 8 rfl rfl ?_
  refine qk_isub C dX0_takesBehind_8 9 rfl ?_
  refine qk_callV C dX0_takesBehind_9 12 rfl ql_X0_78 qc_X0_receive _ hB.lt (qx_Fb hB _) rfl (c_X0_receive l G _ hB _ _) rfl rfl (Nat.le_of_ble_eq_true rfl) ⟨(Nat.le_of_ble_eq_true rfl), (Nat.le_of_ble_eq_true rfl)⟩ (qx_Kv ?_)
  refine qk_aloadn C dX0_takesBehind_12 13 rfl rfl 1 rfl ?_
  refine qk_iloadn C dX0_takesBehind_13 14 rfl rfl 2 rfl ?_
  refine qk_callV C dX0_takesBehind_14 17 rfl ql_X0_72 qc_X0_takes _ hB.lt (qx_Fb hB _) rfl (c_X0_takes l G _ hB _ _) rfl rfl (Nat.le_of_ble_eq_true rfl) ⟨(Nat.le_of_ble_eq_true rfl), (Nat.le_of_ble_eq_true rfl)⟩ (qx_Ki ?_)
  refine qk_cast (show _ = qb (z_tkb (σ k 0) (σ k 2) p) from by simp [va_up, upd, z_tkb]) ?_
  refine qk_istoren C dX0_takesBehind_17 18 rfl rfl (by decide) rfl ?_
  refine qk_aloadn C dX0_takesBehind_18 19 rfl rfl 2 rfl ?_
  refine qk_iloadn C dX0_takesBehind_19 20 rfl rfl 1 rfl ?_
  refine qk_put C .int dX0_takesBehind_20 23 rfl qf_X0_18 _ hB.lt (qx_Fb hB _) (fun q hq => by cases hq; rfl) rfl rfl (Nat.le_of_ble_eq_true rfl) (qx_Fb hB _) ?_
  refine qk_cg σ (qx_upB hB (qx_j7 (by simp [upd, va_up]) (by simp [upd, va_up]) (by simp [upd, va_up]) (by simp [upd, va_up]) (by simp [upd, va_up]) (by simp [upd, va_up]) (by simp [upd, va_up])) (by intro i hi; simp [va_up, hi])) ?_
  refine qk_iloadn C dX0_takesBehind_23 24 rfl rfl 0 rfl ?_
  exact hret _ _ _ _ dX0_takesBehind_24 ⟨congrArg (fun x => some (Value.int x)) (rfl), rfl⟩ (qb_nar _)

theorem c_X0_pathUpTo (l : Launch) (G : qx_G) (k : Nat) (hB : qx_isB k) (σ : qx_Sg) (p : Nat) (hp : p < 12) : qx_Ct l G yX0_pathUpTo cX0_pathUpTo 4 (some .int) 3 68 [.ref (qx_ad G k), .int (nI p)] (σ) (qx_pi (z_pF (σ k 0) (σ k 2) p 0) (σ)) := by
  refine qx_of .int (lo := [(0, .ref (qx_ad G k)), (1, .int (nI p))]) (by decide +kernel) (Nat.le_of_ble_eq_true rfl) rfl (fun Δ (C : qx_C G Δ cX0_pathUpTo RX0 4 3 68) hret => ?_)
  refine qk_iconst C (0) dX0_pathUpTo_0 1 rfl rfl ?_
  refine qk_istoren C dX0_pathUpTo_1 2 rfl rfl (by decide) rfl ?_
  refine qk_iloadn C dX0_pathUpTo_2 3 rfl rfl 2 rfl ?_
  refine qk_istoren C dX0_pathUpTo_3 4 rfl rfl (by decide) rfl ?_
  have lp_4 : ∀ (n_4 : Nat) (i : Nat) (a : Int32), (i < 12 ∧ z_pF (σ k 0) (σ k 2) p 0 = z_pF (σ k 0) (σ k 2) i a) → i < n_4 → qx_K l G Δ (σ) 4 [(3, .int (nI i)), (2, .int a), (0, .ref (qx_ad G k)), (1, .int (nI p))] [] := by
    intro n_4
    induction n_4 with
    | zero => intro _ _ _ h9; exact absurd h9 (Nat.not_lt_zero _)
    | succ n_4 ih_4 =>
      intro i a hi hm_4
      refine qk_iloadn C dX0_pathUpTo_4 5 rfl rfl 0 rfl ?_
      refine qk_if_lt C dX0_pathUpTo_5 44 rfl 8 rfl (fun c_5 => absurd c_5 (nI_pos (by omega))) (fun c_5 => ?_)
      refine qk_iloadn C dX0_pathUpTo_8 9 rfl rfl 1 rfl ?_
      refine qk_iconst C (1) dX0_pathUpTo_9 10 rfl rfl ?_
      refine qk_iloadn C dX0_pathUpTo_10 11 rfl rfl 0 rfl ?_
      refine qk_ishl C dX0_pathUpTo_11 12 rfl ?_
      refine qk_ior C dX0_pathUpTo_12 13 rfl ?_
      refine qk_cast (show _ = z_rc a (nI i) from rfl) ?_
      refine qk_istoren C dX0_pathUpTo_13 14 rfl rfl (by decide) rfl ?_
      refine qk_aloadn C dX0_pathUpTo_14 15 rfl rfl 2 rfl ?_
      refine qk_iloadn C dX0_pathUpTo_15 16 rfl rfl 1 rfl ?_
      refine qk_callV C dX0_pathUpTo_16 19 rfl ql_X0_72 qc_X0_takes _ hB.lt (qx_Fb hB _) rfl (c_X0_takes l G _ hB _ _) rfl rfl (Nat.le_of_ble_eq_true rfl) ⟨(Nat.le_of_ble_eq_true rfl), (Nat.le_of_ble_eq_true rfl)⟩ (qx_Ki ?_)
      refine qk_if_eqB C dX0_pathUpTo_19 24 rfl 22 rfl (fun c_19 => ?_) (fun c_19 => ?_)
      · refine qk_iloadn C dX0_pathUpTo_24 25 rfl rfl 1 rfl ?_
        refine qk_if_eq C dX0_pathUpTo_25 36 rfl 28 rfl (fun c_25 => ?_) (fun c_25 => ?_)
        · have hi0 : i = 0 := (nI_eq (by omega) (by omega)).mp c_25
          subst hi0
          refine qk_iconst C (0) dX0_pathUpTo_36 37 rfl rfl ?_
          exact hret _ _ _ _ dX0_pathUpTo_37 ⟨congrArg (fun x => some (Value.int x)) (by rw [hi.2]; first | exact (z_pF_0 c_19).symm | exact (z_pF_no hi0 c_19 c_33).symm), rfl⟩ rfl
        · have hi0 : 0 < i := Nat.pos_of_ne_zero (fun e => c_25 (by subst e; rfl))
          refine qk_aloadn C dX0_pathUpTo_28 29 rfl rfl 2 rfl ?_
          refine qk_iloadn C dX0_pathUpTo_29 30 rfl rfl 1 rfl ?_
          refine qk_callV C dX0_pathUpTo_30 33 rfl ql_X0_75 qc_X0_takesBehind _ hB.lt (qx_Fb hB _) rfl (c_X0_takesBehind l G _ hB _ _) rfl rfl (Nat.le_of_ble_eq_true rfl) ⟨(Nat.le_of_ble_eq_true rfl), (Nat.le_of_ble_eq_true rfl)⟩ (qx_Ki ?_)
          refine qk_if_neB C dX0_pathUpTo_33 38 rfl 36 rfl (fun c_33 => ?_) (fun c_33 => ?_)
          · refine qk_iinc C (nI (i - 1)) dX0_pathUpTo_38 41 rfl 1 rfl (by obtain ⟨j, rfl⟩ : ∃ j, i = j + 1 := ⟨i - 1, by omega⟩; exact pk_m1 j) (by decide) rfl ?_
            refine qk_goto C dX0_pathUpTo_41 4 rfl ?_
            exact ih_4 (i - 1) _ ⟨by omega, by rw [hi.2]; exact z_pF_go hi0 c_19 c_33⟩ (by omega)
          · refine qk_iconst C (0) dX0_pathUpTo_36 37 rfl rfl ?_
            exact hret _ _ _ _ dX0_pathUpTo_37 ⟨congrArg (fun x => some (Value.int x)) (by rw [hi.2]; first | exact (z_pF_0 c_19).symm | exact (z_pF_no hi0 c_19 c_33).symm), rfl⟩ rfl
      · refine qk_iloadn C dX0_pathUpTo_22 23 rfl rfl 0 rfl ?_
        exact hret _ _ _ _ dX0_pathUpTo_23 ⟨congrArg (fun x => some (Value.int x)) (by rw [hi.2]; exact (z_pF_hit c_19).symm), rfl⟩ rfl
  exact lp_4 _ p 0 ⟨hp, rfl⟩ (Nat.lt_succ_self _)

