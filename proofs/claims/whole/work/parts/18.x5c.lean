/-! the methods of BustRest: sheets, images, the tape's bytes, odds -/
theorem qx_upS {G : qx_G} {k : Nat} (hS : qx_isS k) {σ σ' : qx_Sg} (h0 : σ k 0 = σ' k 0) (h1 : σ k 1 = σ' k 1) (h4 : ∀ i, i < 40 → σ (k + 4) i = σ' (k + 4) i) (ho : ∀ i, i ≠ k → i ≠ k + 4 → σ i = σ' i) : ∀ i, i < 65 → qx_F G i (σ i) = qx_F G i (σ' i) := by
  intro i hi
  by_cases e : i = k
  · subst e
    rw [qx_Fs hS, qx_Fs hS]
    unfold qx_sh
    rw [h0, h1]
  · by_cases e2 : i = k + 4
    · subst e2
      rw [qx_Fs4 hS, qx_Fs4 hS]
      exact qx_ia_ext h4
    · rw [ho i e e2]
def z_zr (r : Nat → Int32) (i : Nat) : Nat → Int32 := fun j => if j < i then 0 else r j
theorem z_zr_s {τ : qx_Sg} {c i : Nat} {r : Nat → Int32} : va_up (va_up τ c (z_zr r i)) c (upd (va_up τ c (z_zr r i) c) i 0) = va_up τ c (z_zr r (i + 1)) := by
  funext k j
  unfold va_up upd z_zr
  by_cases e : k = c
  · simp only [e, if_true]
    by_cases e2 : j = i
    · simp [e2]
    · by_cases e3 : j < i
      · simp [e2, e3, Nat.lt_succ_of_lt e3]
      · rw [if_neg e2, if_neg e3, if_neg (by omega)]
  · simp only [e, if_false]
theorem z_in_m1 {x : Int32} {n : Nat} (hn : n ≤ 40) (h : z_in x (nI n - 1)) : ∃ j, j < n ∧ x = nI j := by
  obtain ⟨j, hj, rfl⟩ := nI_of h.1
  cases n with
  | zero => exact absurd (show (nI 0 - 1 : Int32) < nI j from by have := nI_pos' hj; exact Int32.lt_of_lt_of_le (by decide) this) h.2
  | succ n =>
    rw [nI_pred] at h
    exact ⟨j, by have := Nat.not_lt.mp (fun q => h.2 (nI_lt q hj)); omega, rfl⟩
theorem z_sps_ex {n : Nat} {f m : Int32} (hn : n ≤ 40) (h : z_sps (nI n) f m) : ∃ a b, f = nI a ∧ m = nI b ∧ a + b ≤ n := by
  obtain ⟨a, ha, rfl⟩ := nI_of h.1
  obtain ⟨b, hb, rfl⟩ := nI_of h.2.1
  have hbn : b ≤ n := Nat.not_lt.mp (fun q => h.2.2.1 (nI_lt q hb))
  have h4 := h.2.2.2
  rw [pk_sub hbn] at h4
  have : a ≤ n - b := Nat.not_lt.mp (fun q => h4 (nI_lt q ha))
  exact ⟨a, b, rfl, rfl, by omega⟩
theorem qL_hi {σ : qx_Sg} {N k : Nat} {w : Nat → Int32} (hN : N ≤ 8) (hk : 27 ≤ k) : qL σ 1 N w k = σ k := qL_o (by omega) (by omega)
theorem qL_hi14 {σ : qx_Sg} {N k : Nat} {w : Nat → Int32} (hN : N ≤ 8) (hk : 27 ≤ k) : qL σ 14 N w k = σ k := qL_o (by omega) (by omega)
theorem c_X2_isMissing (l : Launch) (G : qx_G) (k : Nat) (hS : qx_isS k) (σ : qx_Sg) : qx_Ct l G yX2_isMissing cX2_isMissing 1 (some .boolean) 0 0 [.ref (qx_ad G k)] (σ) (qx_pi (qb (σ k 0 = 0)) (σ)) := by
  refine qx_of .boolean (lo := [(0, .ref (qx_ad G k))]) (by decide +kernel) (Nat.le_of_ble_eq_true rfl) rfl (fun Δ (C : qx_C G Δ cX2_isMissing RX2 1 0 0) hret => ?_)
  refine qk_aloadn C dX2_isMissing_0 1 rfl rfl 0 rfl ?_
  refine qk_get C dX2_isMissing_1 4 rfl qf_X2_9 _ hS.lt (qx_Fs hS _) rfl ?_
  refine qk_if_ne C dX2_isMissing_4 11 rfl 7 rfl (fun c_4 => ?_) (fun c_4 => ?_)
  · refine qk_iconst C (0) dX2_isMissing_11 12 rfl rfl ?_
    exact hret _ _ _ _ dX2_isMissing_12 ⟨congrArg (fun x => some (Value.int x)) ((qb_f (c_4)).symm), rfl⟩ rfl
  · refine qk_iconst C (1) dX2_isMissing_7 8 rfl rfl ?_
    refine qk_goto C dX2_isMissing_8 12 rfl ?_
    exact hret _ _ _ _ dX2_isMissing_12 ⟨congrArg (fun x => some (Value.int x)) ((qb_t (c_4)).symm), rfl⟩ rfl

theorem c_X2_begin (l : Launch) (G : qx_G) (k : Nat) (hS : qx_isS k) (σ : qx_Sg) (b n : Int32) : qx_Ct l G yX2_begin cX2_begin 4 none 0 0 [.ref (qx_ad G k), .int b, .int n] (σ) (qx_pv (va_up (va_up σ k (z_sb b n)) (k + 4) (fun _ => 0))) := by
  refine qx_ofV (lo := [(0, .ref (qx_ad G k)), (1, .int b), (2, .int n)]) (by decide +kernel) (Nat.le_of_ble_eq_true rfl) rfl (fun Δ (C : qx_C G Δ cX2_begin RX2 4 0 0) hret => ?_)
  refine qk_aloadn C dX2_begin_0 1 rfl rfl 0 rfl ?_
  refine qk_iloadn C dX2_begin_1 2 rfl rfl 1 rfl ?_
  refine qk_put C .int dX2_begin_2 5 rfl qf_X2_9 _ hS.lt (qx_Fs hS _) (fun q hq => by cases hq; rfl) rfl rfl (Nat.le_of_ble_eq_true rfl) (qx_Fs hS _) ?_
  refine qk_aloadn C dX2_begin_5 6 rfl rfl 0 rfl ?_
  refine qk_iloadn C dX2_begin_6 7 rfl rfl 1 rfl ?_
  refine qk_if_ne C dX2_begin_7 14 rfl 10 rfl (fun c_7 => ?_) (fun c_7 => ?_)
  · refine qk_iloadn C dX2_begin_14 15 rfl rfl 2 rfl ?_
    refine qk_put C .int dX2_begin_15 18 rfl qf_X2_15 _ hS.lt (qx_Fs hS _) (fun q hq => by cases hq; rfl) rfl rfl (Nat.le_of_ble_eq_true rfl) (qx_Fs hS _) ?_
    refine qk_cg (va_up (va_up σ k (z_sb b n)) (k + 4) (z_zr (σ (k + 4)) 0)) (qx_upS hS (by simp [va_up, upd, z_sb, c_7]) (by simp [va_up, upd, z_sb, c_7]) (fun i _ => by simp [va_up, z_zr]) (fun i h1 h2 => by simp [va_up, h1, h2])) ?_
    refine qk_iconst C (nI 0) dX2_begin_18 19 rfl rfl ?_
    refine qk_istoren C dX2_begin_19 20 rfl rfl (by decide) rfl ?_
    have lp_20 : ∀ (n_20 : Nat) (i : Nat), i ≤ 40 → 40 - i < n_20 → qx_K l G Δ (va_up (va_up σ k (z_sb b n)) (k + 4) (z_zr (σ (k + 4)) i)) 20 [(3, .int (nI i)), (0, .ref (qx_ad G k))] [] := by
      intro n_20
      induction n_20 with
      | zero => intro _ _ h9; exact absurd h9 (Nat.not_lt_zero _)
      | succ n_20 ih_20 =>
        intro i hi hm_20
        refine qk_iloadn C dX2_begin_20 21 rfl rfl 0 rfl ?_
        refine qk_bipush C (nI 40) dX2_begin_21 23 rfl rfl ?_
        refine qk_icmp_ge C dX2_begin_23 39 rfl 26 rfl (fun c_23 => ?_) (fun c_23 => ?_)
        · have h40 : 40 ≤ i := (nI_leI (by omega) (by omega)).mp c_23
          refine qk_cg (va_up (va_up σ k (z_sb b n)) (k + 4) (fun _ => 0)) (qx_upS hS (by simp [va_up]) (by simp [va_up]) (fun j hj => by simp [va_up, z_zr]; omega) (fun i h1 h2 => by simp [va_up, h1, h2])) ?_
          exact hret _ _ _ dX2_begin_39 ⟨rfl, rfl⟩
        · have h40 : i < 40 := Nat.not_le.mp (fun q => c_23 (nI_le q (by omega)))
          refine qk_aloadn C dX2_begin_26 27 rfl rfl 1 rfl ?_
          refine qk_get C dX2_begin_27 30 rfl qf_X2_18 _ hS.lt (qx_Fs hS _) rfl ?_
          refine qk_iloadn C dX2_begin_30 31 rfl rfl 0 rfl ?_
          refine qk_iconst C (0) dX2_begin_31 32 rfl rfl ?_
          refine qk_iast C dX2_begin_32 33 rfl (k + 4) (by have := hS.lt4; omega) (qx_Fs4 hS) i rfl h40 (by decide) ?_
          refine qk_sg _ (z_zr_s) ?_
          refine qk_iinc C (nI (i + 1)) dX2_begin_33 36 rfl 0 rfl (nI_1 i) (by decide) rfl ?_
          refine qk_goto C dX2_begin_36 20 rfl ?_
          exact ih_20 (i + 1) (by omega) (by omega)
    exact qk_lo [0, 1] rfl (lp_20 _ 0 (by omega) (Nat.lt_succ_self _))
  · refine qk_iconst C (0) dX2_begin_10 11 rfl rfl ?_
    refine qk_goto C dX2_begin_11 15 rfl ?_
    refine qk_put C .int dX2_begin_15 18 rfl qf_X2_15 _ hS.lt (qx_Fs hS _) (fun q hq => by cases hq; rfl) rfl rfl (Nat.le_of_ble_eq_true rfl) (qx_Fs hS _) ?_
    refine qk_cg (va_up (va_up σ k (z_sb b n)) (k + 4) (z_zr (σ (k + 4)) 0)) (qx_upS hS (by simp [va_up, upd, z_sb, c_7]) (by simp [va_up, upd, z_sb, c_7]) (fun i _ => by simp [va_up, z_zr]) (fun i h1 h2 => by simp [va_up, h1, h2])) ?_
    refine qk_iconst C (nI 0) dX2_begin_18 19 rfl rfl ?_
    refine qk_istoren C dX2_begin_19 20 rfl rfl (by decide) rfl ?_
    have lp_20 : ∀ (n_20 : Nat) (i : Nat), i ≤ 40 → 40 - i < n_20 → qx_K l G Δ (va_up (va_up σ k (z_sb b n)) (k + 4) (z_zr (σ (k + 4)) i)) 20 [(3, .int (nI i)), (0, .ref (qx_ad G k))] [] := by
      intro n_20
      induction n_20 with
      | zero => intro _ _ h9; exact absurd h9 (Nat.not_lt_zero _)
      | succ n_20 ih_20 =>
        intro i hi hm_20
        refine qk_iloadn C dX2_begin_20 21 rfl rfl 0 rfl ?_
        refine qk_bipush C (nI 40) dX2_begin_21 23 rfl rfl ?_
        refine qk_icmp_ge C dX2_begin_23 39 rfl 26 rfl (fun c_23 => ?_) (fun c_23 => ?_)
        · have h40 : 40 ≤ i := (nI_leI (by omega) (by omega)).mp c_23
          refine qk_cg (va_up (va_up σ k (z_sb b n)) (k + 4) (fun _ => 0)) (qx_upS hS (by simp [va_up]) (by simp [va_up]) (fun j hj => by simp [va_up, z_zr]; omega) (fun i h1 h2 => by simp [va_up, h1, h2])) ?_
          exact hret _ _ _ dX2_begin_39 ⟨rfl, rfl⟩
        · have h40 : i < 40 := Nat.not_le.mp (fun q => c_23 (nI_le q (by omega)))
          refine qk_aloadn C dX2_begin_26 27 rfl rfl 1 rfl ?_
          refine qk_get C dX2_begin_27 30 rfl qf_X2_18 _ hS.lt (qx_Fs hS _) rfl ?_
          refine qk_iloadn C dX2_begin_30 31 rfl rfl 0 rfl ?_
          refine qk_iconst C (0) dX2_begin_31 32 rfl rfl ?_
          refine qk_iast C dX2_begin_32 33 rfl (k + 4) (by have := hS.lt4; omega) (qx_Fs4 hS) i rfl h40 (by decide) ?_
          refine qk_sg _ (z_zr_s) ?_
          refine qk_iinc C (nI (i + 1)) dX2_begin_33 36 rfl 0 rfl (nI_1 i) (by decide) rfl ?_
          refine qk_goto C dX2_begin_36 20 rfl ?_
          exact ih_20 (i + 1) (by omega) (by omega)
    exact qk_lo [0, 1] rfl (lp_20 _ 0 (by omega) (Nat.lt_succ_self _))

theorem c_X2_put (l : Launch) (G : qx_G) (k : Nat) (hS : qx_isS k) (σ : qx_Sg) (j : Nat) (hj : j < 40) (v : Int32) : qx_Ct l G yX2_put cX2_put 3 none 0 0 [.ref (qx_ad G k), .int (nI j), .int v] (σ) (qx_pv (va_up σ (k + 4) (upd (σ (k + 4)) j (z_cut (σ k 0) v)))) := by
  refine qx_ofV (lo := [(0, .ref (qx_ad G k)), (1, .int (nI j)), (2, .int v)]) (by decide +kernel) (Nat.le_of_ble_eq_true rfl) rfl (fun Δ (C : qx_C G Δ cX2_put RX2 3 0 0) hret => ?_)
  refine qk_aloadn C dX2_put_0 1 rfl rfl 0 rfl ?_
  refine qk_get C dX2_put_1 4 rfl qf_X2_9 _ hS.lt (qx_Fs hS _) rfl ?_
  refine qk_bipush C (8) dX2_put_4 6 rfl rfl ?_
  refine qk_icmp_ne C dX2_put_6 20 rfl 9 rfl (fun c_6 => ?_) (fun c_6 => ?_)
  · refine qk_aloadn C dX2_put_20 21 rfl rfl 0 rfl ?_
    refine qk_get C dX2_put_21 24 rfl qf_X2_9 _ hS.lt (qx_Fs hS _) rfl ?_
    refine qk_bipush C (16) dX2_put_24 26 rfl rfl ?_
    refine qk_icmp_ne C dX2_put_26 40 rfl 29 rfl (fun c_26 => ?_) (fun c_26 => ?_)
    · refine qk_aloadn C dX2_put_40 41 rfl rfl 0 rfl ?_
      refine qk_get C dX2_put_41 44 rfl qf_X2_18 _ hS.lt (qx_Fs hS _) rfl ?_
      refine qk_iloadn C dX2_put_44 45 rfl rfl 1 rfl ?_
      refine qk_iloadn C dX2_put_45 46 rfl rfl 2 rfl ?_
      refine qk_iast C dX2_put_46 47 rfl (k + 4) (by have := hS.lt4; omega) (qx_Fs4 hS) j rfl hj (by decide) ?_
      exact hret _ _ _ dX2_put_47 ⟨rfl, congrArg (fun x => va_up σ (k + 4) (upd (σ (k + 4)) j x)) (by simp [z_cut, c_6, c_26])⟩
    · refine qk_aloadn C dX2_put_29 30 rfl rfl 0 rfl ?_
      refine qk_get C dX2_put_30 33 rfl qf_X2_18 _ hS.lt (qx_Fs hS _) rfl ?_
      refine qk_iloadn C dX2_put_33 34 rfl rfl 1 rfl ?_
      refine qk_iloadn C dX2_put_34 35 rfl rfl 2 rfl ?_
      refine qk_i2s C dX2_put_35 36 rfl ?_
      refine qk_iast C dX2_put_36 37 rfl (k + 4) (by have := hS.lt4; omega) (qx_Fs4 hS) j rfl hj (by decide) ?_
      refine qk_goto C dX2_put_37 47 rfl ?_
      exact hret _ _ _ dX2_put_47 ⟨rfl, congrArg (fun x => va_up σ (k + 4) (upd (σ (k + 4)) j x)) (by simp [z_cut, c_6, c_26])⟩
  · refine qk_aloadn C dX2_put_9 10 rfl rfl 0 rfl ?_
    refine qk_get C dX2_put_10 13 rfl qf_X2_18 _ hS.lt (qx_Fs hS _) rfl ?_
    refine qk_iloadn C dX2_put_13 14 rfl rfl 1 rfl ?_
    refine qk_iloadn C dX2_put_14 15 rfl rfl 2 rfl ?_
    refine qk_i2b C dX2_put_15 16 rfl ?_
    refine qk_iast C dX2_put_16 17 rfl (k + 4) (by have := hS.lt4; omega) (qx_Fs4 hS) j rfl hj (by decide) ?_
    refine qk_goto C dX2_put_17 47 rfl ?_
    exact hret _ _ _ dX2_put_47 ⟨rfl, congrArg (fun x => va_up σ (k + 4) (upd (σ (k + 4)) j x)) (by simp [z_cut, c_6])⟩

theorem c_X2_spans (l : Launch) (G : qx_G) (k : Nat) (hS : qx_isS k) (σ : qx_Sg) (f n : Int32) : qx_Ct l G yX2_spans cX2_spans 3 (some .boolean) 0 0 [.ref (qx_ad G k), .int f, .int n] (σ) (qx_pi (qb (z_sps (σ k 1) f n)) (σ)) := by
  refine qx_of .boolean (lo := [(0, .ref (qx_ad G k)), (1, .int f), (2, .int n)]) (by decide +kernel) (Nat.le_of_ble_eq_true rfl) rfl (fun Δ (C : qx_C G Δ cX2_spans RX2 3 0 0) hret => ?_)
  refine qk_iloadn C dX2_spans_0 1 rfl rfl 1 rfl ?_
  refine qk_if_lt C dX2_spans_1 30 rfl 4 rfl (fun c_1 => ?_) (fun c_1 => ?_)
  · refine qk_iconst C (0) dX2_spans_30 31 rfl rfl ?_
    exact hret _ _ _ _ dX2_spans_31 ⟨congrArg (fun x => some (Value.int x)) ((qb_f (by first | exact ⟨c_1, c_5, c_13, c_23⟩ | exact fun q => q.1 c_1 | exact fun q => q.2.1 c_5 | exact fun q => q.2.2.1 c_13 | exact fun q => q.2.2.2 c_23)).symm), rfl⟩ rfl
  · refine qk_iloadn C dX2_spans_4 5 rfl rfl 2 rfl ?_
    refine qk_if_lt C dX2_spans_5 30 rfl 8 rfl (fun c_5 => ?_) (fun c_5 => ?_)
    · refine qk_iconst C (0) dX2_spans_30 31 rfl rfl ?_
      exact hret _ _ _ _ dX2_spans_31 ⟨congrArg (fun x => some (Value.int x)) ((qb_f (by first | exact ⟨c_1, c_5, c_13, c_23⟩ | exact fun q => q.1 c_1 | exact fun q => q.2.1 c_5 | exact fun q => q.2.2.1 c_13 | exact fun q => q.2.2.2 c_23)).symm), rfl⟩ rfl
    · refine qk_iloadn C dX2_spans_8 9 rfl rfl 2 rfl ?_
      refine qk_aloadn C dX2_spans_9 10 rfl rfl 0 rfl ?_
      refine qk_get C dX2_spans_10 13 rfl qf_X2_15 _ hS.lt (qx_Fs hS _) rfl ?_
      refine qk_icmp_gt C dX2_spans_13 30 rfl 16 rfl (fun c_13 => ?_) (fun c_13 => ?_)
      · refine qk_iconst C (0) dX2_spans_30 31 rfl rfl ?_
        exact hret _ _ _ _ dX2_spans_31 ⟨congrArg (fun x => some (Value.int x)) ((qb_f (by first | exact ⟨c_1, c_5, c_13, c_23⟩ | exact fun q => q.1 c_1 | exact fun q => q.2.1 c_5 | exact fun q => q.2.2.1 c_13 | exact fun q => q.2.2.2 c_23)).symm), rfl⟩ rfl
      · refine qk_iloadn C dX2_spans_16 17 rfl rfl 1 rfl ?_
        refine qk_aloadn C dX2_spans_17 18 rfl rfl 0 rfl ?_
        refine qk_get C dX2_spans_18 21 rfl qf_X2_15 _ hS.lt (qx_Fs hS _) rfl ?_
        refine qk_iloadn C dX2_spans_21 22 rfl rfl 2 rfl ?_
        refine qk_isub C dX2_spans_22 23 rfl ?_
        refine qk_icmp_gt C dX2_spans_23 30 rfl 26 rfl (fun c_23 => ?_) (fun c_23 => ?_)
        · refine qk_iconst C (0) dX2_spans_30 31 rfl rfl ?_
          exact hret _ _ _ _ dX2_spans_31 ⟨congrArg (fun x => some (Value.int x)) ((qb_f (by first | exact ⟨c_1, c_5, c_13, c_23⟩ | exact fun q => q.1 c_1 | exact fun q => q.2.1 c_5 | exact fun q => q.2.2.1 c_13 | exact fun q => q.2.2.2 c_23)).symm), rfl⟩ rfl
        · refine qk_iconst C (1) dX2_spans_26 27 rfl rfl ?_
          refine qk_goto C dX2_spans_27 31 rfl ?_
          exact hret _ _ _ _ dX2_spans_31 ⟨congrArg (fun x => some (Value.int x)) ((qb_t (by first | exact ⟨c_1, c_5, c_13, c_23⟩ | exact fun q => q.1 c_1 | exact fun q => q.2.1 c_5 | exact fun q => q.2.2.1 c_13 | exact fun q => q.2.2.2 c_23)).symm), rfl⟩ rfl

theorem c_X3_append (l : Launch) (G : qx_G) (σ : qx_Sg) (b : Int32) (t : Nat) (ht : t < 120) (et : σ 40 1 = nI t) : qx_Ct l G yX3_append cX3_append 2 none 0 0 [.ref (qx_ad G 40), .int b] (σ) (qx_pv (va_up (va_up σ 41 (upd (σ 41) t b)) 40 (upd (σ 40) 1 (nI (t + 1))))) := by
  refine qx_ofV (lo := [(0, .ref (qx_ad G 40)), (1, .int b)]) (by decide +kernel) (Nat.le_of_ble_eq_true rfl) rfl (fun Δ (C : qx_C G Δ cX3_append RX3 2 0 0) hret => ?_)
  refine qk_aloadn C dX3_append_0 1 rfl rfl 0 rfl ?_
  refine qk_get C dX3_append_1 4 rfl qf_X3_15 40 (by decide) rfl rfl ?_
  refine qk_cast (et) ?_
  refine qk_bipush C (nI 120) dX3_append_4 6 rfl rfl ?_
  refine qk_icmp_ge C dX3_append_6 29 rfl 9 rfl (fun c_6 => absurd c_6 (nI_ge ht (by omega))) (fun c_6 => ?_)
  refine qk_aloadn C dX3_append_9 10 rfl rfl 0 rfl ?_
  refine qk_get C dX3_append_10 13 rfl qf_X3_9 40 (by decide) rfl rfl ?_
  refine qk_aloadn C dX3_append_13 14 rfl rfl 0 rfl ?_
  refine qk_get C dX3_append_14 17 rfl qf_X3_15 40 (by decide) rfl rfl ?_
  refine qk_cast (et) ?_
  refine qk_iloadn C dX3_append_17 18 rfl rfl 1 rfl ?_
  refine qk_iast C dX3_append_18 19 rfl 41 (by decide) (fun _ => rfl) t rfl ht (by decide) ?_
  refine qk_aloadn C dX3_append_19 20 rfl rfl 0 rfl ?_
  refine qk_dup C dX3_append_20 21 rfl rfl ?_
  refine qk_get C dX3_append_21 24 rfl qf_X3_15 40 (by decide) rfl rfl ?_
  refine qk_cast (et) ?_
  refine qk_iconst C (1) dX3_append_24 25 rfl rfl ?_
  refine qk_iadd C dX3_append_25 26 rfl ?_
  refine qk_cast (nI_1 t) ?_
  refine qk_put C .int dX3_append_26 29 rfl qf_X3_15 40 (by decide) rfl (fun q hq => by cases hq; rfl) rfl rfl (Nat.le_of_ble_eq_true rfl) rfl ?_
  exact hret _ _ _ dX3_append_29 ⟨rfl, rfl⟩

theorem c_X5_isSheet (l : Launch) (G : qx_G) (σ : qx_Sg) (s : Int32) : qx_Ct l G yX5_isSheet cX5_isSheet 2 (some .boolean) 1 21 [.ref (qx_ad G 0), .int s] (σ) (qx_pi (qb (z_in s 3)) (σ)) := by
  refine qx_of .boolean (lo := [(0, .ref (qx_ad G 0)), (1, .int s)]) (by decide +kernel) (Nat.le_of_ble_eq_true rfl) rfl (fun Δ (C : qx_C G Δ cX5_isSheet RX5 2 1 21) hret => ?_)
  refine qk_iloadn C dX5_isSheet_0 1 rfl rfl 1 rfl ?_
  refine qk_iconst C (3) dX5_isSheet_1 2 rfl rfl ?_
  refine qk_callS C dX5_isSheet_2 5 rfl ql_X5_53 qc_X5_within (c_X5_within l G _ _ _) rfl rfl (Nat.le_of_ble_eq_true rfl) ⟨(Nat.le_of_ble_eq_true rfl), (Nat.le_of_ble_eq_true rfl)⟩ (qx_Ki ?_)
  exact hret _ _ _ _ dX5_isSheet_5 ⟨congrArg (fun x => some (Value.int x)) (rfl), rfl⟩ (qb_nar _)

theorem c_X5_findingOfSheet (l : Launch) (G : qx_G) (σ : qx_Sg) (s : Int32) : qx_Ct l G yX5_findingOfSheet cX5_findingOfSheet 2 (some .int) 2 42 [.ref (qx_ad G 0), .int s] (σ) (qx_pi (z_fos σ s) (σ)) := by
  refine qx_of .int (lo := [(0, .ref (qx_ad G 0)), (1, .int s)]) (by decide +kernel) (Nat.le_of_ble_eq_true rfl) rfl (fun Δ (C : qx_C G Δ cX5_findingOfSheet RX5 2 2 42) hret => ?_)
  refine qk_aloadn C dX5_findingOfSheet_0 1 rfl rfl 0 rfl ?_
  refine qk_iloadn C dX5_findingOfSheet_1 2 rfl rfl 1 rfl ?_
  refine qk_callV C dX5_findingOfSheet_2 5 rfl ql_X5_222 qc_X5_isSheet 0 (by decide) rfl rfl (c_X5_isSheet l G _ _) rfl rfl (Nat.le_of_ble_eq_true rfl) ⟨(Nat.le_of_ble_eq_true rfl), (Nat.le_of_ble_eq_true rfl)⟩ (qx_Ki ?_)
  refine qk_if_neB C dX5_findingOfSheet_5 11 rfl 8 rfl (fun c_5 => ?_) (fun c_5 => ?_)
  · obtain ⟨js, hjs, rfl⟩ := z_in_ex 3 rfl (by omega) c_5
    have hSs : qx_isS (44 + js) := ⟨js, by omega, rfl⟩
    refine qk_aloadn C dX5_findingOfSheet_11 12 rfl rfl 0 rfl ?_
    refine qk_get C dX5_findingOfSheet_12 15 rfl qf_X5_44 0 (by decide) rfl rfl ?_
    refine qk_iloadn C dX5_findingOfSheet_15 16 rfl rfl 1 rfl ?_
    refine qk_aald C dX5_findingOfSheet_16 17 rfl 43 (by decide) 2 rfl rfl (js) rfl (by omega) (by decide) rfl ?_
    refine qk_callV C dX5_findingOfSheet_17 20 rfl ql_X5_238 qc_X2_isMissing _ hSs.lt (qx_Fs hSs _) rfl (c_X2_isMissing l G _ hSs _) rfl rfl (Nat.le_of_ble_eq_true rfl) ⟨(Nat.le_of_ble_eq_true rfl), (Nat.le_of_ble_eq_true rfl)⟩ (qx_Ki ?_)
    refine qk_if_eqB C dX5_findingOfSheet_20 28 rfl 23 rfl (fun c_20 => ?_) (fun c_20 => ?_)
    · refine qk_iconst C (0) dX5_findingOfSheet_28 29 rfl rfl ?_
      exact hret _ _ _ _ dX5_findingOfSheet_29 ⟨congrArg (fun x => some (Value.int x)) (by unfold z_fos; rw [zn_nI (show js < 2 ^ 31 by omega)]; exact ((z_sel_t c_5).trans (z_sel_f c_20)).symm), rfl⟩ rfl
    · refine qk_ldc C dX5_findingOfSheet_23 25 rfl qw_605 ?_
      refine qk_goto C dX5_findingOfSheet_25 29 rfl ?_
      exact hret _ _ _ _ dX5_findingOfSheet_29 ⟨congrArg (fun x => some (Value.int x)) (by unfold z_fos; rw [zn_nI (show js < 2 ^ 31 by omega)]; exact ((z_sel_t c_5).trans (z_sel_t c_20)).symm), rfl⟩ rfl
  · refine qk_ldc C dX5_findingOfSheet_8 10 rfl qw_321 ?_
    exact hret _ _ _ _ dX5_findingOfSheet_10 ⟨congrArg (fun x => some (Value.int x)) ((z_sel_f c_5).symm), rfl⟩ rfl

noncomputable def z_fov (σ : qx_Sg) (N : Nat) (s b : Int32) : Int32 := z_sel (z_fos σ s = 0) (z_sel (z_ib N b) 0 (-1000001)) (z_fos σ s)
theorem z_fos_li {σ : qx_Sg} {N : Nat} {w : Nat → Int32} {s : Int32} (hN : N ≤ 8) : z_fos (qL σ 1 N w) s = z_fos σ s := by
  unfold z_fos
  rw [qL_hi hN (by omega)]
theorem z_fov_cases (σ : qx_Sg) (N : Nat) (s b : Int32) : (¬ z_in s 3 ∧ z_fov σ N s b = -1000001) ∨ (z_in s 3 ∧ σ (44 + zn s) 0 = 0 ∧ z_fov σ N s b = -1000006) ∨ (z_in s 3 ∧ ¬ σ (44 + zn s) 0 = 0 ∧ ¬ z_ib N b ∧ z_fov σ N s b = -1000001) ∨ (z_in s 3 ∧ ¬ σ (44 + zn s) 0 = 0 ∧ z_ib N b ∧ z_fov σ N s b = 0) := by
  unfold z_fov
  rcases z_fos_cases σ s with ⟨h, e⟩ | ⟨h, h2, e⟩ | ⟨h, h2, e⟩
  · exact Or.inl ⟨h, by rw [e]; exact z_sel_f (by decide)⟩
  · exact Or.inr (Or.inl ⟨h, h2, by rw [e]; exact z_sel_f (by decide)⟩)
  · by_cases hb : z_ib N b
    · exact Or.inr (Or.inr (Or.inr ⟨h, h2, hb, by rw [e]; exact (z_sel_t rfl).trans (z_sel_t hb)⟩))
    · exact Or.inr (Or.inr (Or.inl ⟨h, h2, hb, by rw [e]; exact (z_sel_t rfl).trans (z_sel_f hb)⟩))
theorem c_X5_findingOfVoices (l : Launch) (G : qx_G) (σ : qx_Sg) (N : Nat) (w : Nat → Int32) (hI : qv_ok w N) (s b : Int32) : qx_Ct l G yX5_findingOfVoices cX5_findingOfVoices 4 (some .int) 3 63 [.ref (qx_ad G 0), .int s, .int b] (qL σ 1 N w) (qx_pi (z_fov σ N s b) (qL σ 1 N w)) := by
  refine qx_of .int (lo := [(0, .ref (qx_ad G 0)), (1, .int s), (2, .int b)]) (by decide +kernel) (Nat.le_of_ble_eq_true rfl) rfl (fun Δ (C : qx_C G Δ cX5_findingOfVoices RX5 4 3 63) hret => ?_)
  have hL : qx_isL 1 := Or.inl rfl
  have hM : qx_isL 14 := Or.inr (Or.inl rfl)
  have hN8 := hI.1
  have hN1 := hI.2.1
  refine qk_aloadn C dX5_findingOfVoices_0 1 rfl rfl 0 rfl ?_
  refine qk_iloadn C dX5_findingOfVoices_1 2 rfl rfl 1 rfl ?_
  refine qk_callV C dX5_findingOfVoices_2 5 rfl ql_X5_232 qc_X5_findingOfSheet 0 (by decide) rfl rfl (c_X5_findingOfSheet l G _ _) rfl rfl (Nat.le_of_ble_eq_true rfl) ⟨(Nat.le_of_ble_eq_true rfl), (Nat.le_of_ble_eq_true rfl)⟩ (qx_Ki ?_)
  refine qk_cast (z_fos_li hN8) ?_
  refine qk_istoren C dX5_findingOfVoices_5 6 rfl rfl (by decide) rfl ?_
  refine qk_iloadn C dX5_findingOfVoices_6 7 rfl rfl 0 rfl ?_
  refine qk_if_eq C dX5_findingOfVoices_7 12 rfl 10 rfl (fun c_7 => ?_) (fun c_7 => ?_)
  · refine qk_aloadn C dX5_findingOfVoices_12 13 rfl rfl 1 rfl ?_
    refine qk_iloadn C dX5_findingOfVoices_13 14 rfl rfl 3 rfl ?_
    refine qk_callV C dX5_findingOfVoices_14 17 rfl ql_X5_73 qc_X5_isBust 0 (by decide) rfl rfl (c_X5_isBust l G σ N w hI _) rfl rfl (Nat.le_of_ble_eq_true rfl) ⟨(Nat.le_of_ble_eq_true rfl), (Nat.le_of_ble_eq_true rfl)⟩ (qx_Ki ?_)
    refine qk_if_eqB C dX5_findingOfVoices_17 24 rfl 20 rfl (fun c_17 => ?_) (fun c_17 => ?_)
    · refine qk_ldc C dX5_findingOfVoices_24 26 rfl qw_321 ?_
      exact hret _ _ _ _ dX5_findingOfVoices_26 ⟨congrArg (fun x => some (Value.int x)) (((z_sel_t c_7).trans (z_sel_f c_17)).symm), rfl⟩ rfl
    · refine qk_iconst C (0) dX5_findingOfVoices_20 21 rfl rfl ?_
      refine qk_goto C dX5_findingOfVoices_21 26 rfl ?_
      exact hret _ _ _ _ dX5_findingOfVoices_26 ⟨congrArg (fun x => some (Value.int x)) (((z_sel_t c_7).trans (z_sel_t c_17)).symm), rfl⟩ rfl
  · refine qk_iloadn C dX5_findingOfVoices_10 11 rfl rfl 0 rfl ?_
    exact hret _ _ _ _ dX5_findingOfVoices_11 ⟨congrArg (fun x => some (Value.int x)) ((z_sel_f c_7).symm), rfl⟩ rfl

theorem c_X5_sheet (l : Launch) (G : qx_G) (σ : qx_Sg) (hSh : qS_ok σ) (s b n : Int32) : qx_Ct l G yX5_sheet cX5_sheet 4 (some .int) 2 43 [.ref (qx_ad G 0), .int s, .int b, .int n] (σ) (qPt (T_sheet σ s b n)) := by
  refine qx_of .int (lo := [(0, .ref (qx_ad G 0)), (1, .int s), (2, .int b), (3, .int n)]) (by decide +kernel) (Nat.le_of_ble_eq_true rfl) rfl (fun Δ (C : qx_C G Δ cX5_sheet RX5 4 2 43) hret => ?_)
  refine qk_aloadn C dX5_sheet_0 1 rfl rfl 0 rfl ?_
  refine qk_iloadn C dX5_sheet_1 2 rfl rfl 1 rfl ?_
  refine qk_callV C dX5_sheet_2 5 rfl ql_X5_222 qc_X5_isSheet 0 (by decide) rfl rfl (c_X5_isSheet l G _ _) rfl rfl (Nat.le_of_ble_eq_true rfl) ⟨(Nat.le_of_ble_eq_true rfl), (Nat.le_of_ble_eq_true rfl)⟩ (qx_Ki ?_)
  refine qk_if_eqB C dX5_sheet_5 30 rfl 8 rfl (fun c_5 => ?_) (fun c_5 => ?_)
  · refine qk_aloadn C dX5_sheet_30 31 rfl rfl 0 rfl ?_
    refine qk_ldc C dX5_sheet_31 33 rfl qw_321 ?_
    refine qk_callV C dX5_sheet_33 36 rfl ql_X5_58 qc_X5_found 0 (by decide) rfl rfl (c_X5_found l G _ _ 0 (by decide) (by decide)) rfl rfl (Nat.le_of_ble_eq_true rfl) ⟨(Nat.le_of_ble_eq_true rfl), (Nat.le_of_ble_eq_true rfl)⟩ (qx_Ki ?_)
    exact hret _ _ _ _ dX5_sheet_36 (qPt_of (by unfold T_sheet; exact zw_f (by first | exact fun q => c_5 q.1 | exact fun q => (by have := q.2; unfold z_bit at this; exact this.elim c_9 (fun q => q.elim c_15 (fun q => q.elim c_21 c_27)))))) rfl
  · refine qk_iloadn C dX5_sheet_8 9 rfl rfl 2 rfl ?_
    refine qk_if_eq C dX5_sheet_9 37 rfl 12 rfl (fun c_9 => ?_) (fun c_9 => ?_)
    · have hb : z_bit b := by unfold z_bit; first | exact Or.inl c_9 | exact Or.inr (Or.inl c_15) | exact Or.inr (Or.inr (Or.inl c_21)) | exact Or.inr (Or.inr (Or.inr c_27))
      have hin := c_5
      refine qk_iloadn C dX5_sheet_37 38 rfl rfl 3 rfl ?_
      refine qk_if_ge C dX5_sheet_38 48 rfl 41 rfl (fun c_38 => ?_) (fun c_38 => ?_)
      · have hn0 : ¬ n < 0 := Int32.not_lt.mpr c_38
        refine qk_iloadn C dX5_sheet_48 49 rfl rfl 3 rfl ?_
        refine qk_bipush C (40) dX5_sheet_49 51 rfl rfl ?_
        refine qk_icmp_le C dX5_sheet_51 61 rfl 54 rfl (fun c_51 => ?_) (fun c_51 => ?_)
        · have hn4 : ¬ 40 < n := Int32.not_lt.mpr c_51
          obtain ⟨js, hjs, rfl⟩ := z_in_ex 3 rfl (by omega) hin
          have hSs : qx_isS (44 + js) := ⟨js, by omega, rfl⟩
          refine qk_aloadn C dX5_sheet_61 62 rfl rfl 0 rfl ?_
          refine qk_get C dX5_sheet_62 65 rfl qf_X5_44 0 (by decide) rfl rfl ?_
          refine qk_iloadn C dX5_sheet_65 66 rfl rfl 1 rfl ?_
          refine qk_aald C dX5_sheet_66 67 rfl 43 (by decide) 2 rfl rfl (js) rfl (by omega) (by decide) rfl ?_
          refine qk_iloadn C dX5_sheet_67 68 rfl rfl 2 rfl ?_
          refine qk_iloadn C dX5_sheet_68 69 rfl rfl 3 rfl ?_
          refine qk_callV C dX5_sheet_69 72 rfl ql_X5_226 qc_X2_begin _ hSs.lt (qx_Fs hSs _) rfl (c_X2_begin l G _ hSs _ b n) rfl rfl (Nat.le_of_ble_eq_true rfl) ⟨(Nat.le_of_ble_eq_true rfl), (Nat.le_of_ble_eq_true rfl)⟩ (qx_Kv ?_)
          refine qk_aloadn C dX5_sheet_72 73 rfl rfl 0 rfl ?_
          refine qk_get C dX5_sheet_73 76 rfl qf_X5_44 0 (by decide) rfl rfl ?_
          refine qk_iloadn C dX5_sheet_76 77 rfl rfl 1 rfl ?_
          refine qk_aald C dX5_sheet_77 78 rfl 43 (by decide) 2 rfl rfl (js) rfl (by omega) (by decide) rfl ?_
          refine qk_get C dX5_sheet_78 81 rfl qf_X5_229 _ hSs.lt (qx_Fs hSs _) rfl ?_
          refine qk_cast (show _ = z_sb b n 1 from by simp [va_up]) ?_
          exact hret _ _ _ _ dX5_sheet_81 (qPt_of (by unfold T_sheet; rw [zn_nI (show js < 2 ^ 31 by omega)]; exact (zw_t ⟨hin, hb⟩).trans ((zw_f hn0).trans (zw_f hn4)))) rfl
        · have hn4 : 40 < n := Int32.not_le.mp c_51
          refine qk_aloadn C dX5_sheet_54 55 rfl rfl 0 rfl ?_
          refine qk_ldc C dX5_sheet_55 57 rfl qw_321 ?_
          refine qk_callV C dX5_sheet_57 60 rfl ql_X5_58 qc_X5_found 0 (by decide) rfl rfl (c_X5_found l G _ _ 0 (by decide) (by decide)) rfl rfl (Nat.le_of_ble_eq_true rfl) ⟨(Nat.le_of_ble_eq_true rfl), (Nat.le_of_ble_eq_true rfl)⟩ (qx_Ki ?_)
          exact hret _ _ _ _ dX5_sheet_60 (qPt_of (by unfold T_sheet; exact (zw_t ⟨hin, hb⟩).trans ((zw_f hn0).trans (zw_t hn4)))) rfl
      · have hn0 : n < 0 := Int32.not_le.mp c_38
        refine qk_aloadn C dX5_sheet_41 42 rfl rfl 0 rfl ?_
        refine qk_ldc C dX5_sheet_42 44 rfl qw_799 ?_
        refine qk_callV C dX5_sheet_44 47 rfl ql_X5_58 qc_X5_found 0 (by decide) rfl rfl (c_X5_found l G _ _ 6 (by decide) (by decide)) rfl rfl (Nat.le_of_ble_eq_true rfl) ⟨(Nat.le_of_ble_eq_true rfl), (Nat.le_of_ble_eq_true rfl)⟩ (qx_Ki ?_)
        exact hret _ _ _ _ dX5_sheet_47 (qPt_of (by unfold T_sheet; exact (zw_t ⟨hin, hb⟩).trans (zw_t hn0))) rfl
    · refine qk_iloadn C dX5_sheet_12 13 rfl rfl 2 rfl ?_
      refine qk_bipush C (8) dX5_sheet_13 15 rfl rfl ?_
      refine qk_icmp_eq C dX5_sheet_15 37 rfl 18 rfl (fun c_15 => ?_) (fun c_15 => ?_)
      · have hb : z_bit b := by unfold z_bit; first | exact Or.inl c_9 | exact Or.inr (Or.inl c_15) | exact Or.inr (Or.inr (Or.inl c_21)) | exact Or.inr (Or.inr (Or.inr c_27))
        have hin := c_5
        refine qk_iloadn C dX5_sheet_37 38 rfl rfl 3 rfl ?_
        refine qk_if_ge C dX5_sheet_38 48 rfl 41 rfl (fun c_38 => ?_) (fun c_38 => ?_)
        · have hn0 : ¬ n < 0 := Int32.not_lt.mpr c_38
          refine qk_iloadn C dX5_sheet_48 49 rfl rfl 3 rfl ?_
          refine qk_bipush C (40) dX5_sheet_49 51 rfl rfl ?_
          refine qk_icmp_le C dX5_sheet_51 61 rfl 54 rfl (fun c_51 => ?_) (fun c_51 => ?_)
          · have hn4 : ¬ 40 < n := Int32.not_lt.mpr c_51
            obtain ⟨js, hjs, rfl⟩ := z_in_ex 3 rfl (by omega) hin
            have hSs : qx_isS (44 + js) := ⟨js, by omega, rfl⟩
            refine qk_aloadn C dX5_sheet_61 62 rfl rfl 0 rfl ?_
            refine qk_get C dX5_sheet_62 65 rfl qf_X5_44 0 (by decide) rfl rfl ?_
            refine qk_iloadn C dX5_sheet_65 66 rfl rfl 1 rfl ?_
            refine qk_aald C dX5_sheet_66 67 rfl 43 (by decide) 2 rfl rfl (js) rfl (by omega) (by decide) rfl ?_
            refine qk_iloadn C dX5_sheet_67 68 rfl rfl 2 rfl ?_
            refine qk_iloadn C dX5_sheet_68 69 rfl rfl 3 rfl ?_
            refine qk_callV C dX5_sheet_69 72 rfl ql_X5_226 qc_X2_begin _ hSs.lt (qx_Fs hSs _) rfl (c_X2_begin l G _ hSs _ b n) rfl rfl (Nat.le_of_ble_eq_true rfl) ⟨(Nat.le_of_ble_eq_true rfl), (Nat.le_of_ble_eq_true rfl)⟩ (qx_Kv ?_)
            refine qk_aloadn C dX5_sheet_72 73 rfl rfl 0 rfl ?_
            refine qk_get C dX5_sheet_73 76 rfl qf_X5_44 0 (by decide) rfl rfl ?_
            refine qk_iloadn C dX5_sheet_76 77 rfl rfl 1 rfl ?_
            refine qk_aald C dX5_sheet_77 78 rfl 43 (by decide) 2 rfl rfl (js) rfl (by omega) (by decide) rfl ?_
            refine qk_get C dX5_sheet_78 81 rfl qf_X5_229 _ hSs.lt (qx_Fs hSs _) rfl ?_
            refine qk_cast (show _ = z_sb b n 1 from by simp [va_up]) ?_
            exact hret _ _ _ _ dX5_sheet_81 (qPt_of (by unfold T_sheet; rw [zn_nI (show js < 2 ^ 31 by omega)]; exact (zw_t ⟨hin, hb⟩).trans ((zw_f hn0).trans (zw_f hn4)))) rfl
          · have hn4 : 40 < n := Int32.not_le.mp c_51
            refine qk_aloadn C dX5_sheet_54 55 rfl rfl 0 rfl ?_
            refine qk_ldc C dX5_sheet_55 57 rfl qw_321 ?_
            refine qk_callV C dX5_sheet_57 60 rfl ql_X5_58 qc_X5_found 0 (by decide) rfl rfl (c_X5_found l G _ _ 0 (by decide) (by decide)) rfl rfl (Nat.le_of_ble_eq_true rfl) ⟨(Nat.le_of_ble_eq_true rfl), (Nat.le_of_ble_eq_true rfl)⟩ (qx_Ki ?_)
            exact hret _ _ _ _ dX5_sheet_60 (qPt_of (by unfold T_sheet; exact (zw_t ⟨hin, hb⟩).trans ((zw_f hn0).trans (zw_t hn4)))) rfl
        · have hn0 : n < 0 := Int32.not_le.mp c_38
          refine qk_aloadn C dX5_sheet_41 42 rfl rfl 0 rfl ?_
          refine qk_ldc C dX5_sheet_42 44 rfl qw_799 ?_
          refine qk_callV C dX5_sheet_44 47 rfl ql_X5_58 qc_X5_found 0 (by decide) rfl rfl (c_X5_found l G _ _ 6 (by decide) (by decide)) rfl rfl (Nat.le_of_ble_eq_true rfl) ⟨(Nat.le_of_ble_eq_true rfl), (Nat.le_of_ble_eq_true rfl)⟩ (qx_Ki ?_)
          exact hret _ _ _ _ dX5_sheet_47 (qPt_of (by unfold T_sheet; exact (zw_t ⟨hin, hb⟩).trans (zw_t hn0))) rfl
      · refine qk_iloadn C dX5_sheet_18 19 rfl rfl 2 rfl ?_
        refine qk_bipush C (16) dX5_sheet_19 21 rfl rfl ?_
        refine qk_icmp_eq C dX5_sheet_21 37 rfl 24 rfl (fun c_21 => ?_) (fun c_21 => ?_)
        · have hb : z_bit b := by unfold z_bit; first | exact Or.inl c_9 | exact Or.inr (Or.inl c_15) | exact Or.inr (Or.inr (Or.inl c_21)) | exact Or.inr (Or.inr (Or.inr c_27))
          have hin := c_5
          refine qk_iloadn C dX5_sheet_37 38 rfl rfl 3 rfl ?_
          refine qk_if_ge C dX5_sheet_38 48 rfl 41 rfl (fun c_38 => ?_) (fun c_38 => ?_)
          · have hn0 : ¬ n < 0 := Int32.not_lt.mpr c_38
            refine qk_iloadn C dX5_sheet_48 49 rfl rfl 3 rfl ?_
            refine qk_bipush C (40) dX5_sheet_49 51 rfl rfl ?_
            refine qk_icmp_le C dX5_sheet_51 61 rfl 54 rfl (fun c_51 => ?_) (fun c_51 => ?_)
            · have hn4 : ¬ 40 < n := Int32.not_lt.mpr c_51
              obtain ⟨js, hjs, rfl⟩ := z_in_ex 3 rfl (by omega) hin
              have hSs : qx_isS (44 + js) := ⟨js, by omega, rfl⟩
              refine qk_aloadn C dX5_sheet_61 62 rfl rfl 0 rfl ?_
              refine qk_get C dX5_sheet_62 65 rfl qf_X5_44 0 (by decide) rfl rfl ?_
              refine qk_iloadn C dX5_sheet_65 66 rfl rfl 1 rfl ?_
              refine qk_aald C dX5_sheet_66 67 rfl 43 (by decide) 2 rfl rfl (js) rfl (by omega) (by decide) rfl ?_
              refine qk_iloadn C dX5_sheet_67 68 rfl rfl 2 rfl ?_
              refine qk_iloadn C dX5_sheet_68 69 rfl rfl 3 rfl ?_
              refine qk_callV C dX5_sheet_69 72 rfl ql_X5_226 qc_X2_begin _ hSs.lt (qx_Fs hSs _) rfl (c_X2_begin l G _ hSs _ b n) rfl rfl (Nat.le_of_ble_eq_true rfl) ⟨(Nat.le_of_ble_eq_true rfl), (Nat.le_of_ble_eq_true rfl)⟩ (qx_Kv ?_)
              refine qk_aloadn C dX5_sheet_72 73 rfl rfl 0 rfl ?_
              refine qk_get C dX5_sheet_73 76 rfl qf_X5_44 0 (by decide) rfl rfl ?_
              refine qk_iloadn C dX5_sheet_76 77 rfl rfl 1 rfl ?_
              refine qk_aald C dX5_sheet_77 78 rfl 43 (by decide) 2 rfl rfl (js) rfl (by omega) (by decide) rfl ?_
              refine qk_get C dX5_sheet_78 81 rfl qf_X5_229 _ hSs.lt (qx_Fs hSs _) rfl ?_
              refine qk_cast (show _ = z_sb b n 1 from by simp [va_up]) ?_
              exact hret _ _ _ _ dX5_sheet_81 (qPt_of (by unfold T_sheet; rw [zn_nI (show js < 2 ^ 31 by omega)]; exact (zw_t ⟨hin, hb⟩).trans ((zw_f hn0).trans (zw_f hn4)))) rfl
            · have hn4 : 40 < n := Int32.not_le.mp c_51
              refine qk_aloadn C dX5_sheet_54 55 rfl rfl 0 rfl ?_
              refine qk_ldc C dX5_sheet_55 57 rfl qw_321 ?_
              refine qk_callV C dX5_sheet_57 60 rfl ql_X5_58 qc_X5_found 0 (by decide) rfl rfl (c_X5_found l G _ _ 0 (by decide) (by decide)) rfl rfl (Nat.le_of_ble_eq_true rfl) ⟨(Nat.le_of_ble_eq_true rfl), (Nat.le_of_ble_eq_true rfl)⟩ (qx_Ki ?_)
              exact hret _ _ _ _ dX5_sheet_60 (qPt_of (by unfold T_sheet; exact (zw_t ⟨hin, hb⟩).trans ((zw_f hn0).trans (zw_t hn4)))) rfl
          · have hn0 : n < 0 := Int32.not_le.mp c_38
            refine qk_aloadn C dX5_sheet_41 42 rfl rfl 0 rfl ?_
            refine qk_ldc C dX5_sheet_42 44 rfl qw_799 ?_
            refine qk_callV C dX5_sheet_44 47 rfl ql_X5_58 qc_X5_found 0 (by decide) rfl rfl (c_X5_found l G _ _ 6 (by decide) (by decide)) rfl rfl (Nat.le_of_ble_eq_true rfl) ⟨(Nat.le_of_ble_eq_true rfl), (Nat.le_of_ble_eq_true rfl)⟩ (qx_Ki ?_)
            exact hret _ _ _ _ dX5_sheet_47 (qPt_of (by unfold T_sheet; exact (zw_t ⟨hin, hb⟩).trans (zw_t hn0))) rfl
        · refine qk_iloadn C dX5_sheet_24 25 rfl rfl 2 rfl ?_
          refine qk_bipush C (32) dX5_sheet_25 27 rfl rfl ?_
          refine qk_icmp_eq C dX5_sheet_27 37 rfl 30 rfl (fun c_27 => ?_) (fun c_27 => ?_)
          · have hb : z_bit b := by unfold z_bit; first | exact Or.inl c_9 | exact Or.inr (Or.inl c_15) | exact Or.inr (Or.inr (Or.inl c_21)) | exact Or.inr (Or.inr (Or.inr c_27))
            have hin := c_5
            refine qk_iloadn C dX5_sheet_37 38 rfl rfl 3 rfl ?_
            refine qk_if_ge C dX5_sheet_38 48 rfl 41 rfl (fun c_38 => ?_) (fun c_38 => ?_)
            · have hn0 : ¬ n < 0 := Int32.not_lt.mpr c_38
              refine qk_iloadn C dX5_sheet_48 49 rfl rfl 3 rfl ?_
              refine qk_bipush C (40) dX5_sheet_49 51 rfl rfl ?_
              refine qk_icmp_le C dX5_sheet_51 61 rfl 54 rfl (fun c_51 => ?_) (fun c_51 => ?_)
              · have hn4 : ¬ 40 < n := Int32.not_lt.mpr c_51
                obtain ⟨js, hjs, rfl⟩ := z_in_ex 3 rfl (by omega) hin
                have hSs : qx_isS (44 + js) := ⟨js, by omega, rfl⟩
                refine qk_aloadn C dX5_sheet_61 62 rfl rfl 0 rfl ?_
                refine qk_get C dX5_sheet_62 65 rfl qf_X5_44 0 (by decide) rfl rfl ?_
                refine qk_iloadn C dX5_sheet_65 66 rfl rfl 1 rfl ?_
                refine qk_aald C dX5_sheet_66 67 rfl 43 (by decide) 2 rfl rfl (js) rfl (by omega) (by decide) rfl ?_
                refine qk_iloadn C dX5_sheet_67 68 rfl rfl 2 rfl ?_
                refine qk_iloadn C dX5_sheet_68 69 rfl rfl 3 rfl ?_
                refine qk_callV C dX5_sheet_69 72 rfl ql_X5_226 qc_X2_begin _ hSs.lt (qx_Fs hSs _) rfl (c_X2_begin l G _ hSs _ b n) rfl rfl (Nat.le_of_ble_eq_true rfl) ⟨(Nat.le_of_ble_eq_true rfl), (Nat.le_of_ble_eq_true rfl)⟩ (qx_Kv ?_)
                refine qk_aloadn C dX5_sheet_72 73 rfl rfl 0 rfl ?_
                refine qk_get C dX5_sheet_73 76 rfl qf_X5_44 0 (by decide) rfl rfl ?_
                refine qk_iloadn C dX5_sheet_76 77 rfl rfl 1 rfl ?_
                refine qk_aald C dX5_sheet_77 78 rfl 43 (by decide) 2 rfl rfl (js) rfl (by omega) (by decide) rfl ?_
                refine qk_get C dX5_sheet_78 81 rfl qf_X5_229 _ hSs.lt (qx_Fs hSs _) rfl ?_
                refine qk_cast (show _ = z_sb b n 1 from by simp [va_up]) ?_
                exact hret _ _ _ _ dX5_sheet_81 (qPt_of (by unfold T_sheet; rw [zn_nI (show js < 2 ^ 31 by omega)]; exact (zw_t ⟨hin, hb⟩).trans ((zw_f hn0).trans (zw_f hn4)))) rfl
              · have hn4 : 40 < n := Int32.not_le.mp c_51
                refine qk_aloadn C dX5_sheet_54 55 rfl rfl 0 rfl ?_
                refine qk_ldc C dX5_sheet_55 57 rfl qw_321 ?_
                refine qk_callV C dX5_sheet_57 60 rfl ql_X5_58 qc_X5_found 0 (by decide) rfl rfl (c_X5_found l G _ _ 0 (by decide) (by decide)) rfl rfl (Nat.le_of_ble_eq_true rfl) ⟨(Nat.le_of_ble_eq_true rfl), (Nat.le_of_ble_eq_true rfl)⟩ (qx_Ki ?_)
                exact hret _ _ _ _ dX5_sheet_60 (qPt_of (by unfold T_sheet; exact (zw_t ⟨hin, hb⟩).trans ((zw_f hn0).trans (zw_t hn4)))) rfl
            · have hn0 : n < 0 := Int32.not_le.mp c_38
              refine qk_aloadn C dX5_sheet_41 42 rfl rfl 0 rfl ?_
              refine qk_ldc C dX5_sheet_42 44 rfl qw_799 ?_
              refine qk_callV C dX5_sheet_44 47 rfl ql_X5_58 qc_X5_found 0 (by decide) rfl rfl (c_X5_found l G _ _ 6 (by decide) (by decide)) rfl rfl (Nat.le_of_ble_eq_true rfl) ⟨(Nat.le_of_ble_eq_true rfl), (Nat.le_of_ble_eq_true rfl)⟩ (qx_Ki ?_)
              exact hret _ _ _ _ dX5_sheet_47 (qPt_of (by unfold T_sheet; exact (zw_t ⟨hin, hb⟩).trans (zw_t hn0))) rfl
          · refine qk_aloadn C dX5_sheet_30 31 rfl rfl 0 rfl ?_
            refine qk_ldc C dX5_sheet_31 33 rfl qw_321 ?_
            refine qk_callV C dX5_sheet_33 36 rfl ql_X5_58 qc_X5_found 0 (by decide) rfl rfl (c_X5_found l G _ _ 0 (by decide) (by decide)) rfl rfl (Nat.le_of_ble_eq_true rfl) ⟨(Nat.le_of_ble_eq_true rfl), (Nat.le_of_ble_eq_true rfl)⟩ (qx_Ki ?_)
            exact hret _ _ _ _ dX5_sheet_36 (qPt_of (by unfold T_sheet; exact zw_f (by first | exact fun q => c_5 q.1 | exact fun q => (by have := q.2; unfold z_bit at this; exact this.elim c_9 (fun q => q.elim c_15 (fun q => q.elim c_21 c_27)))))) rfl

theorem c_X5_write (l : Launch) (G : qx_G) (σ : qx_Sg) (hSh : qS_ok σ) (s i v : Int32) : qx_Ct l G yX5_write cX5_write 5 (some .int) 3 63 [.ref (qx_ad G 0), .int s, .int i, .int v] (σ) (qPt (T_write σ s i v)) := by
  refine qx_of .int (lo := [(0, .ref (qx_ad G 0)), (1, .int s), (2, .int i), (3, .int v)]) (by decide +kernel) (Nat.le_of_ble_eq_true rfl) rfl (fun Δ (C : qx_C G Δ cX5_write RX5 5 3 63) hret => ?_)
  refine qk_aloadn C dX5_write_0 1 rfl rfl 0 rfl ?_
  refine qk_iloadn C dX5_write_1 2 rfl rfl 1 rfl ?_
  refine qk_callV C dX5_write_2 5 rfl ql_X5_232 qc_X5_findingOfSheet 0 (by decide) rfl rfl (c_X5_findingOfSheet l G _ _) rfl rfl (Nat.le_of_ble_eq_true rfl) ⟨(Nat.le_of_ble_eq_true rfl), (Nat.le_of_ble_eq_true rfl)⟩ (qx_Ki ?_)
  rcases z_fos_cases σ s with ⟨h1, e⟩ | ⟨h1, h2, e⟩ | ⟨h1, h2, e⟩
  · refine qk_cast e ?_
    refine qk_istore C dX5_write_5 7 rfl (by decide) rfl ?_
    refine qk_iload C dX5_write_7 9 rfl 0 rfl ?_
    refine qk_if_eq C dX5_write_9 19 rfl 12 rfl (fun c => absurd c (by decide)) (fun _ => ?_)
    refine qk_aloadn C dX5_write_12 13 rfl rfl 1 rfl ?_
    refine qk_iload C dX5_write_13 15 rfl 0 rfl ?_
    refine qk_callV C dX5_write_15 18 rfl ql_X5_58 qc_X5_found 0 (by decide) rfl rfl (c_X5_found l G _ _ 0 (by decide) (by decide)) rfl rfl (Nat.le_of_ble_eq_true rfl) ⟨(Nat.le_of_ble_eq_true rfl), (Nat.le_of_ble_eq_true rfl)⟩ (qx_Ki ?_)
    exact hret _ _ _ _ dX5_write_18 (qPt_of (zw_f h1)) rfl
  · refine qk_cast e ?_
    refine qk_istore C dX5_write_5 7 rfl (by decide) rfl ?_
    refine qk_iload C dX5_write_7 9 rfl 0 rfl ?_
    refine qk_if_eq C dX5_write_9 19 rfl 12 rfl (fun c => absurd c (by decide)) (fun _ => ?_)
    refine qk_aloadn C dX5_write_12 13 rfl rfl 1 rfl ?_
    refine qk_iload C dX5_write_13 15 rfl 0 rfl ?_
    refine qk_callV C dX5_write_15 18 rfl ql_X5_58 qc_X5_found 0 (by decide) rfl rfl (c_X5_found l G _ _ 5 (by decide) (by decide)) rfl rfl (Nat.le_of_ble_eq_true rfl) ⟨(Nat.le_of_ble_eq_true rfl), (Nat.le_of_ble_eq_true rfl)⟩ (qx_Ki ?_)
    exact hret _ _ _ _ dX5_write_18 (qPt_of ((zw_t h1).trans (zw_t h2))) rfl
  · refine qk_cast e ?_
    obtain ⟨js, hjs, rfl⟩ := z_in_ex 3 rfl (by omega) h1
    have hSs : qx_isS (44 + js) := ⟨js, by omega, rfl⟩
    rw [zn_nI (show js < 2 ^ 31 by omega)] at h2
    obtain ⟨n, hn, en⟩ := (hSh js (by omega)).2
    refine qk_istore C dX5_write_5 7 rfl (by decide) rfl ?_
    refine qk_iload C dX5_write_7 9 rfl 0 rfl ?_
    refine qk_if_eq C dX5_write_9 19 rfl 12 rfl (fun _ => ?_) (fun c => absurd rfl c)
    refine qk_iloadn C dX5_write_19 20 rfl rfl 3 rfl ?_
    refine qk_aloadn C dX5_write_20 21 rfl rfl 1 rfl ?_
    refine qk_get C dX5_write_21 24 rfl qf_X5_44 0 (by decide) rfl rfl ?_
    refine qk_iloadn C dX5_write_24 25 rfl rfl 2 rfl ?_
    refine qk_aald C dX5_write_25 26 rfl 43 (by decide) 2 rfl rfl (js) rfl (by omega) (by decide) rfl ?_
    refine qk_get C dX5_write_26 29 rfl qf_X5_229 _ hSs.lt (qx_Fs hSs _) rfl ?_
    refine qk_iconst C (1) dX5_write_29 30 rfl rfl ?_
    refine qk_isub C dX5_write_30 31 rfl ?_
    refine qk_callS C dX5_write_31 34 rfl ql_X5_53 qc_X5_within (c_X5_within l G _ _ _) rfl rfl (Nat.le_of_ble_eq_true rfl) ⟨(Nat.le_of_ble_eq_true rfl), (Nat.le_of_ble_eq_true rfl)⟩ (qx_Ki ?_)
    refine qk_if_neB C dX5_write_34 44 rfl 37 rfl (fun c_34 => ?_) (fun c_34 => ?_)
    · have c34 := c_34
      rw [en] at c34
      obtain ⟨ji, hji, rfl⟩ := z_in_m1 hn c34
      refine qk_aloadn C dX5_write_44 45 rfl rfl 1 rfl ?_
      refine qk_get C dX5_write_45 48 rfl qf_X5_44 0 (by decide) rfl rfl ?_
      refine qk_iloadn C dX5_write_48 49 rfl rfl 2 rfl ?_
      refine qk_aald C dX5_write_49 50 rfl 43 (by decide) 2 rfl rfl (js) rfl (by omega) (by decide) rfl ?_
      refine qk_iloadn C dX5_write_50 51 rfl rfl 3 rfl ?_
      refine qk_iloadn C dX5_write_51 52 rfl rfl 4 rfl ?_
      refine qk_callV C dX5_write_52 55 rfl ql_X5_235 qc_X2_put _ hSs.lt (qx_Fs hSs _) rfl (c_X2_put l G _ hSs _ ji (by omega) v) rfl rfl (Nat.le_of_ble_eq_true rfl) ⟨(Nat.le_of_ble_eq_true rfl), (Nat.le_of_ble_eq_true rfl)⟩ (qx_Kv ?_)
      refine qk_iconst C (1) dX5_write_55 56 rfl rfl ?_
      exact hret _ _ _ _ dX5_write_56 (qPt_of (by unfold T_write; rw [zn_nI (show js < 2 ^ 31 by omega), zn_nI (show ji < 2 ^ 31 by omega)]; exact (zw_t h1).trans ((zw_f h2).trans (zw_t c_34)))) rfl
    · refine qk_aloadn C dX5_write_37 38 rfl rfl 1 rfl ?_
      refine qk_ldc C dX5_write_38 40 rfl qw_321 ?_
      refine qk_callV C dX5_write_40 43 rfl ql_X5_58 qc_X5_found 0 (by decide) rfl rfl (c_X5_found l G _ _ 0 (by decide) (by decide)) rfl rfl (Nat.le_of_ble_eq_true rfl) ⟨(Nat.le_of_ble_eq_true rfl), (Nat.le_of_ble_eq_true rfl)⟩ (qx_Ki ?_)
      exact hret _ _ _ _ dX5_write_43 (qPt_of (by unfold T_write; rw [zn_nI (show js < 2 ^ 31 by omega)]; exact (zw_t h1).trans ((zw_f h2).trans (zw_f c_34)))) rfl

theorem c_X5_copy (l : Launch) (G : qx_G) (σ : qx_Sg) (hSh : qS_ok σ) (s f t g n : Int32) : qx_Ct l G yX5_copy cX5_copy 6 (some .int) 2 60 [.ref (qx_ad G 0), .int s, .int f, .int t, .int g, .int n] (σ) (qPt (T_copy σ s f t g n)) := by
  refine qx_of .int (lo := [(0, .ref (qx_ad G 0)), (1, .int s), (2, .int f), (3, .int t), (4, .int g), (5, .int n)]) (by decide +kernel) (Nat.le_of_ble_eq_true rfl) rfl (fun Δ (C : qx_C G Δ cX5_copy RX5 6 2 60) hret => ?_)
  refine qk_aloadn C dX5_copy_0 1 rfl rfl 0 rfl ?_
  refine qk_iloadn C dX5_copy_1 2 rfl rfl 1 rfl ?_
  refine qk_callV C dX5_copy_2 5 rfl ql_X5_222 qc_X5_isSheet 0 (by decide) rfl rfl (c_X5_isSheet l G _ _) rfl rfl (Nat.le_of_ble_eq_true rfl) ⟨(Nat.le_of_ble_eq_true rfl), (Nat.le_of_ble_eq_true rfl)⟩ (qx_Ki ?_)
  refine qk_if_eqB C dX5_copy_5 16 rfl 8 rfl (fun c_5 => ?_) (fun c_5 => ?_)
  · refine qk_aloadn C dX5_copy_16 17 rfl rfl 0 rfl ?_
    refine qk_ldc C dX5_copy_17 19 rfl qw_321 ?_
    refine qk_callV C dX5_copy_19 22 rfl ql_X5_58 qc_X5_found 0 (by decide) rfl rfl (c_X5_found l G _ _ 0 (by decide) (by decide)) rfl rfl (Nat.le_of_ble_eq_true rfl) ⟨(Nat.le_of_ble_eq_true rfl), (Nat.le_of_ble_eq_true rfl)⟩ (qx_Ki ?_)
    exact hret _ _ _ _ dX5_copy_22 (qPt_of (by unfold T_copy; exact zw_f (by first | exact fun q => c_5 q.1 | exact fun q => c_13 q.2))) rfl
  · refine qk_aloadn C dX5_copy_8 9 rfl rfl 0 rfl ?_
    refine qk_iloadn C dX5_copy_9 10 rfl rfl 3 rfl ?_
    refine qk_callV C dX5_copy_10 13 rfl ql_X5_222 qc_X5_isSheet 0 (by decide) rfl rfl (c_X5_isSheet l G _ _) rfl rfl (Nat.le_of_ble_eq_true rfl) ⟨(Nat.le_of_ble_eq_true rfl), (Nat.le_of_ble_eq_true rfl)⟩ (qx_Ki ?_)
    refine qk_if_neB C dX5_copy_13 23 rfl 16 rfl (fun c_13 => ?_) (fun c_13 => ?_)
    · obtain ⟨js, hjs, rfl⟩ := z_in_ex 3 rfl (by omega) c_5
      have hSs : qx_isS (44 + js) := ⟨js, by omega, rfl⟩
      obtain ⟨jt, hjt, rfl⟩ := z_in_ex 3 rfl (by omega) c_13
      have hSt : qx_isS (44 + jt) := ⟨jt, by omega, rfl⟩
      refine qk_aloadn C dX5_copy_23 24 rfl rfl 0 rfl ?_
      refine qk_get C dX5_copy_24 27 rfl qf_X5_44 0 (by decide) rfl rfl ?_
      refine qk_iloadn C dX5_copy_27 28 rfl rfl 1 rfl ?_
      refine qk_aald C dX5_copy_28 29 rfl 43 (by decide) 2 rfl rfl (js) rfl (by omega) (by decide) rfl ?_
      refine qk_callV C dX5_copy_29 32 rfl ql_X5_238 qc_X2_isMissing _ hSs.lt (qx_Fs hSs _) rfl (c_X2_isMissing l G _ hSs _) rfl rfl (Nat.le_of_ble_eq_true rfl) ⟨(Nat.le_of_ble_eq_true rfl), (Nat.le_of_ble_eq_true rfl)⟩ (qx_Ki ?_)
      refine qk_if_neB C dX5_copy_32 47 rfl 35 rfl (fun c_32 => ?_) (fun c_32 => ?_)
      · refine qk_aloadn C dX5_copy_47 48 rfl rfl 0 rfl ?_
        refine qk_ldc C dX5_copy_48 50 rfl qw_605 ?_
        refine qk_callV C dX5_copy_50 53 rfl ql_X5_58 qc_X5_found 0 (by decide) rfl rfl (c_X5_found l G _ _ 5 (by decide) (by decide)) rfl rfl (Nat.le_of_ble_eq_true rfl) ⟨(Nat.le_of_ble_eq_true rfl), (Nat.le_of_ble_eq_true rfl)⟩ (qx_Ki ?_)
        exact hret _ _ _ _ dX5_copy_53 (qPt_of (by unfold T_copy; rw [zn_nI (show js < 2 ^ 31 by omega), zn_nI (show jt < 2 ^ 31 by omega)]; exact (zw_t ⟨c_5, c_13⟩).trans (zw_t (by first | exact Or.inl c_32 | exact Or.inr c_44)))) rfl
      · refine qk_aloadn C dX5_copy_35 36 rfl rfl 0 rfl ?_
        refine qk_get C dX5_copy_36 39 rfl qf_X5_44 0 (by decide) rfl rfl ?_
        refine qk_iloadn C dX5_copy_39 40 rfl rfl 3 rfl ?_
        refine qk_aald C dX5_copy_40 41 rfl 43 (by decide) 2 rfl rfl (jt) rfl (by omega) (by decide) rfl ?_
        refine qk_callV C dX5_copy_41 44 rfl ql_X5_238 qc_X2_isMissing _ hSt.lt (qx_Fs hSt _) rfl (c_X2_isMissing l G _ hSt _) rfl rfl (Nat.le_of_ble_eq_true rfl) ⟨(Nat.le_of_ble_eq_true rfl), (Nat.le_of_ble_eq_true rfl)⟩ (qx_Ki ?_)
        refine qk_if_eqB C dX5_copy_44 54 rfl 47 rfl (fun c_44 => ?_) (fun c_44 => ?_)
        · refine qk_aloadn C dX5_copy_54 55 rfl rfl 0 rfl ?_
          refine qk_get C dX5_copy_55 58 rfl qf_X5_44 0 (by decide) rfl rfl ?_
          refine qk_iloadn C dX5_copy_58 59 rfl rfl 1 rfl ?_
          refine qk_aald C dX5_copy_59 60 rfl 43 (by decide) 2 rfl rfl (js) rfl (by omega) (by decide) rfl ?_
          refine qk_get C dX5_copy_60 63 rfl qf_X5_242 _ hSs.lt (qx_Fs hSs _) rfl ?_
          refine qk_aloadn C dX5_copy_63 64 rfl rfl 0 rfl ?_
          refine qk_get C dX5_copy_64 67 rfl qf_X5_44 0 (by decide) rfl rfl ?_
          refine qk_iloadn C dX5_copy_67 68 rfl rfl 3 rfl ?_
          refine qk_aald C dX5_copy_68 69 rfl 43 (by decide) 2 rfl rfl (jt) rfl (by omega) (by decide) rfl ?_
          refine qk_get C dX5_copy_69 72 rfl qf_X5_242 _ hSt.lt (qx_Fs hSt _) rfl ?_
          refine qk_icmp_eq C dX5_copy_72 82 rfl 75 rfl (fun c_72 => ?_) (fun c_72 => ?_)
          · refine qk_aloadn C dX5_copy_82 83 rfl rfl 0 rfl ?_
            refine qk_get C dX5_copy_83 86 rfl qf_X5_44 0 (by decide) rfl rfl ?_
            refine qk_iloadn C dX5_copy_86 87 rfl rfl 1 rfl ?_
            refine qk_aald C dX5_copy_87 88 rfl 43 (by decide) 2 rfl rfl (js) rfl (by omega) (by decide) rfl ?_
            refine qk_iloadn C dX5_copy_88 89 rfl rfl 2 rfl ?_
            refine qk_iload C dX5_copy_89 91 rfl 5 rfl ?_
            refine qk_callV C dX5_copy_91 94 rfl ql_X5_245 qc_X2_spans _ hSs.lt (qx_Fs hSs _) rfl (c_X2_spans l G _ hSs _ _ _) rfl rfl (Nat.le_of_ble_eq_true rfl) ⟨(Nat.le_of_ble_eq_true rfl), (Nat.le_of_ble_eq_true rfl)⟩ (qx_Ki ?_)
            refine qk_if_eqB C dX5_copy_94 113 rfl 97 rfl (fun c_94 => ?_) (fun c_94 => ?_)
            · refine qk_aloadn C dX5_copy_113 114 rfl rfl 0 rfl ?_
              refine qk_ldc C dX5_copy_114 116 rfl qw_321 ?_
              refine qk_callV C dX5_copy_116 119 rfl ql_X5_58 qc_X5_found 0 (by decide) rfl rfl (c_X5_found l G _ _ 0 (by decide) (by decide)) rfl rfl (Nat.le_of_ble_eq_true rfl) ⟨(Nat.le_of_ble_eq_true rfl), (Nat.le_of_ble_eq_true rfl)⟩ (qx_Ki ?_)
              exact hret _ _ _ _ dX5_copy_119 (qPt_of (by unfold T_copy; rw [zn_nI (show js < 2 ^ 31 by omega), zn_nI (show jt < 2 ^ 31 by omega)]; exact (zw_t ⟨c_5, c_13⟩).trans ((zw_f (fun q => q.elim c_32 c_44)).trans ((zw_t c_72).trans (zw_f (by first | exact fun q => c_94 q.1 | exact fun q => c_110 q.2)))))) rfl
            · refine qk_aloadn C dX5_copy_97 98 rfl rfl 0 rfl ?_
              refine qk_get C dX5_copy_98 101 rfl qf_X5_44 0 (by decide) rfl rfl ?_
              refine qk_iloadn C dX5_copy_101 102 rfl rfl 3 rfl ?_
              refine qk_aald C dX5_copy_102 103 rfl 43 (by decide) 2 rfl rfl (jt) rfl (by omega) (by decide) rfl ?_
              refine qk_iload C dX5_copy_103 105 rfl 4 rfl ?_
              refine qk_iload C dX5_copy_105 107 rfl 5 rfl ?_
              refine qk_callV C dX5_copy_107 110 rfl ql_X5_245 qc_X2_spans _ hSt.lt (qx_Fs hSt _) rfl (c_X2_spans l G _ hSt _ _ _) rfl rfl (Nat.le_of_ble_eq_true rfl) ⟨(Nat.le_of_ble_eq_true rfl), (Nat.le_of_ble_eq_true rfl)⟩ (qx_Ki ?_)
              refine qk_if_neB C dX5_copy_110 120 rfl 113 rfl (fun c_110 => ?_) (fun c_110 => ?_)
              · obtain ⟨n1, hn1, en1⟩ := (hSh js (by omega)).2
                obtain ⟨n2, hn2, en2⟩ := (hSh jt (by omega)).2
                have d1 := c_94
                have d2 := c_110
                rw [en1] at d1
                rw [en2] at d2
                obtain ⟨a, m, rfl, rfl, ham⟩ := z_sps_ex hn1 d1
                obtain ⟨a2, m2, rfl, em2, ham2⟩ := z_sps_ex hn2 d2
                have hmm : m = m2 := (nI_eq (by omega) (by omega)).mp em2
                refine qk_aloadn C dX5_copy_120 121 rfl rfl 0 rfl ?_
                refine qk_get C dX5_copy_121 124 rfl qf_X5_44 0 (by decide) rfl rfl ?_
                refine qk_iloadn C dX5_copy_124 125 rfl rfl 1 rfl ?_
                refine qk_aald C dX5_copy_125 126 rfl 43 (by decide) 2 rfl rfl (js) rfl (by omega) (by decide) rfl ?_
                refine qk_get C dX5_copy_126 129 rfl qf_X5_248 _ hSs.lt (qx_Fs hSs _) rfl ?_
                refine qk_iloadn C dX5_copy_129 130 rfl rfl 2 rfl ?_
                refine qk_aloadn C dX5_copy_130 131 rfl rfl 0 rfl ?_
                refine qk_get C dX5_copy_131 134 rfl qf_X5_44 0 (by decide) rfl rfl ?_
                refine qk_iloadn C dX5_copy_134 135 rfl rfl 3 rfl ?_
                refine qk_aald C dX5_copy_135 136 rfl 43 (by decide) 2 rfl rfl (jt) rfl (by omega) (by decide) rfl ?_
                refine qk_get C dX5_copy_136 139 rfl qf_X5_248 _ hSt.lt (qx_Fs hSt _) rfl ?_
                refine qk_iload C dX5_copy_139 141 rfl 4 rfl ?_
                refine qk_iload C dX5_copy_141 143 rfl 5 rfl ?_
                refine qk_acopy C dX5_copy_143 146 rfl ql_X5_251 (44 + js + 4) (44 + jt + 4) (by omega) (by omega) (qx_Fs4 hSs) (qx_Fs4 hSt) a a2 m rfl rfl rfl (by omega) (by omega) (by decide) (by decide) ⟨(Nat.le_of_ble_eq_true rfl), (Nat.le_of_ble_eq_true rfl)⟩ ?_
                refine qk_iload C dX5_copy_146 148 rfl 5 rfl ?_
                exact hret _ _ _ _ dX5_copy_148 (qPt_of (by unfold T_copy; rw [zn_nI (show js < 2 ^ 31 by omega), zn_nI (show jt < 2 ^ 31 by omega), zn_nI (show a < 2 ^ 31 by omega), zn_nI (show a2 < 2 ^ 31 by omega), zn_nI (show m < 2 ^ 31 by omega)]; exact (zw_t ⟨c_5, c_13⟩).trans ((zw_f (fun q => q.elim c_32 c_44)).trans ((zw_t c_72).trans (zw_t ⟨c_94, c_110⟩))))) rfl
              · refine qk_aloadn C dX5_copy_113 114 rfl rfl 0 rfl ?_
                refine qk_ldc C dX5_copy_114 116 rfl qw_321 ?_
                refine qk_callV C dX5_copy_116 119 rfl ql_X5_58 qc_X5_found 0 (by decide) rfl rfl (c_X5_found l G _ _ 0 (by decide) (by decide)) rfl rfl (Nat.le_of_ble_eq_true rfl) ⟨(Nat.le_of_ble_eq_true rfl), (Nat.le_of_ble_eq_true rfl)⟩ (qx_Ki ?_)
                exact hret _ _ _ _ dX5_copy_119 (qPt_of (by unfold T_copy; rw [zn_nI (show js < 2 ^ 31 by omega), zn_nI (show jt < 2 ^ 31 by omega)]; exact (zw_t ⟨c_5, c_13⟩).trans ((zw_f (fun q => q.elim c_32 c_44)).trans ((zw_t c_72).trans (zw_f (by first | exact fun q => c_94 q.1 | exact fun q => c_110 q.2)))))) rfl
          · refine qk_aloadn C dX5_copy_75 76 rfl rfl 0 rfl ?_
            refine qk_ldc C dX5_copy_76 78 rfl qw_794 ?_
            refine qk_callV C dX5_copy_78 81 rfl ql_X5_58 qc_X5_found 0 (by decide) rfl rfl (c_X5_found l G _ _ 2 (by decide) (by decide)) rfl rfl (Nat.le_of_ble_eq_true rfl) ⟨(Nat.le_of_ble_eq_true rfl), (Nat.le_of_ble_eq_true rfl)⟩ (qx_Ki ?_)
            exact hret _ _ _ _ dX5_copy_81 (qPt_of (by unfold T_copy; rw [zn_nI (show js < 2 ^ 31 by omega), zn_nI (show jt < 2 ^ 31 by omega)]; exact (zw_t ⟨c_5, c_13⟩).trans ((zw_f (fun q => q.elim c_32 c_44)).trans (zw_f c_72)))) rfl
        · refine qk_aloadn C dX5_copy_47 48 rfl rfl 0 rfl ?_
          refine qk_ldc C dX5_copy_48 50 rfl qw_605 ?_
          refine qk_callV C dX5_copy_50 53 rfl ql_X5_58 qc_X5_found 0 (by decide) rfl rfl (c_X5_found l G _ _ 5 (by decide) (by decide)) rfl rfl (Nat.le_of_ble_eq_true rfl) ⟨(Nat.le_of_ble_eq_true rfl), (Nat.le_of_ble_eq_true rfl)⟩ (qx_Ki ?_)
          exact hret _ _ _ _ dX5_copy_53 (qPt_of (by unfold T_copy; rw [zn_nI (show js < 2 ^ 31 by omega), zn_nI (show jt < 2 ^ 31 by omega)]; exact (zw_t ⟨c_5, c_13⟩).trans (zw_t (by first | exact Or.inl c_32 | exact Or.inr c_44)))) rfl
    · refine qk_aloadn C dX5_copy_16 17 rfl rfl 0 rfl ?_
      refine qk_ldc C dX5_copy_17 19 rfl qw_321 ?_
      refine qk_callV C dX5_copy_19 22 rfl ql_X5_58 qc_X5_found 0 (by decide) rfl rfl (c_X5_found l G _ _ 0 (by decide) (by decide)) rfl rfl (Nat.le_of_ble_eq_true rfl) ⟨(Nat.le_of_ble_eq_true rfl), (Nat.le_of_ble_eq_true rfl)⟩ (qx_Ki ?_)
      exact hret _ _ _ _ dX5_copy_22 (qPt_of (by unfold T_copy; exact zw_f (by first | exact fun q => c_5 q.1 | exact fun q => c_13 q.2))) rfl

theorem z_m6_of {n : Nat} (hn : n ≤ 40) : qx_mn (nI n) 6 = nI (z_m6 n) ∧ z_m6 n ≤ 6 ∧ z_m6 n ≤ n := by
  refine ⟨?_, ?_, ?_⟩
  · rw [show (6 : Int32) = nI 6 from rfl, qx_mn_nI (by omega) (by omega)]
    rfl
  · unfold z_m6; split <;> omega
  · unfold z_m6; split <;> omega
theorem c_X5_load (l : Launch) (G : qx_G) (σ : qx_Sg) (N : Nat) (w : Nat → Int32) (hI : qv_ok w N) (hH : qH σ 1 N w) (hSh : qS_ok σ) (s : Int32) : qx_Ct l G yX5_load cX5_load 6 (some .int) 3 63 [.ref (qx_ad G 0), .int s] (σ) (qPx σ (S_load N w σ s)) := by
  refine qx_of .int (lo := [(0, .ref (qx_ad G 0)), (1, .int s)]) (by decide +kernel) (Nat.le_of_ble_eq_true rfl) rfl (fun Δ (C : qx_C G Δ cX5_load RX5 6 3 63) hret => ?_)
  have hL : qx_isL 1 := Or.inl rfl
  have hM : qx_isL 14 := Or.inr (Or.inl rfl)
  have hN8 := hI.1
  have hN1 := hI.2.1
  have hT : qTr σ (qL σ 1 N w) := qTr.rf.li hN8
  have hW : qH (qL σ 1 N w) 1 N w := qH_qL
  refine qk_cg (qL σ 1 N w) (qH_w hH hL hN8) ?_
  refine qk_aloadn C dX5_load_0 1 rfl rfl 0 rfl ?_
  refine qk_iloadn C dX5_load_1 2 rfl rfl 1 rfl ?_
  refine qk_callV C dX5_load_2 5 rfl ql_X5_232 qc_X5_findingOfSheet 0 (by decide) rfl rfl (c_X5_findingOfSheet l G _ _) rfl rfl (Nat.le_of_ble_eq_true rfl) ⟨(Nat.le_of_ble_eq_true rfl), (Nat.le_of_ble_eq_true rfl)⟩ (qx_Ki ?_)
  rcases z_fos_cases σ s with ⟨h1, e⟩ | ⟨h1, h2, e⟩ | ⟨h1, h2, e⟩
  · refine qk_cast ((z_fos_li hN8).trans e) ?_
    refine qk_istoren C dX5_load_5 6 rfl rfl (by decide) rfl ?_
    refine qk_iloadn C dX5_load_6 7 rfl rfl 0 rfl ?_
    refine qk_if_eq C dX5_load_7 16 rfl 10 rfl (fun c => absurd c (by decide)) (fun _ => ?_)
    refine qk_aloadn C dX5_load_10 11 rfl rfl 1 rfl ?_
    refine qk_iloadn C dX5_load_11 12 rfl rfl 0 rfl ?_
    refine qk_callV C dX5_load_12 15 rfl ql_X5_58 qc_X5_found 0 (by decide) rfl rfl (c_X5_found l G _ _ 0 (by decide) (by decide)) rfl rfl (Nat.le_of_ble_eq_true rfl) ⟨(Nat.le_of_ble_eq_true rfl), (Nat.le_of_ble_eq_true rfl)⟩ (qx_Ki ?_)
    exact hret _ _ _ _ dX5_load_15 (qPx_bad 0 hN8 (zif_f h1) rfl hT hW) rfl
  · refine qk_cast ((z_fos_li hN8).trans e) ?_
    refine qk_istoren C dX5_load_5 6 rfl rfl (by decide) rfl ?_
    refine qk_iloadn C dX5_load_6 7 rfl rfl 0 rfl ?_
    refine qk_if_eq C dX5_load_7 16 rfl 10 rfl (fun c => absurd c (by decide)) (fun _ => ?_)
    refine qk_aloadn C dX5_load_10 11 rfl rfl 1 rfl ?_
    refine qk_iloadn C dX5_load_11 12 rfl rfl 0 rfl ?_
    refine qk_callV C dX5_load_12 15 rfl ql_X5_58 qc_X5_found 0 (by decide) rfl rfl (c_X5_found l G _ _ 5 (by decide) (by decide)) rfl rfl (Nat.le_of_ble_eq_true rfl) ⟨(Nat.le_of_ble_eq_true rfl), (Nat.le_of_ble_eq_true rfl)⟩ (qx_Ki ?_)
    exact hret _ _ _ _ dX5_load_15 (qPx_bad 5 hN8 ((zif_t h1).trans (zif_t h2)) rfl hT hW) rfl
  · refine qk_cast ((z_fos_li hN8).trans e) ?_
    obtain ⟨js, hjs, rfl⟩ := z_in_ex 3 rfl (by omega) h1
    have hSs : qx_isS (44 + js) := ⟨js, by omega, rfl⟩
    have h2s := h2
    rw [zn_nI (show js < 2 ^ 31 by omega)] at h2
    obtain ⟨n, hn, en⟩ := (hSh js (by omega)).2
    refine qk_istoren C dX5_load_5 6 rfl rfl (by decide) rfl ?_
    refine qk_iloadn C dX5_load_6 7 rfl rfl 0 rfl ?_
    refine qk_if_eq C dX5_load_7 16 rfl 10 rfl (fun _ => ?_) (fun c => absurd rfl c)
    refine qk_aloadn C dX5_load_16 17 rfl rfl 1 rfl ?_
    refine qk_get C dX5_load_17 20 rfl qf_X5_44 0 (by decide) rfl rfl ?_
    refine qk_iloadn C dX5_load_20 21 rfl rfl 2 rfl ?_
    refine qk_aald C dX5_load_21 22 rfl 43 (by decide) 2 rfl rfl (js) rfl (by omega) (by decide) rfl ?_
    refine qk_get C dX5_load_22 25 rfl qf_X5_229 _ hSs.lt (qx_Fs hSs _) rfl ?_
    refine qk_cast (show _ = nI n from by rw [qL_hi hN8 (by omega)]; exact en) ?_
    refine qk_bipush C (6) dX5_load_25 27 rfl rfl ?_
    refine qk_min C dX5_load_27 30 rfl ql_X5_257 ⟨(Nat.le_of_ble_eq_true rfl), (Nat.le_of_ble_eq_true rfl)⟩ ?_
    refine qk_cast (z_m6_of hn).1 ?_
    have hm6 := (z_m6_of hn).2
    generalize hmm : z_m6 n = m at hm6 ⊢
    refine qk_istoren C dX5_load_30 31 rfl rfl (by decide) rfl ?_
    refine qk_iconst C (nI 0) dX5_load_31 32 rfl rfl ?_
    refine qk_istore C dX5_load_32 34 rfl (by decide) rfl ?_
    have lp_34 : ∀ (n_34 : Nat) (i : Nat) (u : Nat → Int32), (i ≤ m ∧ qv_ok u N ∧ z_ld (σ (44 + js + 4)) m 0 w = z_ld (σ (44 + js + 4)) (m - i) i u) → m - i < n_34 → qx_K l G Δ (qL σ 1 N u) 34 [(4, .int (nI i)), (3, .int (nI m)), (0, .ref (qx_ad G 0)), (1, .int (nI js))] [] := by
      intro n_34
      induction n_34 with
      | zero => intro _ _ _ h9; exact absurd h9 (Nat.not_lt_zero _)
      | succ n_34 ih_34 =>
        intro i u hi hm_34
        refine qk_iload C dX5_load_34 36 rfl 0 rfl ?_
        refine qk_iloadn C dX5_load_36 37 rfl rfl 1 rfl ?_
        refine qk_icmp_ge C dX5_load_37 85 rfl 40 rfl (fun c_37 => ?_) (fun c_37 => ?_)
        · have him : m ≤ i := (nI_leI (by omega) (by omega)).mp c_37
          have hie : i = m := by omega
          subst hie
          refine qk_iloadn C dX5_load_85 86 rfl rfl 1 rfl ?_
          exact hret _ _ _ _ dX5_load_86 (qPx_ok ((zif_t h1).trans <| (zif_f h2s).trans (by rw [zn_nI (show js < 2 ^ 31 by omega), en, zn_nI (show n < 2 ^ 31 by omega)]; unfold z_ldS; rw [hmm, hi.2.2, Nat.sub_self]; rfl)) rfl (qTr.rf.li hN8) qH_qL) rfl
        · have him : i < m := Nat.not_le.mp (fun q => c_37 (nI_le q (by omega)))
          refine qk_aloadn C dX5_load_40 41 rfl rfl 2 rfl ?_
          refine qk_get C dX5_load_41 44 rfl qf_X5_44 0 (by decide) rfl rfl ?_
          refine qk_iloadn C dX5_load_44 45 rfl rfl 3 rfl ?_
          refine qk_aald C dX5_load_45 46 rfl 43 (by decide) 2 rfl rfl (js) rfl (by omega) (by decide) rfl ?_
          refine qk_get C dX5_load_46 49 rfl qf_X5_248 _ hSs.lt (qx_Fs hSs _) rfl ?_
          refine qk_iload C dX5_load_49 51 rfl 0 rfl ?_
          refine qk_iald C dX5_load_51 52 rfl (44 + js + 4) (by omega) (qx_Fs4 hSs) i rfl (by omega) (by decide) ?_
          refine qk_cast (show _ = (σ (44 + js + 4)) i from by rw [qL_hi hN8 (by omega)]) ?_
          refine qk_istore C dX5_load_52 54 rfl (by decide) rfl ?_
          refine qk_iload C dX5_load_54 56 rfl 0 rfl ?_
          refine qk_bipush C (12) dX5_load_56 58 rfl rfl ?_
          refine qk_callS C dX5_load_58 61 rfl ql_X5_53 qc_X5_within (c_X5_within l G _ _ _) rfl rfl (Nat.le_of_ble_eq_true rfl) ⟨(Nat.le_of_ble_eq_true rfl), (Nat.le_of_ble_eq_true rfl)⟩ (qx_Ki ?_)
          refine qk_if_neB C dX5_load_61 67 rfl 64 rfl (fun c_61 => ?_) (fun c_61 => ?_)
          · obtain ⟨q, hq, eq⟩ := z_in_ex 12 rfl (by omega) c_61
            refine qk_aloadn C dX5_load_67 68 rfl rfl 3 rfl ?_
            refine qk_get C dX5_load_68 71 rfl qf_X5_12 0 (by decide) rfl rfl ?_
            refine qk_get C dX5_load_71 74 rfl qf_X5_62 _ hL.l65 (qx_Fl hL _) rfl ?_
            refine qk_iload C dX5_load_74 76 rfl 1 rfl ?_
            refine qk_iload C dX5_load_76 78 rfl 0 rfl ?_
            refine qk_iast C dX5_load_78 79 rfl (1 + 1) hL.l1 (qx_Fl1 hL) (i) rfl (by omega) (by decide) ?_
            refine qk_cg _ (qL_w1 hL hN8 (i) (by omega) _) ?_
            refine qk_iinc C (nI (i + 1)) dX5_load_79 82 rfl 1 rfl (nI_1 i) (by decide) rfl ?_
            refine qk_goto C dX5_load_82 34 rfl ?_
            exact qk_lo [0, 2, 3, 4] rfl (ih_34 (i + 1) _ ⟨by omega, by rw [eq]; exact qv_li hi.2.1 (by omega) hq, by rw [hi.2.2, show m - i = (m - (i + 1)) + 1 by omega]; exact z_ld_t c_61⟩ (by omega))
          · refine qk_iload C dX5_load_64 66 rfl 1 rfl ?_
            exact hret _ _ _ _ dX5_load_66 (qPx_ok ((zif_t h1).trans <| (zif_f h2s).trans (by rw [zn_nI (show js < 2 ^ 31 by omega), en, zn_nI (show n < 2 ^ 31 by omega)]; unfold z_ldS; rw [hmm, hi.2.2, show m - i = (m - (i + 1)) + 1 by omega, z_ld_f c_61])) rfl (qTr.rf.li hN8) qH_qL) rfl
    exact qk_lo [0, 1, 3, 4] rfl (lp_34 _ 0 w ⟨by omega, hI, rfl⟩ (Nat.lt_succ_self _))

theorem c_X5_judge (l : Launch) (G : qx_G) (σ : qx_Sg) (N : Nat) (w : Nat → Int32) (hI : qv_ok w N) (hH : qH σ 1 N w) (hSh : qS_ok σ) (s : Int32) : qx_Ct l G yX5_judge cX5_judge 4 (some .int) 3 66 [.ref (qx_ad G 0), .int s] (σ) (qPx σ (S_judge N w σ s)) := by
  refine qx_of .int (lo := [(0, .ref (qx_ad G 0)), (1, .int s)]) (by decide +kernel) (Nat.le_of_ble_eq_true rfl) rfl (fun Δ (C : qx_C G Δ cX5_judge RX5 4 3 66) hret => ?_)
  have hL : qx_isL 1 := Or.inl rfl
  have hM : qx_isL 14 := Or.inr (Or.inl rfl)
  have hN8 := hI.1
  have hN1 := hI.2.1
  have hT : qTr σ (qL σ 1 N w) := qTr.rf.li hN8
  have hW : qH (qL σ 1 N w) 1 N w := qH_qL
  refine qk_cg (qL σ 1 N w) (qH_w hH hL hN8) ?_
  refine qk_aloadn C dX5_judge_0 1 rfl rfl 0 rfl ?_
  refine qk_iloadn C dX5_judge_1 2 rfl rfl 1 rfl ?_
  refine qk_callV C dX5_judge_2 5 rfl ql_X5_232 qc_X5_findingOfSheet 0 (by decide) rfl rfl (c_X5_findingOfSheet l G _ _) rfl rfl (Nat.le_of_ble_eq_true rfl) ⟨(Nat.le_of_ble_eq_true rfl), (Nat.le_of_ble_eq_true rfl)⟩ (qx_Ki ?_)
  rcases z_fos_cases σ s with ⟨h1, e⟩ | ⟨h1, h2, e⟩ | ⟨h1, h2, e⟩
  · refine qk_cast ((z_fos_li hN8).trans e) ?_
    refine qk_istoren C dX5_judge_5 6 rfl rfl (by decide) rfl ?_
    refine qk_iloadn C dX5_judge_6 7 rfl rfl 0 rfl ?_
    refine qk_if_eq C dX5_judge_7 16 rfl 10 rfl (fun c => absurd c (by decide)) (fun _ => ?_)
    refine qk_aloadn C dX5_judge_10 11 rfl rfl 1 rfl ?_
    refine qk_iloadn C dX5_judge_11 12 rfl rfl 0 rfl ?_
    refine qk_callV C dX5_judge_12 15 rfl ql_X5_58 qc_X5_found 0 (by decide) rfl rfl (c_X5_found l G _ _ 0 (by decide) (by decide)) rfl rfl (Nat.le_of_ble_eq_true rfl) ⟨(Nat.le_of_ble_eq_true rfl), (Nat.le_of_ble_eq_true rfl)⟩ (qx_Ki ?_)
    exact hret _ _ _ _ dX5_judge_15 (qPx_bad 0 hN8 (zif_f h1) rfl hT hW) rfl
  · refine qk_cast ((z_fos_li hN8).trans e) ?_
    refine qk_istoren C dX5_judge_5 6 rfl rfl (by decide) rfl ?_
    refine qk_iloadn C dX5_judge_6 7 rfl rfl 0 rfl ?_
    refine qk_if_eq C dX5_judge_7 16 rfl 10 rfl (fun c => absurd c (by decide)) (fun _ => ?_)
    refine qk_aloadn C dX5_judge_10 11 rfl rfl 1 rfl ?_
    refine qk_iloadn C dX5_judge_11 12 rfl rfl 0 rfl ?_
    refine qk_callV C dX5_judge_12 15 rfl ql_X5_58 qc_X5_found 0 (by decide) rfl rfl (c_X5_found l G _ _ 5 (by decide) (by decide)) rfl rfl (Nat.le_of_ble_eq_true rfl) ⟨(Nat.le_of_ble_eq_true rfl), (Nat.le_of_ble_eq_true rfl)⟩ (qx_Ki ?_)
    exact hret _ _ _ _ dX5_judge_15 (qPx_bad 5 hN8 ((zif_t h1).trans (zif_t h2)) rfl hT hW) rfl
  · refine qk_cast ((z_fos_li hN8).trans e) ?_
    obtain ⟨js, hjs, rfl⟩ := z_in_ex 3 rfl (by omega) h1
    have hSs : qx_isS (44 + js) := ⟨js, by omega, rfl⟩
    have h2s := h2
    rw [zn_nI (show js < 2 ^ 31 by omega)] at h2
    obtain ⟨n, hn, en⟩ := (hSh js (by omega)).2
    refine qk_istoren C dX5_judge_5 6 rfl rfl (by decide) rfl ?_
    refine qk_iloadn C dX5_judge_6 7 rfl rfl 0 rfl ?_
    refine qk_if_eq C dX5_judge_7 16 rfl 10 rfl (fun _ => ?_) (fun c => absurd rfl c)
    refine qk_iconst C (nI 0) dX5_judge_16 17 rfl rfl ?_
    refine qk_istoren C dX5_judge_17 18 rfl rfl (by decide) rfl ?_
    have lp_18 : ∀ (n_18 : Nat) (i : Nat), (i ≤ n ∧ z_jd N w (σ (44 + js + 4)) n 0 = z_jd N w (σ (44 + js + 4)) (n - i) i) → n - i < n_18 → qx_K l G Δ (qL σ 1 N w) 18 [(3, .int (nI i)), (0, .ref (qx_ad G 0)), (1, .int (nI js))] [] := by
      intro n_18
      induction n_18 with
      | zero => intro _ _ h9; exact absurd h9 (Nat.not_lt_zero _)
      | succ n_18 ih_18 =>
        intro i hi hm_18
        refine qk_iloadn C dX5_judge_18 19 rfl rfl 0 rfl ?_
        refine qk_aloadn C dX5_judge_19 20 rfl rfl 1 rfl ?_
        refine qk_get C dX5_judge_20 23 rfl qf_X5_44 0 (by decide) rfl rfl ?_
        refine qk_iloadn C dX5_judge_23 24 rfl rfl 2 rfl ?_
        refine qk_aald C dX5_judge_24 25 rfl 43 (by decide) 2 rfl rfl (js) rfl (by omega) (by decide) rfl ?_
        refine qk_get C dX5_judge_25 28 rfl qf_X5_229 _ hSs.lt (qx_Fs hSs _) rfl ?_
        refine qk_cast (show _ = nI n from by rw [qL_hi hN8 (by omega)]; exact en) ?_
        refine qk_icmp_ge C dX5_judge_28 75 rfl 31 rfl (fun c_28 => ?_) (fun c_28 => ?_)
        · have hin : n ≤ i := (nI_leI (by omega) (by omega)).mp c_28
          have hie : n = i := by omega
          subst hie
          refine qk_iconst C (0) dX5_judge_75 76 rfl rfl ?_
          exact hret _ _ _ _ dX5_judge_76 (qPx_ok ((zif_t h1).trans <| (zif_f h2s).trans (by rw [zn_nI (show js < 2 ^ 31 by omega), en, zn_nI (show n < 2 ^ 31 by omega)]; rw [hi.2, Nat.sub_self]; rfl)) rfl hT hW) rfl
        · have hin : i < n := Nat.not_le.mp (fun q => c_28 (nI_le q (by omega)))
          refine qk_aloadn C dX5_judge_31 32 rfl rfl 1 rfl ?_
          refine qk_iloadn C dX5_judge_32 33 rfl rfl 0 rfl ?_
          refine qk_callV C dX5_judge_33 36 rfl ql_X5_73 qc_X5_isBust 0 (by decide) rfl rfl (c_X5_isBust l G σ N w hI _) rfl rfl (Nat.le_of_ble_eq_true rfl) ⟨(Nat.le_of_ble_eq_true rfl), (Nat.le_of_ble_eq_true rfl)⟩ (qx_Ki ?_)
          refine qk_if_eqB C dX5_judge_36 65 rfl 39 rfl (fun c_36 => ?_) (fun c_36 => ?_)
          · refine qk_iconst C (1) dX5_judge_65 66 rfl rfl ?_
            refine qk_iloadn C dX5_judge_66 67 rfl rfl 0 rfl ?_
            refine qk_iadd C dX5_judge_67 68 rfl ?_
            exact hret _ _ _ _ dX5_judge_68 (qPx_ok ((zif_t h1).trans <| (zif_f h2s).trans (by rw [zn_nI (show js < 2 ^ 31 by omega), en, zn_nI (show n < 2 ^ 31 by omega)]; rw [hi.2, show n - i = (n - (i + 1)) + 1 by omega, show z_jd N w (σ (44 + js + 4)) (n - (i + 1) + 1) i = 1 + nI i from z_sel_f (by first | exact fun q => c_36 q.1 | exact fun q => c_62 q.2)])) rfl hT hW) rfl
          · have hiN : i < N := by
              obtain ⟨q, hq, eq⟩ := z_ib_ex c_36 hN8
              have := (nI_eq (by omega) (by omega)).mp eq
              omega
            refine qk_aloadn C dX5_judge_39 40 rfl rfl 1 rfl ?_
            refine qk_get C dX5_judge_40 43 rfl qf_X5_12 0 (by decide) rfl rfl ?_
            refine qk_get C dX5_judge_43 46 rfl qf_X5_77 _ hL.l65 (qx_Fl hL _) rfl ?_
            refine qk_iloadn C dX5_judge_46 47 rfl rfl 0 rfl ?_
            refine qk_aald C dX5_judge_47 48 rfl (1 + 4) hL.l4 1 (qx_Fl4 hL _) rfl (i) rfl (by omega) (by decide) rfl ?_
            refine qk_callV C dX5_judge_48 51 rfl ql_X5_169 qc_X0_says _ (qx_isB.of hL (show i < 8 by omega)).lt (qx_Fb (qx_isB.of hL (show i < 8 by omega)) _) rfl (cL_X0_says l G 1 N i hL hN8 hiN σ w) rfl rfl (Nat.le_of_ble_eq_true rfl) ⟨(Nat.le_of_ble_eq_true rfl), (Nat.le_of_ble_eq_true rfl)⟩ (qx_Ki ?_)
            refine qk_aloadn C dX5_judge_51 52 rfl rfl 1 rfl ?_
            refine qk_get C dX5_judge_52 55 rfl qf_X5_44 0 (by decide) rfl rfl ?_
            refine qk_iloadn C dX5_judge_55 56 rfl rfl 2 rfl ?_
            refine qk_aald C dX5_judge_56 57 rfl 43 (by decide) 2 rfl rfl (js) rfl (by omega) (by decide) rfl ?_
            refine qk_get C dX5_judge_57 60 rfl qf_X5_248 _ hSs.lt (qx_Fs hSs _) rfl ?_
            refine qk_iloadn C dX5_judge_60 61 rfl rfl 0 rfl ?_
            refine qk_iald C dX5_judge_61 62 rfl (44 + js + 4) (by omega) (qx_Fs4 hSs) i rfl (by omega) (by decide) ?_
            refine qk_cast (show _ = (σ (44 + js + 4)) i from by rw [qL_hi hN8 (by omega)]) ?_
            refine qk_icmp_eq C dX5_judge_62 69 rfl 65 rfl (fun c_62 => ?_) (fun c_62 => ?_)
            · refine qk_iinc C (nI (i + 1)) dX5_judge_69 72 rfl 0 rfl (nI_1 i) (by decide) rfl ?_
              refine qk_goto C dX5_judge_72 18 rfl ?_
              exact ih_18 (i + 1) ⟨by omega, by rw [hi.2, show n - i = (n - (i + 1)) + 1 by omega]; exact z_sel_t ⟨c_36, c_62⟩⟩ (by omega)
            · refine qk_iconst C (1) dX5_judge_65 66 rfl rfl ?_
              refine qk_iloadn C dX5_judge_66 67 rfl rfl 0 rfl ?_
              refine qk_iadd C dX5_judge_67 68 rfl ?_
              exact hret _ _ _ _ dX5_judge_68 (qPx_ok ((zif_t h1).trans <| (zif_f h2s).trans (by rw [zn_nI (show js < 2 ^ 31 by omega), en, zn_nI (show n < 2 ^ 31 by omega)]; rw [hi.2, show n - i = (n - (i + 1)) + 1 by omega, show z_jd N w (σ (44 + js + 4)) (n - (i + 1) + 1) i = 1 + nI i from z_sel_f (by first | exact fun q => c_36 q.1 | exact fun q => c_62 q.2)])) rfl hT hW) rfl
    exact qk_lo [0, 2, 3] rfl (lp_18 _ 0 ⟨by omega, rfl⟩ (Nat.lt_succ_self _))

theorem c_X5_trialSays (l : Launch) (G : qx_G) (τ : qx_Sg) (N : Nat) (w : Nat → Int32) (hI : qv_ok w N) (j : Nat) (hj : j < N) (s : Nat) (hs : s < 4) (n : Nat) (hn : n ≤ 40) (en : τ (44 + s) 1 = nI n) : qx_Ct l G yX5_trialSays cX5_trialSays 5 (some .boolean) 4 91 [.ref (qx_ad G 0), .int (nI j), .ref (qx_ad G (44 + s))] (qL τ 14 N w) (fun v σ' => v = some (.int (qb (z_vs N w (τ (44 + s + 4)) n j))) ∧ ∃ u, σ' = qL τ 14 N u) := by
  refine qx_of .boolean (lo := [(0, .ref (qx_ad G 0)), (1, .int (nI j)), (2, .ref (qx_ad G (44 + s)))]) (by decide +kernel) (Nat.le_of_ble_eq_true rfl) rfl (fun Δ (C : qx_C G Δ cX5_trialSays RX5 5 4 91) hret => ?_)
  have hL : qx_isL 1 := Or.inl rfl
  have hM : qx_isL 14 := Or.inr (Or.inl rfl)
  have hN8 := hI.1
  have hN1 := hI.2.1
  have hS : qx_isS (44 + s) := ⟨s, hs, rfl⟩
  refine qk_iconst C (nI 0) dX5_trialSays_0 1 rfl rfl ?_
  refine qk_istoren C dX5_trialSays_1 2 rfl rfl (by decide) rfl ?_
  have lp_2 : ∀ (n_2 : Nat) (i : Nat), (i ≤ n ∧ ∀ c, c < i → τ (44 + s + 4) c = -1 ∨ τ (44 + s + 4) c = z_say (z_row (z_dn w N c) j)) → n - i < n_2 → qx_K l G Δ (qL τ 14 N (z_dn w N (i - 1))) 2 [(3, .int (nI i)), (0, .ref (qx_ad G 0)), (1, .int (nI j)), (2, .ref (qx_ad G (44 + s)))] [] := by
    intro n_2
    induction n_2 with
    | zero => intro _ _ h9; exact absurd h9 (Nat.not_lt_zero _)
    | succ n_2 ih_2 =>
      intro i hi hm_2
      refine qk_iloadn C dX5_trialSays_2 3 rfl rfl 0 rfl ?_
      refine qk_aloadn C dX5_trialSays_3 4 rfl rfl 3 rfl ?_
      refine qk_get C dX5_trialSays_4 7 rfl qf_X5_229 _ hS.lt (qx_Fs hS _) rfl ?_
      refine qk_cast (show _ = nI n from by rw [qL_hi14 hN8 (by omega)]; exact en) ?_
      refine qk_icmp_ge C dX5_trialSays_7 60 rfl 10 rfl (fun c_7 => ?_) (fun c_7 => ?_)
      · have hin : n ≤ i := (nI_leI (by omega) (by omega)).mp c_7
        have hie : i = n := by omega
        subst hie
        refine qk_iconst C (1) dX5_trialSays_60 61 rfl rfl ?_
        exact hret _ _ _ _ dX5_trialSays_61 (⟨congrArg (fun x => some (Value.int x)) (qb_t (fun c hc => hi.2 c hc)).symm, _, rfl⟩) rfl
      · have hin : i < n := Nat.not_le.mp (fun q => c_7 (nI_le q (by omega)))
        refine qk_iloadn C dX5_trialSays_10 11 rfl rfl 0 rfl ?_
        refine qk_if_le C dX5_trialSays_11 21 rfl 14 rfl (fun c_11 => ?_) (fun c_11 => ?_)
        · have hi0 : i = 0 := by
            rcases Nat.eq_zero_or_pos i with e | e
            · exact e
            · exact absurd c_11 (nI_nle e (by omega))
          refine qk_sg (qL τ 14 N (z_dn w N i)) (by rw [hi0]) ?_
          refine qk_aloadn C dX5_trialSays_21 22 rfl rfl 3 rfl ?_
          refine qk_get C dX5_trialSays_22 25 rfl qf_X5_248 _ hS.lt (qx_Fs hS _) rfl ?_
          refine qk_iloadn C dX5_trialSays_25 26 rfl rfl 0 rfl ?_
          refine qk_iald C dX5_trialSays_26 27 rfl (44 + s + 4) (by omega) (qx_Fs4 hS) i rfl (by omega) (by decide) ?_
          refine qk_cast (show _ = τ (44 + s + 4) i from by rw [qL_hi14 hN8 (by omega)]) ?_
          refine qk_istore C dX5_trialSays_27 29 rfl (by decide) rfl ?_
          refine qk_iload C dX5_trialSays_29 31 rfl 0 rfl ?_
          refine qk_iconst C ((-1)) dX5_trialSays_31 32 rfl rfl ?_
          refine qk_icmp_eq C dX5_trialSays_32 54 rfl 35 rfl (fun c_32 => ?_) (fun c_32 => ?_)
          · refine qk_iinc C (nI (i + 1)) dX5_trialSays_54 57 rfl 1 rfl (nI_1 i) (by decide) rfl ?_
            refine qk_goto C dX5_trialSays_57 2 rfl ?_
            exact qk_lo [0, 2, 3, 4] rfl (ih_2 (i + 1) ⟨by omega, lt_s hi.2 (by first | exact Or.inl c_32 | exact Or.inr c_49)⟩ (by omega))
          · refine qk_iload C dX5_trialSays_35 37 rfl 0 rfl ?_
            refine qk_aloadn C dX5_trialSays_37 38 rfl rfl 2 rfl ?_
            refine qk_get C dX5_trialSays_38 41 rfl qf_X5_16 0 (by decide) rfl rfl ?_
            refine qk_get C dX5_trialSays_41 44 rfl qf_X5_77 _ hM.l65 (qx_Fl hM _) rfl ?_
            refine qk_iloadn C dX5_trialSays_44 45 rfl rfl 3 rfl ?_
            refine qk_aald C dX5_trialSays_45 46 rfl (14 + 4) hM.l4 1 (qx_Fl4 hM _) rfl (j) rfl (by omega) (by decide) rfl ?_
            refine qk_callV C dX5_trialSays_46 49 rfl ql_X5_169 qc_X0_says _ (qx_isB.of hM (show j < 8 by omega)).lt (qx_Fb (qx_isB.of hM (show j < 8 by omega)) _) rfl (cL_X0_says l G 14 N j hM hN8 hj τ (z_dn w N i)) rfl rfl (Nat.le_of_ble_eq_true rfl) ⟨(Nat.le_of_ble_eq_true rfl), (Nat.le_of_ble_eq_true rfl)⟩ (qx_Ki ?_)
            refine qk_icmp_eq C dX5_trialSays_49 54 rfl 52 rfl (fun c_49 => ?_) (fun c_49 => ?_)
            · refine qk_iinc C (nI (i + 1)) dX5_trialSays_54 57 rfl 1 rfl (nI_1 i) (by decide) rfl ?_
              refine qk_goto C dX5_trialSays_57 2 rfl ?_
              exact qk_lo [0, 2, 3, 4] rfl (ih_2 (i + 1) ⟨by omega, lt_s hi.2 (by first | exact Or.inl c_32 | exact Or.inr c_49)⟩ (by omega))
            · refine qk_iconst C (0) dX5_trialSays_52 53 rfl rfl ?_
              exact hret _ _ _ _ dX5_trialSays_53 (⟨congrArg (fun x => some (Value.int x)) (qb_f (fun q => (q i hin).elim c_32 c_49)).symm, _, rfl⟩) rfl
        · have hi0 : 0 < i := Nat.pos_of_ne_zero (fun e => c_11 (by subst e; decide))
          refine qk_aloadn C dX5_trialSays_14 15 rfl rfl 1 rfl ?_
          refine qk_get C dX5_trialSays_15 18 rfl qf_X5_16 0 (by decide) rfl rfl ?_
          refine qk_callV C dX5_trialSays_18 21 rfl ql_X5_147 qc_X1_passDay _ hM.l65 (qx_Fl hM _) rfl (c_X1_passDay l G 14 N hM τ _ (qv_dn hI (i - 1))) rfl rfl (Nat.le_of_ble_eq_true rfl) ⟨(Nat.le_of_ble_eq_true rfl), (Nat.le_of_ble_eq_true rfl)⟩ (qx_Kv ?_)
          refine qk_sg (qL τ 14 N (z_dn w N i)) (by obtain ⟨q, rfl⟩ : ∃ q, i = q + 1 := ⟨i - 1, by omega⟩; rfl) ?_
          refine qk_aloadn C dX5_trialSays_21 22 rfl rfl 3 rfl ?_
          refine qk_get C dX5_trialSays_22 25 rfl qf_X5_248 _ hS.lt (qx_Fs hS _) rfl ?_
          refine qk_iloadn C dX5_trialSays_25 26 rfl rfl 0 rfl ?_
          refine qk_iald C dX5_trialSays_26 27 rfl (44 + s + 4) (by omega) (qx_Fs4 hS) i rfl (by omega) (by decide) ?_
          refine qk_cast (show _ = τ (44 + s + 4) i from by rw [qL_hi14 hN8 (by omega)]) ?_
          refine qk_istore C dX5_trialSays_27 29 rfl (by decide) rfl ?_
          refine qk_iload C dX5_trialSays_29 31 rfl 0 rfl ?_
          refine qk_iconst C ((-1)) dX5_trialSays_31 32 rfl rfl ?_
          refine qk_icmp_eq C dX5_trialSays_32 54 rfl 35 rfl (fun c_32 => ?_) (fun c_32 => ?_)
          · refine qk_iinc C (nI (i + 1)) dX5_trialSays_54 57 rfl 1 rfl (nI_1 i) (by decide) rfl ?_
            refine qk_goto C dX5_trialSays_57 2 rfl ?_
            exact qk_lo [0, 2, 3, 4] rfl (ih_2 (i + 1) ⟨by omega, lt_s hi.2 (by first | exact Or.inl c_32 | exact Or.inr c_49)⟩ (by omega))
          · refine qk_iload C dX5_trialSays_35 37 rfl 0 rfl ?_
            refine qk_aloadn C dX5_trialSays_37 38 rfl rfl 2 rfl ?_
            refine qk_get C dX5_trialSays_38 41 rfl qf_X5_16 0 (by decide) rfl rfl ?_
            refine qk_get C dX5_trialSays_41 44 rfl qf_X5_77 _ hM.l65 (qx_Fl hM _) rfl ?_
            refine qk_iloadn C dX5_trialSays_44 45 rfl rfl 3 rfl ?_
            refine qk_aald C dX5_trialSays_45 46 rfl (14 + 4) hM.l4 1 (qx_Fl4 hM _) rfl (j) rfl (by omega) (by decide) rfl ?_
            refine qk_callV C dX5_trialSays_46 49 rfl ql_X5_169 qc_X0_says _ (qx_isB.of hM (show j < 8 by omega)).lt (qx_Fb (qx_isB.of hM (show j < 8 by omega)) _) rfl (cL_X0_says l G 14 N j hM hN8 hj τ (z_dn w N i)) rfl rfl (Nat.le_of_ble_eq_true rfl) ⟨(Nat.le_of_ble_eq_true rfl), (Nat.le_of_ble_eq_true rfl)⟩ (qx_Ki ?_)
            refine qk_icmp_eq C dX5_trialSays_49 54 rfl 52 rfl (fun c_49 => ?_) (fun c_49 => ?_)
            · refine qk_iinc C (nI (i + 1)) dX5_trialSays_54 57 rfl 1 rfl (nI_1 i) (by decide) rfl ?_
              refine qk_goto C dX5_trialSays_57 2 rfl ?_
              exact qk_lo [0, 2, 3, 4] rfl (ih_2 (i + 1) ⟨by omega, lt_s hi.2 (by first | exact Or.inl c_32 | exact Or.inr c_49)⟩ (by omega))
            · refine qk_iconst C (0) dX5_trialSays_52 53 rfl rfl ?_
              exact hret _ _ _ _ dX5_trialSays_53 (⟨congrArg (fun x => some (Value.int x)) (qb_f (fun q => (q i hin).elim c_32 c_49)).symm, _, rfl⟩) rfl
  exact lp_2 _ 0 ⟨by omega, lt_0⟩ (Nat.lt_succ_self _)

theorem qx_KQ {l : Launch} {G : qx_G} {Δ : qx_T} {lo : List (Nat × Value)} {st : List Value} {pc' : Nat} {P : Prop} {τ : qx_Sg} {N : Nat} (K : ∀ u, qx_K l G Δ (qL τ 14 N u) pc' lo (.int (qb P) :: st)) : ∀ v σ', (v = some (.int (qb P)) ∧ ∃ u, σ' = qL τ 14 N u) → qx_K l G Δ σ' pc' lo (v.toList ++ st) := by
  rintro v σ' ⟨rfl, u, rfl⟩; exact K u
theorem c_X5_fits (l : Launch) (G : qx_G) (σ : qx_Sg) (N : Nat) (w : Nat → Int32) (hI : qv_ok w N) (hH : qH σ 1 N w) (hSh : qS_ok σ) (s b : Int32) : qx_Ct l G yX5_fits cX5_fits 6 (some .int) 5 115 [.ref (qx_ad G 0), .int s, .int b] (σ) (qPx σ (S_fits N w σ s b)) := by
  refine qx_of .int (lo := [(0, .ref (qx_ad G 0)), (1, .int s), (2, .int b)]) (by decide +kernel) (Nat.le_of_ble_eq_true rfl) rfl (fun Δ (C : qx_C G Δ cX5_fits RX5 6 5 115) hret => ?_)
  have hL : qx_isL 1 := Or.inl rfl
  have hM : qx_isL 14 := Or.inr (Or.inl rfl)
  have hN8 := hI.1
  have hN1 := hI.2.1
  have hT : qTr σ (qL σ 1 N w) := qTr.rf.li hN8
  have hW : qH (qL σ 1 N w) 1 N w := qH_qL
  refine qk_cg (qL σ 1 N w) (qH_w hH hL hN8) ?_
  refine qk_aloadn C dX5_fits_0 1 rfl rfl 0 rfl ?_
  refine qk_iloadn C dX5_fits_1 2 rfl rfl 1 rfl ?_
  refine qk_iloadn C dX5_fits_2 3 rfl rfl 2 rfl ?_
  refine qk_callV C dX5_fits_3 6 rfl ql_X5_181 qc_X5_findingOfVoices 0 (by decide) rfl rfl (c_X5_findingOfVoices l G σ N w hI _ _) rfl rfl (Nat.le_of_ble_eq_true rfl) ⟨(Nat.le_of_ble_eq_true rfl), (Nat.le_of_ble_eq_true rfl)⟩ (qx_Ki ?_)
  rcases z_fov_cases σ N s b with ⟨h1, e⟩ | ⟨h1, h2, e⟩ | ⟨h1, h2, h3, e⟩ | ⟨h1, h2, h3, e⟩
  · refine qk_cast e ?_
    refine qk_istoren C dX5_fits_6 7 rfl rfl (by decide) rfl ?_
    refine qk_iloadn C dX5_fits_7 8 rfl rfl 0 rfl ?_
    refine qk_if_eq C dX5_fits_8 17 rfl 11 rfl (fun c => absurd c (by decide)) (fun _ => ?_)
    refine qk_aloadn C dX5_fits_11 12 rfl rfl 1 rfl ?_
    refine qk_iloadn C dX5_fits_12 13 rfl rfl 0 rfl ?_
    refine qk_callV C dX5_fits_13 16 rfl ql_X5_58 qc_X5_found 0 (by decide) rfl rfl (c_X5_found l G _ _ 0 (by decide) (by decide)) rfl rfl (Nat.le_of_ble_eq_true rfl) ⟨(Nat.le_of_ble_eq_true rfl), (Nat.le_of_ble_eq_true rfl)⟩ (qx_Ki ?_)
    exact hret _ _ _ _ dX5_fits_16 (qPx_bad 0 hN8 (zif_f h1) rfl hT hW) rfl
  · refine qk_cast e ?_
    refine qk_istoren C dX5_fits_6 7 rfl rfl (by decide) rfl ?_
    refine qk_iloadn C dX5_fits_7 8 rfl rfl 0 rfl ?_
    refine qk_if_eq C dX5_fits_8 17 rfl 11 rfl (fun c => absurd c (by decide)) (fun _ => ?_)
    refine qk_aloadn C dX5_fits_11 12 rfl rfl 1 rfl ?_
    refine qk_iloadn C dX5_fits_12 13 rfl rfl 0 rfl ?_
    refine qk_callV C dX5_fits_13 16 rfl ql_X5_58 qc_X5_found 0 (by decide) rfl rfl (c_X5_found l G _ _ 5 (by decide) (by decide)) rfl rfl (Nat.le_of_ble_eq_true rfl) ⟨(Nat.le_of_ble_eq_true rfl), (Nat.le_of_ble_eq_true rfl)⟩ (qx_Ki ?_)
    exact hret _ _ _ _ dX5_fits_16 (qPx_bad 5 hN8 ((zif_t h1).trans (zif_t h2)) rfl hT hW) rfl
  · refine qk_cast e ?_
    refine qk_istoren C dX5_fits_6 7 rfl rfl (by decide) rfl ?_
    refine qk_iloadn C dX5_fits_7 8 rfl rfl 0 rfl ?_
    refine qk_if_eq C dX5_fits_8 17 rfl 11 rfl (fun c => absurd c (by decide)) (fun _ => ?_)
    refine qk_aloadn C dX5_fits_11 12 rfl rfl 1 rfl ?_
    refine qk_iloadn C dX5_fits_12 13 rfl rfl 0 rfl ?_
    refine qk_callV C dX5_fits_13 16 rfl ql_X5_58 qc_X5_found 0 (by decide) rfl rfl (c_X5_found l G _ _ 0 (by decide) (by decide)) rfl rfl (Nat.le_of_ble_eq_true rfl) ⟨(Nat.le_of_ble_eq_true rfl), (Nat.le_of_ble_eq_true rfl)⟩ (qx_Ki ?_)
    exact hret _ _ _ _ dX5_fits_16 (qPx_bad 0 hN8 ((zif_t h1).trans ((zif_f h2).trans (zif_f h3))) rfl hT hW) rfl
  · refine qk_cast e ?_
    obtain ⟨js, hjs, rfl⟩ := z_in_ex 3 rfl (by omega) h1
    have hSs : qx_isS (44 + js) := ⟨js, by omega, rfl⟩
    have h2s := h2
    rw [zn_nI (show js < 2 ^ 31 by omega)] at h2
    obtain ⟨n, hn, en⟩ := (hSh js (by omega)).2
    obtain ⟨jb, hjb, rfl⟩ := z_ib_ex h3 hN8
    refine qk_istoren C dX5_fits_6 7 rfl rfl (by decide) rfl ?_
    refine qk_iloadn C dX5_fits_7 8 rfl rfl 0 rfl ?_
    refine qk_if_eq C dX5_fits_8 17 rfl 11 rfl (fun _ => ?_) (fun c => absurd rfl c)
    refine qk_iconst C (0) dX5_fits_17 18 rfl rfl ?_
    refine qk_istore C dX5_fits_18 20 rfl (by decide) rfl ?_
    obtain ⟨d, hd, ed⟩ := hI.2.2.1
    have hdd : z_dd w = d % 6 := z_dd_of ed hd
    refine qk_iconst C (nI 0) dX5_fits_20 21 rfl rfl ?_
    refine qk_istore C dX5_fits_21 23 rfl (by decide) rfl ?_
    have lp_23 : ∀ (n_23 : Nat) (t : Nat) (ρ : qx_Sg) (a : Int32), (t ≤ 13 ∧ qTr σ ρ ∧ qH ρ 1 N w ∧ a = z_fo (z_fF N w (σ (44 + js + 4)) n jb) t) → 13 - t < n_23 → qx_K l G Δ (ρ) 23 [(5, .int (nI t)), (4, .int a), (0, .ref (qx_ad G 0)), (1, .int (nI js)), (2, .int (nI jb))] [] := by
      intro n_23
      induction n_23 with
      | zero => intro _ _ _ _ h9; exact absurd h9 (Nat.not_lt_zero _)
      | succ n_23 ih_23 =>
        intro t ρ a hi hm_23
        have hρ : (ρ (44 + js + 4)) = (σ (44 + js + 4)) := hi.2.1 _ (by omega) (by omega)
        have hρ1 : ρ (44 + js) = σ (44 + js) := hi.2.1 _ (by omega) (by omega)
        refine qk_iload C dX5_fits_23 25 rfl 0 rfl ?_
        refine qk_bipush C (nI 13) dX5_fits_25 27 rfl rfl ?_
        refine qk_icmp_ge C dX5_fits_27 74 rfl 30 rfl (fun c_27 => ?_) (fun c_27 => ?_)
        · have h13 : 13 ≤ t := (nI_leI (by omega) (by omega)).mp c_27
          have h13 : t = 13 := by omega
          refine qk_iload C dX5_fits_74 76 rfl 1 rfl ?_
          exact hret _ _ _ _ dX5_fits_76 (qPx_ok ((zif_t h1).trans <| (zif_f h2s).trans (by rw [zn_nI (show js < 2 ^ 31 by omega), en, zn_nI (show n < 2 ^ 31 by omega)]; exact (zif_t h3).trans (by rw [zn_nI (show jb < 2 ^ 31 by omega), ← h13, ← hi.2.2.2]))) rfl hi.2.1 hi.2.2.1) rfl
        · have h13 : t < 13 := Nat.not_le.mp (fun q => c_27 (nI_le q (by omega)))
          refine qk_aloadn C dX5_fits_30 31 rfl rfl 2 rfl ?_
          refine qk_callV C dX5_fits_31 34 rfl ql_X5_144 qc_X5_beginTrial 0 (by decide) rfl rfl (c_X5_beginTrial l G ρ N w hI hi.2.2.1) rfl rfl (Nat.le_of_ble_eq_true rfl) ⟨(Nat.le_of_ble_eq_true rfl), (Nat.le_of_ble_eq_true rfl)⟩ (qx_Kv ?_)
          refine qk_aloadn C dX5_fits_34 35 rfl rfl 2 rfl ?_
          refine qk_get C dX5_fits_35 38 rfl qf_X5_16 0 (by decide) rfl rfl ?_
          refine qk_get C dX5_fits_38 41 rfl qf_X5_62 _ hM.l65 (qx_Fl hM _) rfl ?_
          refine qk_aloadn C dX5_fits_41 42 rfl rfl 2 rfl ?_
          refine qk_get C dX5_fits_42 45 rfl qf_X5_16 0 (by decide) rfl rfl ?_
          refine qk_callV C dX5_fits_45 48 rfl ql_X5_184 qc_X1_placeToday _ hM.l65 (qx_Fl hM _) rfl (c_X1_placeToday l G 14 N hM ρ w d hd ed) rfl rfl (Nat.le_of_ble_eq_true rfl) ⟨(Nat.le_of_ble_eq_true rfl), (Nat.le_of_ble_eq_true rfl)⟩ (qx_Ki ?_)
          refine qk_iload C dX5_fits_48 50 rfl 0 rfl ?_
          refine qk_iast C dX5_fits_50 51 rfl (14 + 1) hM.l1 (qx_Fl1 hM) (d % 6) rfl (Nat.mod_lt _ (by omega)) (by decide) ?_
          refine qk_cg _ (qL_w1 hM hN8 (d % 6) (Nat.mod_lt _ (by omega)) _) ?_
          refine qk_aloadn C dX5_fits_51 52 rfl rfl 2 rfl ?_
          refine qk_iloadn C dX5_fits_52 53 rfl rfl 4 rfl ?_
          refine qk_aloadn C dX5_fits_53 54 rfl rfl 2 rfl ?_
          refine qk_get C dX5_fits_54 57 rfl qf_X5_44 0 (by decide) rfl rfl ?_
          refine qk_iloadn C dX5_fits_57 58 rfl rfl 3 rfl ?_
          refine qk_aald C dX5_fits_58 59 rfl 43 (by decide) 2 rfl rfl (js) rfl (by omega) (by decide) rfl ?_
          refine qk_callV C dX5_fits_59 62 rfl ql_X5_187 qc_X5_trialSays 0 (by decide) rfl rfl (c_X5_trialSays l G ρ N _ (qv_li hI (Nat.mod_lt _ (by omega)) (by omega)) jb hjb js (by omega) n hn (by rw [hρ1]; exact en)) rfl rfl (Nat.le_of_ble_eq_true rfl) ⟨(Nat.le_of_ble_eq_true rfl), (Nat.le_of_ble_eq_true rfl)⟩ (qx_KQ ?_)
          intro u
          refine qk_if_eqB C dX5_fits_62 68 rfl 65 rfl (fun c_62 => ?_) (fun c_62 => ?_)
          · refine qk_iinc C (nI (t + 1)) dX5_fits_68 71 rfl 0 rfl (nI_1 t) (by decide) rfl ?_
            refine qk_goto C dX5_fits_71 23 rfl ?_
            exact ih_23 (t + 1) _ _ ⟨by omega, hi.2.1.tr hN8, qH_tr hi.2.2.1 hN8 hN8, by rw [hi.2.2.2]; exact (z_sel_f (by rw [hdd]; rw [hρ] at c_62; exact c_62)).symm⟩ (by omega)
          · refine qk_iinc C (a + 1) dX5_fits_65 68 rfl 1 rfl rfl (by decide) rfl ?_
            refine qk_iinc C (nI (t + 1)) dX5_fits_68 71 rfl 1 rfl (nI_1 t) (by decide) rfl ?_
            refine qk_goto C dX5_fits_71 23 rfl ?_
            exact ih_23 (t + 1) _ _ ⟨by omega, hi.2.1.tr hN8, qH_tr hi.2.2.1 hN8 hN8, by rw [hi.2.2.2]; exact (z_sel_t (by rw [hdd]; rw [hρ] at c_62; exact c_62)).symm⟩ (by omega)
    exact qk_lo [0, 1, 3, 4, 5] rfl (lp_23 _ 0 _ 0 ⟨by omega, hT, hW, rfl⟩ (Nat.lt_succ_self _))

theorem c_X5_kinds (l : Launch) (G : qx_G) (σ : qx_Sg) (N : Nat) (w : Nat → Int32) (hI : qv_ok w N) (hH : qH σ 1 N w) (hSh : qS_ok σ) (s b : Int32) : qx_Ct l G yX5_kinds cX5_kinds 6 (some .int) 5 115 [.ref (qx_ad G 0), .int s, .int b] (σ) (qPx σ (S_kinds N w σ s b)) := by
  refine qx_of .int (lo := [(0, .ref (qx_ad G 0)), (1, .int s), (2, .int b)]) (by decide +kernel) (Nat.le_of_ble_eq_true rfl) rfl (fun Δ (C : qx_C G Δ cX5_kinds RX5 6 5 115) hret => ?_)
  have hL : qx_isL 1 := Or.inl rfl
  have hM : qx_isL 14 := Or.inr (Or.inl rfl)
  have hN8 := hI.1
  have hN1 := hI.2.1
  have hT : qTr σ (qL σ 1 N w) := qTr.rf.li hN8
  have hW : qH (qL σ 1 N w) 1 N w := qH_qL
  refine qk_cg (qL σ 1 N w) (qH_w hH hL hN8) ?_
  refine qk_aloadn C dX5_kinds_0 1 rfl rfl 0 rfl ?_
  refine qk_iloadn C dX5_kinds_1 2 rfl rfl 1 rfl ?_
  refine qk_iloadn C dX5_kinds_2 3 rfl rfl 2 rfl ?_
  refine qk_callV C dX5_kinds_3 6 rfl ql_X5_181 qc_X5_findingOfVoices 0 (by decide) rfl rfl (c_X5_findingOfVoices l G σ N w hI _ _) rfl rfl (Nat.le_of_ble_eq_true rfl) ⟨(Nat.le_of_ble_eq_true rfl), (Nat.le_of_ble_eq_true rfl)⟩ (qx_Ki ?_)
  rcases z_fov_cases σ N s b with ⟨h1, e⟩ | ⟨h1, h2, e⟩ | ⟨h1, h2, h3, e⟩ | ⟨h1, h2, h3, e⟩
  · refine qk_cast e ?_
    refine qk_istoren C dX5_kinds_6 7 rfl rfl (by decide) rfl ?_
    refine qk_iloadn C dX5_kinds_7 8 rfl rfl 0 rfl ?_
    refine qk_if_eq C dX5_kinds_8 17 rfl 11 rfl (fun c => absurd c (by decide)) (fun _ => ?_)
    refine qk_aloadn C dX5_kinds_11 12 rfl rfl 1 rfl ?_
    refine qk_iloadn C dX5_kinds_12 13 rfl rfl 0 rfl ?_
    refine qk_callV C dX5_kinds_13 16 rfl ql_X5_58 qc_X5_found 0 (by decide) rfl rfl (c_X5_found l G _ _ 0 (by decide) (by decide)) rfl rfl (Nat.le_of_ble_eq_true rfl) ⟨(Nat.le_of_ble_eq_true rfl), (Nat.le_of_ble_eq_true rfl)⟩ (qx_Ki ?_)
    exact hret _ _ _ _ dX5_kinds_16 (qPx_bad 0 hN8 (zif_f h1) rfl hT hW) rfl
  · refine qk_cast e ?_
    refine qk_istoren C dX5_kinds_6 7 rfl rfl (by decide) rfl ?_
    refine qk_iloadn C dX5_kinds_7 8 rfl rfl 0 rfl ?_
    refine qk_if_eq C dX5_kinds_8 17 rfl 11 rfl (fun c => absurd c (by decide)) (fun _ => ?_)
    refine qk_aloadn C dX5_kinds_11 12 rfl rfl 1 rfl ?_
    refine qk_iloadn C dX5_kinds_12 13 rfl rfl 0 rfl ?_
    refine qk_callV C dX5_kinds_13 16 rfl ql_X5_58 qc_X5_found 0 (by decide) rfl rfl (c_X5_found l G _ _ 5 (by decide) (by decide)) rfl rfl (Nat.le_of_ble_eq_true rfl) ⟨(Nat.le_of_ble_eq_true rfl), (Nat.le_of_ble_eq_true rfl)⟩ (qx_Ki ?_)
    exact hret _ _ _ _ dX5_kinds_16 (qPx_bad 5 hN8 ((zif_t h1).trans (zif_t h2)) rfl hT hW) rfl
  · refine qk_cast e ?_
    refine qk_istoren C dX5_kinds_6 7 rfl rfl (by decide) rfl ?_
    refine qk_iloadn C dX5_kinds_7 8 rfl rfl 0 rfl ?_
    refine qk_if_eq C dX5_kinds_8 17 rfl 11 rfl (fun c => absurd c (by decide)) (fun _ => ?_)
    refine qk_aloadn C dX5_kinds_11 12 rfl rfl 1 rfl ?_
    refine qk_iloadn C dX5_kinds_12 13 rfl rfl 0 rfl ?_
    refine qk_callV C dX5_kinds_13 16 rfl ql_X5_58 qc_X5_found 0 (by decide) rfl rfl (c_X5_found l G _ _ 0 (by decide) (by decide)) rfl rfl (Nat.le_of_ble_eq_true rfl) ⟨(Nat.le_of_ble_eq_true rfl), (Nat.le_of_ble_eq_true rfl)⟩ (qx_Ki ?_)
    exact hret _ _ _ _ dX5_kinds_16 (qPx_bad 0 hN8 ((zif_t h1).trans ((zif_f h2).trans (zif_f h3))) rfl hT hW) rfl
  · refine qk_cast e ?_
    obtain ⟨js, hjs, rfl⟩ := z_in_ex 3 rfl (by omega) h1
    have hSs : qx_isS (44 + js) := ⟨js, by omega, rfl⟩
    have h2s := h2
    rw [zn_nI (show js < 2 ^ 31 by omega)] at h2
    obtain ⟨n, hn, en⟩ := (hSh js (by omega)).2
    obtain ⟨jb, hjb, rfl⟩ := z_ib_ex h3 hN8
    refine qk_istoren C dX5_kinds_6 7 rfl rfl (by decide) rfl ?_
    refine qk_iloadn C dX5_kinds_7 8 rfl rfl 0 rfl ?_
    refine qk_if_eq C dX5_kinds_8 17 rfl 11 rfl (fun _ => ?_) (fun c => absurd rfl c)
    refine qk_iconst C (0) dX5_kinds_17 18 rfl rfl ?_
    refine qk_istore C dX5_kinds_18 20 rfl (by decide) rfl ?_
    refine qk_iconst C (nI 0) dX5_kinds_20 21 rfl rfl ?_
    refine qk_istore C dX5_kinds_21 23 rfl (by decide) rfl ?_
    have lp_23 : ∀ (n_23 : Nat) (t : Nat) (ρ : qx_Sg) (a : Int32), (t ≤ 7 ∧ qTr σ ρ ∧ qH ρ 1 N w ∧ a = z_fo (z_kF N w (σ (44 + js + 4)) n jb) t) → 7 - t < n_23 → qx_K l G Δ (ρ) 23 [(5, .int (nI t)), (4, .int a), (0, .ref (qx_ad G 0)), (1, .int (nI js)), (2, .int (nI jb))] [] := by
      intro n_23
      induction n_23 with
      | zero => intro _ _ _ _ h9; exact absurd h9 (Nat.not_lt_zero _)
      | succ n_23 ih_23 =>
        intro t ρ a hi hm_23
        have hρ : (ρ (44 + js + 4)) = (σ (44 + js + 4)) := hi.2.1 _ (by omega) (by omega)
        have hρ1 : ρ (44 + js) = σ (44 + js) := hi.2.1 _ (by omega) (by omega)
        refine qk_iload C dX5_kinds_23 25 rfl 0 rfl ?_
        refine qk_bipush C (nI 7) dX5_kinds_25 27 rfl rfl ?_
        refine qk_icmp_ge C dX5_kinds_27 77 rfl 30 rfl (fun c_27 => ?_) (fun c_27 => ?_)
        · have h13 : 7 ≤ t := (nI_leI (by omega) (by omega)).mp c_27
          have h13 : t = 7 := by omega
          refine qk_iload C dX5_kinds_77 79 rfl 1 rfl ?_
          exact hret _ _ _ _ dX5_kinds_79 (qPx_ok ((zif_t h1).trans <| (zif_f h2s).trans (by rw [zn_nI (show js < 2 ^ 31 by omega), en, zn_nI (show n < 2 ^ 31 by omega)]; exact (zif_t h3).trans (by rw [zn_nI (show jb < 2 ^ 31 by omega), ← h13, ← hi.2.2.2]))) rfl hi.2.1 hi.2.2.1) rfl
        · have h13 : t < 7 := Nat.not_le.mp (fun q => c_27 (nI_le q (by omega)))
          refine qk_aloadn C dX5_kinds_30 31 rfl rfl 2 rfl ?_
          refine qk_callV C dX5_kinds_31 34 rfl ql_X5_144 qc_X5_beginTrial 0 (by decide) rfl rfl (c_X5_beginTrial l G ρ N w hI hi.2.2.1) rfl rfl (Nat.le_of_ble_eq_true rfl) ⟨(Nat.le_of_ble_eq_true rfl), (Nat.le_of_ble_eq_true rfl)⟩ (qx_Kv ?_)
          refine qk_aloadn C dX5_kinds_34 35 rfl rfl 2 rfl ?_
          refine qk_get C dX5_kinds_35 38 rfl qf_X5_16 0 (by decide) rfl rfl ?_
          refine qk_get C dX5_kinds_38 41 rfl qf_X5_77 _ hM.l65 (qx_Fl hM _) rfl ?_
          refine qk_iloadn C dX5_kinds_41 42 rfl rfl 4 rfl ?_
          refine qk_aald C dX5_kinds_42 43 rfl (14 + 4) hM.l4 1 (qx_Fl4 hM _) rfl (jb) rfl (by omega) (by decide) rfl ?_
          refine qk_iload C dX5_kinds_43 45 rfl 0 rfl ?_
          refine qk_put C .int dX5_kinds_45 48 rfl qf_X5_166 _ (qx_isB.of hM (show jb < 8 by omega)).lt (qx_Fb (qx_isB.of hM (show jb < 8 by omega)) _) (fun q hq => by cases hq; rfl) rfl rfl (Nat.le_of_ble_eq_true rfl) (qx_Fb (qx_isB.of hM (show jb < 8 by omega)) _) ?_
          refine qk_cg _ (qL_wb hM hN8 hjb 0 (by decide) _) ?_
          refine qk_aloadn C dX5_kinds_48 49 rfl rfl 2 rfl ?_
          refine qk_iloadn C dX5_kinds_49 50 rfl rfl 4 rfl ?_
          refine qk_aloadn C dX5_kinds_50 51 rfl rfl 2 rfl ?_
          refine qk_get C dX5_kinds_51 54 rfl qf_X5_44 0 (by decide) rfl rfl ?_
          refine qk_iloadn C dX5_kinds_54 55 rfl rfl 3 rfl ?_
          refine qk_aald C dX5_kinds_55 56 rfl 43 (by decide) 2 rfl rfl (js) rfl (by omega) (by decide) rfl ?_
          refine qk_callV C dX5_kinds_56 59 rfl ql_X5_187 qc_X5_trialSays 0 (by decide) rfl rfl (c_X5_trialSays l G ρ N _ (qv_kd hI hjb (by omega)) jb hjb js (by omega) n hn (by rw [hρ1]; exact en)) rfl rfl (Nat.le_of_ble_eq_true rfl) ⟨(Nat.le_of_ble_eq_true rfl), (Nat.le_of_ble_eq_true rfl)⟩ (qx_KQ ?_)
          intro u
          refine qk_if_eqB C dX5_kinds_59 71 rfl 62 rfl (fun c_59 => ?_) (fun c_59 => ?_)
          · refine qk_iinc C (nI (t + 1)) dX5_kinds_71 74 rfl 0 rfl (nI_1 t) (by decide) rfl ?_
            refine qk_goto C dX5_kinds_74 23 rfl ?_
            exact ih_23 (t + 1) _ _ ⟨by omega, hi.2.1.tr hN8, qH_tr hi.2.2.1 hN8 hN8, by rw [hi.2.2.2]; exact (z_sel_f (by rw [hρ] at c_59; exact c_59)).symm⟩ (by omega)
          · refine qk_iload C dX5_kinds_62 64 rfl 1 rfl ?_
            refine qk_iconst C (1) dX5_kinds_64 65 rfl rfl ?_
            refine qk_iload C dX5_kinds_65 67 rfl 0 rfl ?_
            refine qk_ishl C dX5_kinds_67 68 rfl ?_
            refine qk_ior C dX5_kinds_68 69 rfl ?_
            refine qk_istore C dX5_kinds_69 71 rfl (by decide) rfl ?_
            refine qk_iinc C (nI (t + 1)) dX5_kinds_71 74 rfl 1 rfl (nI_1 t) (by decide) rfl ?_
            refine qk_goto C dX5_kinds_74 23 rfl ?_
            exact ih_23 (t + 1) _ _ ⟨by omega, hi.2.1.tr hN8, qH_tr hi.2.2.1 hN8 hN8, by rw [hi.2.2.2]; exact (z_sel_t (by rw [hρ] at c_59; exact c_59)).symm⟩ (by omega)
    exact qk_lo [0, 1, 3, 4, 5] rfl (lp_23 _ 0 _ 0 ⟨by omega, hT, hW, rfl⟩ (Nat.lt_succ_self _))

theorem c_X5_image (l : Launch) (G : qx_G) (σ : qx_Sg) (N : Nat) (w : Nat → Int32) (hI : qv_ok w N) (hH : qH σ 1 N w) : qx_Ct l G yX5_image cX5_image 1 (some .int) 2 82 [.ref (qx_ad G 0)] (σ) (qx_pi (1) (va_up (qL σ 27 N w) 0 (upd (σ 0) 3 1))) := by
  refine qx_of .int (lo := [(0, .ref (qx_ad G 0))]) (by decide +kernel) (Nat.le_of_ble_eq_true rfl) rfl (fun Δ (C : qx_C G Δ cX5_image RX5 1 2 82) hret => ?_)
  have hL : qx_isL 1 := Or.inl rfl
  have hM : qx_isL 14 := Or.inr (Or.inl rfl)
  have hN8 := hI.1
  have hN1 := hI.2.1
  have hK : qx_isL 27 := Or.inr (Or.inr rfl)
  refine qk_aloadn C dX5_image_0 1 rfl rfl 0 rfl ?_
  refine qk_get C dX5_image_1 4 rfl qf_X5_19 0 (by decide) rfl rfl ?_
  refine qk_aloadn C dX5_image_4 5 rfl rfl 0 rfl ?_
  refine qk_get C dX5_image_5 8 rfl qf_X5_12 0 (by decide) rfl rfl ?_
  refine qk_callV C dX5_image_8 11 rfl ql_X5_210 qc_X1_copyFrom _ hK.l65 (qx_Fl hK _) rfl (c_X1_copyFrom l G 27 1 N hK hL (by decide) σ w hI hH) rfl rfl (Nat.le_of_ble_eq_true rfl) ⟨(Nat.le_of_ble_eq_true rfl), (Nat.le_of_ble_eq_true rfl)⟩ (qx_Kv ?_)
  refine qk_aloadn C dX5_image_11 12 rfl rfl 0 rfl ?_
  refine qk_iconst C (1) dX5_image_12 13 rfl rfl ?_
  refine qk_put C .boolean dX5_image_13 16 rfl qf_X5_22 0 (by decide) rfl (fun q hq => by cases hq; rfl) rfl rfl (Nat.le_of_ble_eq_true rfl) rfl ?_
  refine qk_iconst C (1) dX5_image_16 17 rfl rfl ?_
  exact hret _ _ _ _ dX5_image_17 ⟨congrArg (fun x => some (Value.int x)) (by first | rfl | (simp []; done) | (simp []; decide) | (simp []; rfl) | (simp_all []; done)), by rw [qL_o (by omega) (by omega)]⟩ rfl

theorem c_X5_undo0 (l : Launch) (G : qx_G) (σ : qx_Sg) (h0 : σ 0 3 = 0) : qx_Ct l G yX5_undo cX5_undo 1 (some .int) 2 82 [.ref (qx_ad G 0)] (σ) (qx_pi (-1000004) (z_fnd σ 3)) := by
  refine qx_of .int (lo := [(0, .ref (qx_ad G 0))]) (by decide +kernel) (Nat.le_of_ble_eq_true rfl) rfl (fun Δ (C : qx_C G Δ cX5_undo RX5 1 2 82) hret => ?_)
  refine qk_aloadn C dX5_undo_0 1 rfl rfl 0 rfl ?_
  refine qk_get C dX5_undo_1 4 rfl qf_X5_22 0 (by decide) rfl rfl ?_
  refine qk_if_ne C dX5_undo_4 14 rfl 7 rfl (fun c_4 => False.elim (c_4 h0)) (fun c_4 => ?_)
  refine qk_aloadn C dX5_undo_7 8 rfl rfl 0 rfl ?_
  refine qk_ldc C dX5_undo_8 10 rfl qw_419 ?_
  refine qk_callV C dX5_undo_10 13 rfl ql_X5_58 qc_X5_found 0 (by decide) rfl rfl (c_X5_found l G _ _ 3 (by decide) (by decide)) rfl rfl (Nat.le_of_ble_eq_true rfl) ⟨(Nat.le_of_ble_eq_true rfl), (Nat.le_of_ble_eq_true rfl)⟩ (qx_Ki ?_)
  exact hret _ _ _ _ dX5_undo_13 ⟨congrArg (fun x => some (Value.int x)) (by first | rfl | (simp [c_4]; done) | (simp [c_4]; decide) | (simp [c_4]; rfl) | (simp_all []; done)), rfl⟩ rfl

theorem c_X5_undo1 (l : Launch) (G : qx_G) (σ : qx_Sg) (N : Nat) (w : Nat → Int32) (hI : qv_ok w N) (h1 : ¬ σ 0 3 = 0) (hH : qH σ 27 N w) : qx_Ct l G yX5_undo cX5_undo 1 (some .int) 2 82 [.ref (qx_ad G 0)] (σ) (qx_pi (w 0) (qL σ 1 N w)) := by
  refine qx_of .int (lo := [(0, .ref (qx_ad G 0))]) (by decide +kernel) (Nat.le_of_ble_eq_true rfl) rfl (fun Δ (C : qx_C G Δ cX5_undo RX5 1 2 82) hret => ?_)
  have hL : qx_isL 1 := Or.inl rfl
  have hM : qx_isL 14 := Or.inr (Or.inl rfl)
  have hN8 := hI.1
  have hN1 := hI.2.1
  have hK : qx_isL 27 := Or.inr (Or.inr rfl)
  refine qk_aloadn C dX5_undo_0 1 rfl rfl 0 rfl ?_
  refine qk_get C dX5_undo_1 4 rfl qf_X5_22 0 (by decide) rfl rfl ?_
  refine qk_if_ne C dX5_undo_4 14 rfl 7 rfl (fun c_4 => ?_) (fun c_4 => False.elim (h1 c_4))
  refine qk_aloadn C dX5_undo_14 15 rfl rfl 0 rfl ?_
  refine qk_get C dX5_undo_15 18 rfl qf_X5_12 0 (by decide) rfl rfl ?_
  refine qk_aloadn C dX5_undo_18 19 rfl rfl 0 rfl ?_
  refine qk_get C dX5_undo_19 22 rfl qf_X5_19 0 (by decide) rfl rfl ?_
  refine qk_callV C dX5_undo_22 25 rfl ql_X5_210 qc_X1_copyFrom _ hL.l65 (qx_Fl hL _) rfl (c_X1_copyFrom l G 1 27 N hL hK (by decide) σ w hI hH) rfl rfl (Nat.le_of_ble_eq_true rfl) ⟨(Nat.le_of_ble_eq_true rfl), (Nat.le_of_ble_eq_true rfl)⟩ (qx_Kv ?_)
  refine qk_aloadn C dX5_undo_25 26 rfl rfl 0 rfl ?_
  refine qk_get C dX5_undo_26 29 rfl qf_X5_12 0 (by decide) rfl rfl ?_
  refine qk_get C dX5_undo_29 32 rfl qf_X5_115 _ hL.l65 (qx_Fl hL _) rfl ?_
  refine qk_cast (qL_j0) ?_
  exact hret _ _ _ _ dX5_undo_32 ⟨congrArg (fun x => some (Value.int x)) (by first | rfl | (simp [c_4]; done) | (simp [c_4]; decide) | (simp [c_4]; rfl) | (simp_all []; done)), rfl⟩ rfl

theorem c_X5_tear (l : Launch) (G : qx_G) (σ : qx_Sg) : qx_Ct l G yX5_tear cX5_tear 2 (some .int) 0 0 [.ref (qx_ad G 0)] (σ) (qx_pi (qb (¬ σ 0 3 = 0)) (va_up σ 0 (upd (σ 0) 3 0))) := by
  refine qx_of .int (lo := [(0, .ref (qx_ad G 0))]) (by decide +kernel) (Nat.le_of_ble_eq_true rfl) rfl (fun Δ (C : qx_C G Δ cX5_tear RX5 2 0 0) hret => ?_)
  refine qk_aloadn C dX5_tear_0 1 rfl rfl 0 rfl ?_
  refine qk_get C dX5_tear_1 4 rfl qf_X5_22 0 (by decide) rfl rfl ?_
  refine qk_if_eq C dX5_tear_4 11 rfl 7 rfl (fun c_4 => ?_) (fun c_4 => ?_)
  · refine qk_iconst C (0) dX5_tear_11 12 rfl rfl ?_
    refine qk_istoren C dX5_tear_12 13 rfl rfl (by decide) rfl ?_
    refine qk_aloadn C dX5_tear_13 14 rfl rfl 1 rfl ?_
    refine qk_iconst C (0) dX5_tear_14 15 rfl rfl ?_
    refine qk_put C .boolean dX5_tear_15 18 rfl qf_X5_22 0 (by decide) rfl (fun q hq => by cases hq; rfl) rfl rfl (Nat.le_of_ble_eq_true rfl) rfl ?_
    refine qk_iloadn C dX5_tear_18 19 rfl rfl 0 rfl ?_
    exact hret _ _ _ _ dX5_tear_19 ⟨congrArg (fun x => some (Value.int x)) ((qb_f (fun q => q c_4)).symm), rfl⟩ rfl
  · refine qk_iconst C (1) dX5_tear_7 8 rfl rfl ?_
    refine qk_goto C dX5_tear_8 12 rfl ?_
    refine qk_istoren C dX5_tear_12 13 rfl rfl (by decide) rfl ?_
    refine qk_aloadn C dX5_tear_13 14 rfl rfl 1 rfl ?_
    refine qk_iconst C (0) dX5_tear_14 15 rfl rfl ?_
    refine qk_put C .boolean dX5_tear_15 18 rfl qf_X5_22 0 (by decide) rfl (fun q hq => by cases hq; rfl) rfl rfl (Nat.le_of_ble_eq_true rfl) rfl ?_
    refine qk_iloadn C dX5_tear_18 19 rfl rfl 0 rfl ?_
    exact hret _ _ _ _ dX5_tear_19 ⟨congrArg (fun x => some (Value.int x)) ((qb_t c_4).symm), rfl⟩ rfl

theorem c_X5_status (l : Launch) (G : qx_G) (σ : qx_Sg) (x : Int32) : qx_Ct l G yX5_status cX5_status 4 (some .int) 2 43 [.ref (qx_ad G 0), .int x] (σ) (qPt (T_status σ x)) := by
  refine qx_of .int (lo := [(0, .ref (qx_ad G 0)), (1, .int x)]) (by decide +kernel) (Nat.le_of_ble_eq_true rfl) rfl (fun Δ (C : qx_C G Δ cX5_status RX5 4 2 43) hret => ?_)
  refine qk_iloadn C dX5_status_0 1 rfl rfl 1 rfl ?_
  refine qk_iconst C ((-1)) dX5_status_1 2 rfl rfl ?_
  refine qk_icmp_lt C dX5_status_2 11 rfl 5 rfl (fun c_2 => ?_) (fun c_2 => ?_)
  · refine qk_aloadn C dX5_status_11 12 rfl rfl 0 rfl ?_
    refine qk_ldc C dX5_status_12 14 rfl qw_321 ?_
    refine qk_callV C dX5_status_14 17 rfl ql_X5_58 qc_X5_found 0 (by decide) rfl rfl (c_X5_found l G _ _ 0 (by decide) (by decide)) rfl rfl (Nat.le_of_ble_eq_true rfl) ⟨(Nat.le_of_ble_eq_true rfl), (Nat.le_of_ble_eq_true rfl)⟩ (qx_Ki ?_)
    exact hret _ _ _ _ dX5_status_17 (qPt_of (zw_f (by first | exact fun q => q.1 c_2 | exact fun q => c_8 q.2))) rfl
  · refine qk_iloadn C dX5_status_5 6 rfl rfl 1 rfl ?_
    refine qk_bipush C (7) dX5_status_6 8 rfl rfl ?_
    refine qk_icmp_lt C dX5_status_8 18 rfl 11 rfl (fun c_8 => ?_) (fun c_8 => ?_)
    · refine qk_iloadn C dX5_status_18 19 rfl rfl 1 rfl ?_
      refine qk_if_lt C dX5_status_19 29 rfl 22 rfl (fun c_19 => ?_) (fun c_19 => ?_)
      · refine qk_iconst C (0) dX5_status_29 30 rfl rfl ?_
        refine qk_istoren C dX5_status_30 31 rfl rfl (by decide) rfl ?_
        refine qk_iconst C (nI 0) dX5_status_31 32 rfl rfl ?_
        refine qk_istoren C dX5_status_32 33 rfl rfl (by decide) rfl ?_
        have lp_33 : ∀ (n_33 : Nat) (i : Nat) (a : Int32), (i ≤ 7 ∧ a = z_fo (z_Fsu (σ 52)) i) → 7 - i < n_33 → qx_K l G Δ (σ) 33 [(3, .int (nI i)), (2, .int a), (0, .ref (qx_ad G 0))] [] := by
          intro n_33
          induction n_33 with
          | zero => intro _ _ _ h9; exact absurd h9 (Nat.not_lt_zero _)
          | succ n_33 ih_33 =>
            intro i a hi hm_33
            refine qk_iloadn C dX5_status_33 34 rfl rfl 0 rfl ?_
            refine qk_bipush C (nI 7) dX5_status_34 36 rfl rfl ?_
            refine qk_icmp_ge C dX5_status_36 54 rfl 39 rfl (fun c_36 => ?_) (fun c_36 => ?_)
            · have h7 : 7 ≤ i := (nI_leI (by omega) (by omega)).mp c_36
              have h7 : i = 7 := by omega
              refine qk_iloadn C dX5_status_54 55 rfl rfl 1 rfl ?_
              exact hret _ _ _ _ dX5_status_55 (qPt_of ((zw_t ⟨c_2, c_8⟩).trans ((zw_t c_19).trans (by rw [← h7, ← hi.2])))) rfl
            · have h7 : i < 7 := Nat.not_le.mp (fun q => c_36 (nI_le q (by omega)))
              refine qk_iloadn C dX5_status_39 40 rfl rfl 1 rfl ?_
              refine qk_aloadn C dX5_status_40 41 rfl rfl 2 rfl ?_
              refine qk_get C dX5_status_41 44 rfl qf_X5_48 0 (by decide) rfl rfl ?_
              refine qk_iloadn C dX5_status_44 45 rfl rfl 0 rfl ?_
              refine qk_iald C dX5_status_45 46 rfl 52 (by decide) (fun _ => rfl) i rfl h7 (by decide) ?_
              refine qk_iadd C dX5_status_46 47 rfl ?_
              refine qk_istoren C dX5_status_47 48 rfl rfl (by decide) rfl ?_
              refine qk_iinc C (nI (i + 1)) dX5_status_48 51 rfl 1 rfl (nI_1 i) (by decide) rfl ?_
              refine qk_goto C dX5_status_51 33 rfl ?_
              exact ih_33 (i + 1) _ ⟨by omega, by rw [hi.2]; rfl⟩ (by omega)
        exact qk_lo [0, 1, 2] rfl (lp_33 _ 0 0 ⟨by omega, rfl⟩ (Nat.lt_succ_self _))
      · obtain ⟨jx, hjx, rfl⟩ := z_in_ex (m := 6) 6 rfl (by omega) ⟨c_19, fun q => absurd c_8 (by
          intro c
          have h1 := Int32.lt_iff_toInt_lt.mp q
          have h2 := Int32.lt_iff_toInt_lt.mp c
          rw [show (6 : Int32).toInt = 6 from rfl] at h1
          rw [show (7 : Int32).toInt = 7 from rfl] at h2
          omega)⟩
        refine qk_aloadn C dX5_status_22 23 rfl rfl 0 rfl ?_
        refine qk_get C dX5_status_23 26 rfl qf_X5_48 0 (by decide) rfl rfl ?_
        refine qk_iloadn C dX5_status_26 27 rfl rfl 1 rfl ?_
        refine qk_iald C dX5_status_27 28 rfl 52 (by decide) (fun _ => rfl) jx rfl (by omega) (by decide) ?_
        exact hret _ _ _ _ dX5_status_28 (qPt_of ((zw_t ⟨c_2, c_8⟩).trans ((zw_f c_19).trans (by rw [zn_nI (show jx < 2 ^ 31 by omega)])))) rfl
    · refine qk_aloadn C dX5_status_11 12 rfl rfl 0 rfl ?_
      refine qk_ldc C dX5_status_12 14 rfl qw_321 ?_
      refine qk_callV C dX5_status_14 17 rfl ql_X5_58 qc_X5_found 0 (by decide) rfl rfl (c_X5_found l G _ _ 0 (by decide) (by decide)) rfl rfl (Nat.le_of_ble_eq_true rfl) ⟨(Nat.le_of_ble_eq_true rfl), (Nat.le_of_ble_eq_true rfl)⟩ (qx_Ki ?_)
      exact hret _ _ _ _ dX5_status_17 (qPt_of (zw_f (by first | exact fun q => q.1 c_2 | exact fun q => c_8 q.2))) rfl

theorem nI_add_le {t n : Nat} (h : nI t + nI n ≤ 120) (ht : t ≤ 120) (hn : n ≤ 4) : t + n ≤ 120 := by
  rw [nI_add] at h
  exact (nI_leI (b := 120) (by omega) (by omega)).mp h
theorem c_X5_feed (l : Launch) (G : qx_G) (σ : qx_Sg) (t : Nat) (ht : t ≤ 120) (et : σ 40 1 = nI t) (x n : Int32) : qx_Ct l G yX5_feed cX5_feed 4 (some .int) 2 43 [.ref (qx_ad G 0), .int x, .int n] (σ) (qPt (T_feed σ x n)) := by
  refine qx_of .int (lo := [(0, .ref (qx_ad G 0)), (1, .int x), (2, .int n)]) (by decide +kernel) (Nat.le_of_ble_eq_true rfl) rfl (fun Δ (C : qx_C G Δ cX5_feed RX5 4 2 43) hret => ?_)
  refine qk_iloadn C dX5_feed_0 1 rfl rfl 2 rfl ?_
  refine qk_iconst C (1) dX5_feed_1 2 rfl rfl ?_
  refine qk_icmp_lt C dX5_feed_2 10 rfl 5 rfl (fun c_2 => ?_) (fun c_2 => ?_)
  · refine qk_aloadn C dX5_feed_10 11 rfl rfl 0 rfl ?_
    refine qk_ldc C dX5_feed_11 13 rfl qw_321 ?_
    refine qk_callV C dX5_feed_13 16 rfl ql_X5_58 qc_X5_found 0 (by decide) rfl rfl (c_X5_found l G _ _ 0 (by decide) (by decide)) rfl rfl (Nat.le_of_ble_eq_true rfl) ⟨(Nat.le_of_ble_eq_true rfl), (Nat.le_of_ble_eq_true rfl)⟩ (qx_Ki ?_)
    exact hret _ _ _ _ dX5_feed_16 (qPt_of (zw_f (by first | exact fun q => q.1 c_2 | exact fun q => c_7 q.2))) rfl
  · refine qk_iloadn C dX5_feed_5 6 rfl rfl 2 rfl ?_
    refine qk_iconst C (4) dX5_feed_6 7 rfl rfl ?_
    refine qk_icmp_le C dX5_feed_7 17 rfl 10 rfl (fun c_7 => ?_) (fun c_7 => ?_)
    · refine qk_aloadn C dX5_feed_17 18 rfl rfl 0 rfl ?_
      refine qk_get C dX5_feed_18 21 rfl qf_X5_29 0 (by decide) rfl rfl ?_
      refine qk_get C dX5_feed_21 24 rfl qf_X5_201 40 (by decide) rfl rfl ?_
      refine qk_iloadn C dX5_feed_24 25 rfl rfl 2 rfl ?_
      refine qk_iadd C dX5_feed_25 26 rfl ?_
      refine qk_bipush C (120) dX5_feed_26 28 rfl rfl ?_
      refine qk_icmp_le C dX5_feed_28 38 rfl 31 rfl (fun c_28 => ?_) (fun c_28 => ?_)
      · obtain ⟨jn, hjn, rfl⟩ := nI_of2 (M := 4) (n := 4) rfl (fun q => c_2 (Int32.lt_of_lt_of_le q (by decide))) c_7
        have hj1 : 0 < jn := Nat.pos_of_ne_zero (fun e => c_2 (by subst e; decide))
        have c28 := c_28
        rw [et] at c28
        have htn := nI_add_le c28 ht (by omega)
        refine qk_cg (va_up (va_up σ 41 (σ 41)) 40 (upd (σ 40) 1 (nI t))) (fun k hk => by
          by_cases e : k = 40
          · subst e; rw [qx_up_eq]; show _ = qx_F G 40 (upd (σ 40) 1 (nI t)); rw [← et]; rfl
          · rw [qx_up_ne e]; by_cases e2 : k = 41
            · subst e2; rw [qx_up_eq]
            · rw [qx_up_ne e2]) ?_
        refine qk_iloadn C dX5_feed_38 39 rfl rfl 2 rfl ?_
        refine qk_iconst C (1) dX5_feed_39 40 rfl rfl ?_
        refine qk_isub C dX5_feed_40 41 rfl ?_
        refine qk_cast (show _ = nI (jn - 1) from by obtain ⟨q, rfl⟩ : ∃ q, jn = q + 1 := ⟨jn - 1, by omega⟩; exact nI_pred q) ?_
        refine qk_cast (show _ = nI jn + (-1) from by obtain ⟨q, rfl⟩ : ∃ q, jn = q + 1 := ⟨jn - 1, by omega⟩; rw [pk_m1]; rfl) ?_
        refine qk_istoren C dX5_feed_41 42 rfl rfl (by decide) rfl ?_
        have lp_42 : ∀ (n_42 : Nat) (k : Nat) (r : Nat → Int32), (k ≤ jn ∧ z_fd x jn t (σ 41) = z_fd x k (t + (jn - k)) r) → k < n_42 → qx_K l G Δ (va_up (va_up σ 41 r) 40 (upd (σ 40) 1 (nI (t + (jn - k))))) 42 [(3, .int (nI k + (-1))), (0, .ref (qx_ad G 0)), (1, .int x)] [] := by
          intro n_42
          induction n_42 with
          | zero => intro _ _ _ h9; exact absurd h9 (Nat.not_lt_zero _)
          | succ n_42 ih_42 =>
            intro k r hi hm_42
            rcases k with _ | k
            · refine qk_iloadn C dX5_feed_42 43 rfl rfl 0 rfl ?_
              refine qk_if_lt C dX5_feed_43 69 rfl 46 rfl (fun _ => ?_) (fun c => absurd (by decide) c)
              refine qk_aloadn C dX5_feed_69 70 rfl rfl 1 rfl ?_
              refine qk_get C dX5_feed_70 73 rfl qf_X5_29 0 (by decide) rfl rfl ?_
              refine qk_get C dX5_feed_73 76 rfl qf_X5_201 40 (by decide) rfl rfl ?_
              refine qk_cast (show _ = nI (t + jn) from by simp [va_up, upd]) ?_
              exact hret _ _ _ _ dX5_feed_76 (qPt_of (by unfold T_feed; rw [zn_nI (show jn < 2 ^ 31 by omega), et, zn_nI (show t < 2 ^ 31 by omega)]; exact (zw_t ⟨c_2, c_7⟩).trans ((zw_t c28).trans (by rw [nI_add, hi.2]; rfl)))) rfl
            · refine qk_iloadn C dX5_feed_42 43 rfl rfl 0 rfl ?_
              refine qk_cast (pk_m1 k) ?_
              refine qk_if_lt C dX5_feed_43 69 rfl 46 rfl (fun c_43 => absurd c_43 (nI_pos (by omega))) (fun c_43 => ?_)
              refine qk_aloadn C dX5_feed_46 47 rfl rfl 1 rfl ?_
              refine qk_get C dX5_feed_47 50 rfl qf_X5_29 0 (by decide) rfl rfl ?_
              refine qk_iloadn C dX5_feed_50 51 rfl rfl 2 rfl ?_
              refine qk_bipush C (8) dX5_feed_51 53 rfl rfl ?_
              refine qk_iloadn C dX5_feed_53 54 rfl rfl 0 rfl ?_
              refine qk_cast (pk_m1 k) ?_
              refine qk_imul C dX5_feed_54 55 rfl ?_
              refine qk_iushr C dX5_feed_55 56 rfl ?_
              refine qk_sipush C (255) dX5_feed_56 59 rfl rfl ?_
              refine qk_iand C dX5_feed_59 60 rfl ?_
              refine qk_cast (show _ = z_us x (8 * nI k) &&& 255 from rfl) ?_
              refine qk_callV C dX5_feed_60 63 rfl ql_X5_204 qc_X3_append 40 (by decide) rfl rfl (c_X3_append l G _ _ (t + (jn - (k + 1))) (by omega) (by rw [qx_up_eq]; exact upd_eq)) rfl rfl (Nat.le_of_ble_eq_true rfl) ⟨(Nat.le_of_ble_eq_true rfl), (Nat.le_of_ble_eq_true rfl)⟩ (qx_Kv ?_)
              refine qk_sg (va_up (va_up σ 41 (upd r (t + (jn - (k + 1))) (z_us x (8 * nI k) &&& 255))) 40 (upd (σ 40) 1 (nI (t + (jn - k))))) (by
                rw [show t + (jn - (k + 1)) + 1 = t + (jn - k) by omega]
                funext a b
                unfold va_up upd
                by_cases e : a = 40
                · subst e; by_cases hb : b = 1 <;> simp [hb]
                · by_cases e2 : a = 41
                  · subst e2; simp
                  · simp [e, e2]) ?_
              refine qk_iinc C (nI k + (-1)) dX5_feed_63 66 rfl 0 rfl (by rw [pk_m1 k]; rfl) (by decide) rfl ?_
              refine qk_goto C dX5_feed_66 42 rfl ?_
              exact ih_42 k _ ⟨by omega, by rw [hi.2]; show z_fd x k (t + (jn - (k + 1)) + 1) _ = _; rw [show t + (jn - (k + 1)) + 1 = t + (jn - k) by omega]⟩ (by omega)
        refine qk_sg (va_up (va_up σ 41 (σ 41)) 40 (upd (σ 40) 1 (nI (t + (jn - jn))))) (by rw [Nat.sub_self]; rfl) ?_
        exact qk_lo [0, 1, 2] rfl (lp_42 _ jn _ ⟨by omega, by rw [Nat.sub_self]; rfl⟩ (Nat.lt_succ_self _))
      · refine qk_aloadn C dX5_feed_31 32 rfl rfl 0 rfl ?_
        refine qk_ldc C dX5_feed_32 34 rfl qw_346 ?_
        refine qk_callV C dX5_feed_34 37 rfl ql_X5_58 qc_X5_found 0 (by decide) rfl rfl (c_X5_found l G _ _ 1 (by decide) (by decide)) rfl rfl (Nat.le_of_ble_eq_true rfl) ⟨(Nat.le_of_ble_eq_true rfl), (Nat.le_of_ble_eq_true rfl)⟩ (qx_Ki ?_)
        exact hret _ _ _ _ dX5_feed_37 (qPt_of ((zw_t ⟨c_2, c_7⟩).trans (zw_f c_28))) rfl
    · refine qk_aloadn C dX5_feed_10 11 rfl rfl 0 rfl ?_
      refine qk_ldc C dX5_feed_11 13 rfl qw_321 ?_
      refine qk_callV C dX5_feed_13 16 rfl ql_X5_58 qc_X5_found 0 (by decide) rfl rfl (c_X5_found l G _ _ 0 (by decide) (by decide)) rfl rfl (Nat.le_of_ble_eq_true rfl) ⟨(Nat.le_of_ble_eq_true rfl), (Nat.le_of_ble_eq_true rfl)⟩ (qx_Ki ?_)
      exact hret _ _ _ _ dX5_feed_16 (qPt_of (zw_f (by first | exact fun q => q.1 c_2 | exact fun q => c_7 q.2))) rfl

theorem c_X5_wipe (l : Launch) (G : qx_G) (σ : qx_Sg) : qx_Ct l G yX5_wipe cX5_wipe 2 (some .int) 0 0 [.ref (qx_ad G 0)] (σ) (qx_pi (σ 40 1) (va_up σ 40 (upd (σ 40) 1 0))) := by
  refine qx_of .int (lo := [(0, .ref (qx_ad G 0))]) (by decide +kernel) (Nat.le_of_ble_eq_true rfl) rfl (fun Δ (C : qx_C G Δ cX5_wipe RX5 2 0 0) hret => ?_)
  refine qk_aloadn C dX5_wipe_0 1 rfl rfl 0 rfl ?_
  refine qk_get C dX5_wipe_1 4 rfl qf_X5_29 0 (by decide) rfl rfl ?_
  refine qk_get C dX5_wipe_4 7 rfl qf_X5_201 40 (by decide) rfl rfl ?_
  refine qk_istoren C dX5_wipe_7 8 rfl rfl (by decide) rfl ?_
  refine qk_aloadn C dX5_wipe_8 9 rfl rfl 1 rfl ?_
  refine qk_get C dX5_wipe_9 12 rfl qf_X5_29 0 (by decide) rfl rfl ?_
  refine qk_iconst C (0) dX5_wipe_12 13 rfl rfl ?_
  refine qk_put C .int dX5_wipe_13 16 rfl qf_X5_201 40 (by decide) rfl (fun q hq => by cases hq; rfl) rfl rfl (Nat.le_of_ble_eq_true rfl) rfl ?_
  refine qk_iloadn C dX5_wipe_16 17 rfl rfl 0 rfl ?_
  exact hret _ _ _ _ dX5_wipe_17 ⟨congrArg (fun x => some (Value.int x)) (by first | rfl | (simp []; done) | (simp []; decide) | (simp []; rfl) | (simp_all []; done)), rfl⟩ rfl

theorem c_X5_power (l : Launch) (G : qx_G) (σ : qx_Sg) (x : Int64) (n : Nat) (hn : n < 2 ^ 31) : qx_Ct l G yX5_power cX5_power 6 (some .long) 0 0 [.long x, .int (nI n)] (σ) (qx_pl (z_pw x n) (σ)) := by
  refine qx_ofL (lo := [(0, .long x), (2, .int (nI n))]) (by decide +kernel) (Nat.le_of_ble_eq_true rfl) rfl (fun Δ (C : qx_C G Δ cX5_power RX5 6 0 0) hret => ?_)
  refine qk_lconst C 1 dX5_power_0 1 rfl rfl ?_
  refine qk_lstoren C dX5_power_1 2 rfl rfl (by decide) rfl ?_
  refine qk_iconst C (nI 0) dX5_power_2 3 rfl rfl ?_
  refine qk_istore C dX5_power_3 5 rfl (by decide) rfl ?_
  have lp_5 : ∀ (n_5 : Nat) (i : Nat) (a : Int64), (i ≤ n ∧ a = z_pw x i) → n - i < n_5 → qx_K l G Δ (σ) 5 [(5, .int (nI i)), (3, .long a), (0, .long x), (2, .int (nI n))] [] := by
    intro n_5
    induction n_5 with
    | zero => intro _ _ _ h9; exact absurd h9 (Nat.not_lt_zero _)
    | succ n_5 ih_5 =>
      intro i a hi hm_5
      refine qk_iload C dX5_power_5 7 rfl 0 rfl ?_
      refine qk_iloadn C dX5_power_7 8 rfl rfl 3 rfl ?_
      refine qk_icmp_ge C dX5_power_8 21 rfl 11 rfl (fun c_8 => ?_) (fun c_8 => ?_)
      · have hin : n ≤ i := (nI_leI (by omega) (by omega)).mp c_8
        refine qk_lloadn C dX5_power_21 22 rfl rfl 1 rfl ?_
        exact hret _ _ _ _ dX5_power_22 ⟨congrArg (fun x => some (Value.long x)) (by rw [hi.2, show i = n by omega]), rfl⟩
      · have hin : i < n := Nat.not_le.mp (fun q => c_8 (nI_le q (by omega)))
        refine qk_lloadn C dX5_power_11 12 rfl rfl 1 rfl ?_
        refine qk_lloadn C dX5_power_12 13 rfl rfl 2 rfl ?_
        refine qk_lmul C dX5_power_13 14 rfl ?_
        refine qk_lstoren C dX5_power_14 15 rfl rfl (by decide) rfl ?_
        refine qk_iinc C (nI (i + 1)) dX5_power_15 18 rfl 1 rfl (nI_1 i) (by decide) rfl ?_
        refine qk_goto C dX5_power_18 5 rfl ?_
        exact ih_5 (i + 1) _ ⟨by omega, by rw [hi.2]; rfl⟩ (by omega)
  exact lp_5 _ 0 1 ⟨by omega, rfl⟩ (Nat.lt_succ_self _)

theorem z_od_1 {d : Nat} {a b : Int32} (h : nI d ≤ 1) : z_od d a b = (a, b) := by
  cases d with
  | zero => rfl
  | succ d => exact if_pos h
theorem z_od_t {d : Nat} {a b : Int32} (h0 : 0 < d) (h : ¬ nI d ≤ 1) (h1 : a - a / nI d * nI d = 0) (h2 : b - b / nI d * nI d = 0) : z_od d a b = z_od (d - 1) (a / nI d) (b / nI d) := by
  obtain ⟨e, rfl⟩ : ∃ e, d = e + 1 := ⟨d - 1, by omega⟩
  exact (if_neg h).trans (if_pos ⟨h1, h2⟩)
theorem z_od_f {d : Nat} {a b : Int32} (h0 : 0 < d) (h : ¬ nI d ≤ 1) (h1 : ¬ (a - a / nI d * nI d = 0 ∧ b - b / nI d * nI d = 0)) : z_od d a b = z_od (d - 1) a b := by
  obtain ⟨e, rfl⟩ : ∃ e, d = e + 1 := ⟨d - 1, by omega⟩
  exact (if_neg h).trans (if_neg h1)
theorem c_X5_odds (l : Launch) (G : qx_G) (σ : qx_Sg) (N : Nat) (w : Nat → Int32) (hI : qv_ok w N) (hH : qH σ 1 N w) (b n x : Int32) : qx_Ct l G yX5_odds cX5_odds 8 (some .long) 2 43 [.ref (qx_ad G 0), .int b, .int n, .int x] (σ) (qPl σ (S_odds N w b n x) (z_ors N w b n x)) := by
  refine qx_ofL (lo := [(0, .ref (qx_ad G 0)), (1, .int b), (2, .int n), (3, .int x)]) (by decide +kernel) (Nat.le_of_ble_eq_true rfl) rfl (fun Δ (C : qx_C G Δ cX5_odds RX5 8 2 43) hret => ?_)
  have hL : qx_isL 1 := Or.inl rfl
  have hM : qx_isL 14 := Or.inr (Or.inl rfl)
  have hN8 := hI.1
  have hN1 := hI.2.1
  have hT : qTr σ (qL σ 1 N w) := qTr.rf.li hN8
  have hW : qH (qL σ 1 N w) 1 N w := qH_qL
  refine qk_cg (qL σ 1 N w) (qH_w hH hL hN8) ?_
  refine qk_aloadn C dX5_odds_0 1 rfl rfl 0 rfl ?_
  refine qk_iloadn C dX5_odds_1 2 rfl rfl 1 rfl ?_
  refine qk_callV C dX5_odds_2 5 rfl ql_X5_73 qc_X5_isBust 0 (by decide) rfl rfl (c_X5_isBust l G σ N w hI _) rfl rfl (Nat.le_of_ble_eq_true rfl) ⟨(Nat.le_of_ble_eq_true rfl), (Nat.le_of_ble_eq_true rfl)⟩ (qx_Ki ?_)
  refine qk_if_eqB C dX5_odds_5 25 rfl 8 rfl (fun c_5 => ?_) (fun c_5 => ?_)
  · refine qk_aloadn C dX5_odds_25 26 rfl rfl 0 rfl ?_
    refine qk_ldc C dX5_odds_26 28 rfl qw_321 ?_
    refine qk_callV C dX5_odds_28 31 rfl ql_X5_58 qc_X5_found 0 (by decide) rfl rfl (c_X5_found l G _ _ 0 (by decide) (by decide)) rfl rfl (Nat.le_of_ble_eq_true rfl) ⟨(Nat.le_of_ble_eq_true rfl), (Nat.le_of_ble_eq_true rfl)⟩ (qx_Ki ?_)
    refine qk_i2l C dX5_odds_31 32 rfl ?_
    exact hret _ _ _ _ dX5_odds_32 (by rw [show z_ors N w b n x = (-1000001 : Int32).toInt64 from if_neg (by first | exact fun q => c_5 q.1 | exact fun q => c_14 q.2.1 | exact fun q => c_22 q.2.2)]; exact ⟨rfl, (qPx_bad 0 hN8 (zif_f (by first | exact fun q => c_5 q.1 | exact fun q => c_14 q.2.1 | exact fun q => c_22 q.2.2)) rfl hT hW).2⟩)
  · refine qk_iloadn C dX5_odds_8 9 rfl rfl 2 rfl ?_
    refine qk_bipush C (17) dX5_odds_9 11 rfl rfl ?_
    refine qk_callS C dX5_odds_11 14 rfl ql_X5_53 qc_X5_within (c_X5_within l G _ _ _) rfl rfl (Nat.le_of_ble_eq_true rfl) ⟨(Nat.le_of_ble_eq_true rfl), (Nat.le_of_ble_eq_true rfl)⟩ (qx_Ki ?_)
    refine qk_if_eqB C dX5_odds_14 25 rfl 17 rfl (fun c_14 => ?_) (fun c_14 => ?_)
    · refine qk_aloadn C dX5_odds_25 26 rfl rfl 0 rfl ?_
      refine qk_ldc C dX5_odds_26 28 rfl qw_321 ?_
      refine qk_callV C dX5_odds_28 31 rfl ql_X5_58 qc_X5_found 0 (by decide) rfl rfl (c_X5_found l G _ _ 0 (by decide) (by decide)) rfl rfl (Nat.le_of_ble_eq_true rfl) ⟨(Nat.le_of_ble_eq_true rfl), (Nat.le_of_ble_eq_true rfl)⟩ (qx_Ki ?_)
      refine qk_i2l C dX5_odds_31 32 rfl ?_
      exact hret _ _ _ _ dX5_odds_32 (by rw [show z_ors N w b n x = (-1000001 : Int32).toInt64 from if_neg (by first | exact fun q => c_5 q.1 | exact fun q => c_14 q.2.1 | exact fun q => c_22 q.2.2)]; exact ⟨rfl, (qPx_bad 0 hN8 (zif_f (by first | exact fun q => c_5 q.1 | exact fun q => c_14 q.2.1 | exact fun q => c_22 q.2.2)) rfl hT hW).2⟩)
    · refine qk_iloadn C dX5_odds_17 18 rfl rfl 3 rfl ?_
      refine qk_iconst C (1) dX5_odds_18 19 rfl rfl ?_
      refine qk_callS C dX5_odds_19 22 rfl ql_X5_53 qc_X5_within (c_X5_within l G _ _ _) rfl rfl (Nat.le_of_ble_eq_true rfl) ⟨(Nat.le_of_ble_eq_true rfl), (Nat.le_of_ble_eq_true rfl)⟩ (qx_Ki ?_)
      refine qk_if_neB C dX5_odds_22 33 rfl 25 rfl (fun c_22 => ?_) (fun c_22 => ?_)
      · obtain ⟨jb, hjb, rfl⟩ := z_ib_ex c_5 hN8
        obtain ⟨jn, hjn, rfl⟩ := z_in_ex 17 rfl (by omega) c_14
        refine qk_aloadn C dX5_odds_33 34 rfl rfl 0 rfl ?_
        refine qk_get C dX5_odds_34 37 rfl qf_X5_12 0 (by decide) rfl rfl ?_
        refine qk_get C dX5_odds_37 40 rfl qf_X5_77 _ hL.l65 (qx_Fl hL _) rfl ?_
        refine qk_iloadn C dX5_odds_40 41 rfl rfl 1 rfl ?_
        refine qk_aald C dX5_odds_41 42 rfl (1 + 4) hL.l4 1 (qx_Fl4 hL _) rfl (jb) rfl (by omega) (by decide) rfl ?_
        refine qk_get C dX5_odds_42 45 rfl qf_X5_112 _ (qx_isB.of hL (show jb < 8 by omega)).lt (qx_Fb (qx_isB.of hL (show jb < 8 by omega)) _) rfl ?_
        refine qk_cast (qL_bf hjb _) ?_
        refine qk_callS C dX5_odds_45 48 rfl ql_X5_154 qc_J6_bitCount_0f7a4 (c_J6_bitCount_0f7a4 l G _ _) rfl rfl (Nat.le_of_ble_eq_true rfl) ⟨(Nat.le_of_ble_eq_true rfl), (Nat.le_of_ble_eq_true rfl)⟩ (qx_Ki ?_)
        refine qk_istore C dX5_odds_48 50 rfl (by decide) rfl ?_
        refine qk_iload C dX5_odds_50 52 rfl 0 rfl ?_
        refine qk_istore C dX5_odds_52 54 rfl (by decide) rfl ?_
        refine qk_bipush C (12) dX5_odds_54 56 rfl rfl ?_
        refine qk_istore C dX5_odds_56 58 rfl (by decide) rfl ?_
        refine qk_bipush C (nI 12) dX5_odds_58 60 rfl rfl ?_
        refine qk_istore C dX5_odds_60 62 rfl (by decide) rfl ?_
        have lp_62 : ∀ (n_62 : Nat) (d : Nat) (aa bb : Int32), (d ≤ 12 ∧ z_od 12 (z_bc (w (32 + 7 * jb + 2))) 12 = z_od d aa bb) → d < n_62 → qx_K l G Δ (qL σ 1 N w) 62 [(7, .int (nI d)), (6, .int bb), (5, .int aa), (0, .ref (qx_ad G 0)), (2, .int (nI jn)), (3, .int x)] [] := by
          intro n_62
          induction n_62 with
          | zero => intro _ _ _ _ h9; exact absurd h9 (Nat.not_lt_zero _)
          | succ n_62 ih_62 =>
            intro d aa bb hi hm_62
            refine qk_iload C dX5_odds_62 64 rfl 0 rfl ?_
            refine qk_iconst C (1) dX5_odds_64 65 rfl rfl ?_
            refine qk_icmp_le C dX5_odds_65 104 rfl 68 rfl (fun c_65 => ?_) (fun c_65 => ?_)
            · refine qk_iloadn C dX5_odds_104 105 rfl rfl 5 rfl ?_
              refine qk_if_ne C dX5_odds_105 114 rfl 108 rfl (fun c_105 => ?_) (fun c_105 => ?_)
              · refine qk_iload C dX5_odds_114 116 rfl 1 rfl ?_
                refine qk_i2l C dX5_odds_116 117 rfl ?_
                refine qk_iloadn C dX5_odds_117 118 rfl rfl 4 rfl ?_
                refine qk_callS C dX5_odds_118 121 rfl ql_X5_194 qc_X5_power (c_X5_power l G _ _ jn (by omega)) rfl rfl (Nat.le_of_ble_eq_true rfl) ⟨(Nat.le_of_ble_eq_true rfl), (Nat.le_of_ble_eq_true rfl)⟩ (qx_Kl ?_)
                exact hret _ _ _ _ dX5_odds_121 (by rw [show z_ors N w (nI jb) (nI jn) x = z_pw (bb).toInt64 jn from (if_pos ⟨c_5, c_14, c_22⟩).trans (by rw [zn_nI (show jb < 2 ^ 31 by omega), zn_nI (show jn < 2 ^ 31 by omega)]; unfold z_or; rw [hi.2, z_od_1 c_65, if_neg c_105])]; exact ⟨rfl, (qPx_ok (zif_t ⟨c_5, c_14, c_22⟩) rfl hT hW).2⟩)
              · refine qk_iload C dX5_odds_108 110 rfl 2 rfl ?_
                refine qk_i2l C dX5_odds_110 111 rfl ?_
                refine qk_goto C dX5_odds_111 117 rfl ?_
                refine qk_iloadn C dX5_odds_117 118 rfl rfl 4 rfl ?_
                refine qk_callS C dX5_odds_118 121 rfl ql_X5_194 qc_X5_power (c_X5_power l G _ _ jn (by omega)) rfl rfl (Nat.le_of_ble_eq_true rfl) ⟨(Nat.le_of_ble_eq_true rfl), (Nat.le_of_ble_eq_true rfl)⟩ (qx_Kl ?_)
                exact hret _ _ _ _ dX5_odds_121 (by rw [show z_ors N w (nI jb) (nI jn) x = z_pw (aa).toInt64 jn from (if_pos ⟨c_5, c_14, c_22⟩).trans (by rw [zn_nI (show jb < 2 ^ 31 by omega), zn_nI (show jn < 2 ^ 31 by omega)]; unfold z_or; rw [hi.2, z_od_1 c_65, if_pos c_105])]; exact ⟨rfl, (qPx_ok (zif_t ⟨c_5, c_14, c_22⟩) rfl hT hW).2⟩)
            · have hd0 : 0 < d := Nat.pos_of_ne_zero (fun e => c_65 (by subst e; decide))
              refine qk_iload C dX5_odds_68 70 rfl 2 rfl ?_
              refine qk_iload C dX5_odds_70 72 rfl 0 rfl ?_
              refine qk_irem C dX5_odds_72 73 rfl (nI_ne0 hd0 (by omega)) ?_
              refine qk_if_ne C dX5_odds_73 98 rfl 76 rfl (fun c_73 => ?_) (fun c_73 => ?_)
              · refine qk_iinc C (nI (d - 1)) dX5_odds_98 101 rfl 0 rfl (by obtain ⟨q, rfl⟩ : ∃ q, d = q + 1 := ⟨d - 1, by omega⟩; exact pk_m1 q) (by decide) rfl ?_
                refine qk_goto C dX5_odds_101 62 rfl ?_
                exact ih_62 (d - 1) _ _ ⟨by omega, by rw [hi.2]; exact z_od_f hd0 c_65 (by first | exact fun q => c_73 q.1 | exact fun q => c_81 q.2)⟩ (by omega)
              · refine qk_iload C dX5_odds_76 78 rfl 1 rfl ?_
                refine qk_iload C dX5_odds_78 80 rfl 0 rfl ?_
                refine qk_irem C dX5_odds_80 81 rfl (nI_ne0 hd0 (by omega)) ?_
                refine qk_if_ne C dX5_odds_81 98 rfl 84 rfl (fun c_81 => ?_) (fun c_81 => ?_)
                · refine qk_iinc C (nI (d - 1)) dX5_odds_98 101 rfl 0 rfl (by obtain ⟨q, rfl⟩ : ∃ q, d = q + 1 := ⟨d - 1, by omega⟩; exact pk_m1 q) (by decide) rfl ?_
                  refine qk_goto C dX5_odds_101 62 rfl ?_
                  exact ih_62 (d - 1) _ _ ⟨by omega, by rw [hi.2]; exact z_od_f hd0 c_65 (by first | exact fun q => c_73 q.1 | exact fun q => c_81 q.2)⟩ (by omega)
                · refine qk_iload C dX5_odds_84 86 rfl 2 rfl ?_
                  refine qk_iload C dX5_odds_86 88 rfl 0 rfl ?_
                  refine qk_idiv C dX5_odds_88 89 rfl (nI_ne0 hd0 (by omega)) ?_
                  refine qk_istore C dX5_odds_89 91 rfl (by decide) rfl ?_
                  refine qk_iload C dX5_odds_91 93 rfl 2 rfl ?_
                  refine qk_iload C dX5_odds_93 95 rfl 1 rfl ?_
                  refine qk_idiv C dX5_odds_95 96 rfl (nI_ne0 hd0 (by omega)) ?_
                  refine qk_istore C dX5_odds_96 98 rfl (by decide) rfl ?_
                  refine qk_iinc C (nI (d - 1)) dX5_odds_98 101 rfl 2 rfl (by obtain ⟨q, rfl⟩ : ∃ q, d = q + 1 := ⟨d - 1, by omega⟩; exact pk_m1 q) (by decide) rfl ?_
                  refine qk_goto C dX5_odds_101 62 rfl ?_
                  exact ih_62 (d - 1) _ _ ⟨by omega, by rw [hi.2]; exact z_od_t hd0 c_65 c_73 c_81⟩ (by omega)
        exact qk_lo [0, 1, 2, 4, 6, 7] rfl (lp_62 _ 12 _ _ ⟨by omega, rfl⟩ (Nat.lt_succ_self _))
      · refine qk_aloadn C dX5_odds_25 26 rfl rfl 0 rfl ?_
        refine qk_ldc C dX5_odds_26 28 rfl qw_321 ?_
        refine qk_callV C dX5_odds_28 31 rfl ql_X5_58 qc_X5_found 0 (by decide) rfl rfl (c_X5_found l G _ _ 0 (by decide) (by decide)) rfl rfl (Nat.le_of_ble_eq_true rfl) ⟨(Nat.le_of_ble_eq_true rfl), (Nat.le_of_ble_eq_true rfl)⟩ (qx_Ki ?_)
        refine qk_i2l C dX5_odds_31 32 rfl ?_
        exact hret _ _ _ _ dX5_odds_32 (by rw [show z_ors N w b n x = (-1000001 : Int32).toInt64 from if_neg (by first | exact fun q => c_5 q.1 | exact fun q => c_14 q.2.1 | exact fun q => c_22 q.2.2)]; exact ⟨rfl, (qPx_bad 0 hN8 (zif_f (by first | exact fun q => c_5 q.1 | exact fun q => c_14 q.2.1 | exact fun q => c_22 q.2.2)) rfl hT hW).2⟩)

