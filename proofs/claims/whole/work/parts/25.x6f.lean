/-! the model: sheets, images, spots, draws, bytes -/
def m_vw (σ : qx_Sg) : qx_Sg := fun k j => if k < 48 then (if j = 0 then σ 61 (k - 44) else σ 62 (k - 44)) else σ 63 (40 * (k - 48) + j)
theorem m_vw0 {σ : qx_Sg} {s : Nat} (h : s < 4) : m_vw σ (44 + s) 0 = σ 61 s := by
  unfold m_vw
  rw [if_pos (by omega), if_pos rfl, show 44 + s - 44 = s by omega]
theorem m_vw1 {σ : qx_Sg} {s : Nat} (h : s < 4) : m_vw σ (44 + s) 1 = σ 62 s := by
  unfold m_vw
  rw [if_pos (by omega), if_neg (by omega), show 44 + s - 44 = s by omega]
theorem m_vwn {σ : qx_Sg} {s : Nat} : m_vw σ (44 + s + 4) = fun i => σ 63 (40 * s + i) := by
  funext i
  unfold m_vw
  rw [if_neg (by omega), show 44 + s + 4 - 48 = s by omega]
noncomputable def m_lk (σ : qx_Sg) (s g : Int32) : Int32 := z_sel (z_in s 3) (z_sel (σ 61 (zn s) = 0) (-1000006) (z_sel (g = 0) (-1000001) 0)) (-1000001)
theorem m_lk_cases (σ : qx_Sg) (s g : Int32) : (¬ z_in s 3 ∧ m_lk σ s g = -1000001) ∨ (z_in s 3 ∧ σ 61 (zn s) = 0 ∧ m_lk σ s g = -1000006) ∨ (z_in s 3 ∧ ¬ σ 61 (zn s) = 0 ∧ g = 0 ∧ m_lk σ s g = -1000001) ∨ (z_in s 3 ∧ ¬ σ 61 (zn s) = 0 ∧ ¬ g = 0 ∧ m_lk σ s g = 0) := by
  unfold m_lk
  by_cases h : z_in s 3
  · rw [z_sel_t h]
    by_cases h2 : σ 61 (zn s) = 0
    · exact Or.inr (Or.inl ⟨h, h2, z_sel_t h2⟩)
    · rw [z_sel_f h2]
      by_cases h3 : g = 0
      · exact Or.inr (Or.inr (Or.inl ⟨h, h2, h3, z_sel_t h3⟩))
      · exact Or.inr (Or.inr (Or.inr ⟨h, h2, h3, z_sel_f h3⟩))
  · exact Or.inl ⟨h, z_sel_f h⟩
theorem m_upid {σ : qx_Sg} {k : Nat} : va_up σ k (σ k) = σ := by
  funext j
  unfold va_up
  by_cases e : j = k
  · simp [e]
  · simp [e]
theorem m_zr0 {r : Nat → Int32} {a : Nat} : m_zr r a 0 = r := by
  funext j
  unfold m_zr
  rw [if_neg (by omega)]
def m_bw (σ : qx_Sg) (k : Nat) : qT2 := (-1000001 - nI k, m_fnd σ k)
noncomputable def M_sheet (σ : qx_Sg) (s b n : Int32) : qT2 := zw (z_in s 3 ∧ z_bit b) (zw (n < 0) (m_bw σ 6) (zw (40 < n) (m_bw σ 0) (z_sb b n 1, va_up (va_up (va_up σ 61 (upd (σ 61) (zn s) b)) 62 (upd (σ 62) (zn s) (z_sb b n 1))) 63 (m_zr (σ 63) (40 * zn s) 40)))) (m_bw σ 0)
noncomputable def M_write (σ : qx_Sg) (s i v : Int32) : qT2 := zw (z_in s 3) (zw (σ 61 (zn s) = 0) (m_bw σ 5) (zw (z_in i (σ 62 (zn s) - 1)) (1, va_up σ 63 (upd (σ 63) (40 * zn s + zn i) (z_cut (σ 61 (zn s)) v))) (m_bw σ 0))) (m_bw σ 0)
noncomputable def M_status (σ : qx_Sg) (x : Int32) : qT2 := zw (¬ x < -1 ∧ ¬ 6 < x) (σ 57 (zn (x + 1)), σ) (m_bw σ 0)
noncomputable def M_undo (σ : qx_Sg) : qT2 := zw (σ 53 3 = 0) (m_bw σ 3) (σ 55 0, va_up σ 54 (σ 55))
noncomputable def M_feed (σ : qx_Sg) (x n : Int32) : qT2 := zw (¬ n < 1 ∧ ¬ 4 < n) (zw (σ 53 6 + n ≤ 120) (σ 53 6 + n, va_up (va_up σ 58 (z_fd x (zn n) (zn (σ 53 6)) (σ 58))) 53 (upd (σ 53) 6 (σ 53 6 + n))) (m_bw σ 1)) (m_bw σ 0)
theorem c_X6_cutTo (l : Launch) (G : qx_G) (σ : qx_Sg) (v b : Int32) : qx_Ct l G yX6_cutTo cX6_cutTo 2 (some .int) 0 0 [.int v, .int b] (σ) (qx_pi (z_cut b v) (σ)) := by
  refine qx_of .int (lo := [(0, .int v), (1, .int b)]) (by decide +kernel) (Nat.le_of_ble_eq_true rfl) rfl (fun Δ (C : qx_C G Δ cX6_cutTo RX6 2 0 0) hret => ?_)
  refine qk_iloadn C dX6_cutTo_0 1 rfl rfl 1 rfl ?_
  refine qk_bipush C (8) dX6_cutTo_1 3 rfl rfl ?_
  refine qk_icmp_ne C dX6_cutTo_3 11 rfl 6 rfl (fun c_3 => ?_) (fun c_3 => ?_)
  · refine qk_iloadn C dX6_cutTo_11 12 rfl rfl 1 rfl ?_
    refine qk_bipush C (16) dX6_cutTo_12 14 rfl rfl ?_
    refine qk_icmp_ne C dX6_cutTo_14 22 rfl 17 rfl (fun c_14 => ?_) (fun c_14 => ?_)
    · refine qk_iloadn C dX6_cutTo_22 23 rfl rfl 0 rfl ?_
      exact hret _ _ _ _ dX6_cutTo_23 ⟨congrArg (fun x => some (Value.int x)) (by first | rfl | (simp [z_cut, c_3, c_14]; done) | (simp [z_cut, c_3, c_14]; decide) | (simp [z_cut, c_3, c_14]; rfl) | (simp_all [z_cut]; done)), rfl⟩ rfl
    · refine qk_iloadn C dX6_cutTo_17 18 rfl rfl 0 rfl ?_
      refine qk_i2s C dX6_cutTo_18 19 rfl ?_
      refine qk_goto C dX6_cutTo_19 23 rfl ?_
      exact hret _ _ _ _ dX6_cutTo_23 ⟨congrArg (fun x => some (Value.int x)) (by first | rfl | (simp [z_cut, c_3, c_14]; done) | (simp [z_cut, c_3, c_14]; decide) | (simp [z_cut, c_3, c_14]; rfl) | (simp_all [z_cut]; done)), rfl⟩ rfl
  · refine qk_iloadn C dX6_cutTo_6 7 rfl rfl 0 rfl ?_
    refine qk_i2b C dX6_cutTo_7 8 rfl ?_
    refine qk_goto C dX6_cutTo_8 23 rfl ?_
    exact hret _ _ _ _ dX6_cutTo_23 ⟨congrArg (fun x => some (Value.int x)) (by first | rfl | (simp [z_cut, c_3]; done) | (simp [z_cut, c_3]; decide) | (simp [z_cut, c_3]; rfl) | (simp_all [z_cut]; done)), rfl⟩ rfl

theorem c_X6_lacks (l : Launch) (G : qx_G) (σ : qx_Sg) (s g : Int32) : qx_Ct l G yX6_lacks cX6_lacks 3 (some .int) 2 42 [.ref (qx_ad G 53), .int s, .int g] (σ) (qx_pi (m_lk σ s g) (σ)) := by
  refine qx_of .int (lo := [(0, .ref (qx_ad G 53)), (1, .int s), (2, .int g)]) (by decide +kernel) (Nat.le_of_ble_eq_true rfl) rfl (fun Δ (C : qx_C G Δ cX6_lacks RX6 3 2 42) hret => ?_)
  refine qk_iloadn C dX6_lacks_0 1 rfl rfl 1 rfl ?_
  refine qk_callS C dX6_lacks_1 4 rfl ql_X6_224 qc_X6_isSheet (c_X6_isSheet l G _ _) rfl rfl (Nat.le_of_ble_eq_true rfl) ⟨(Nat.le_of_ble_eq_true rfl), (Nat.le_of_ble_eq_true rfl)⟩ (qx_Ki ?_)
  refine qk_if_neB C dX6_lacks_4 12 rfl 7 rfl (fun c_4 => ?_) (fun c_4 => ?_)
  · obtain ⟨js, hjs, rfl⟩ := z_in_ex 3 rfl (by omega) c_4
    refine qk_aloadn C dX6_lacks_12 13 rfl rfl 0 rfl ?_
    refine qk_get C dX6_lacks_13 16 rfl qf_X6_48 53 (by decide) rfl rfl ?_
    refine qk_iloadn C dX6_lacks_16 17 rfl rfl 1 rfl ?_
    refine qk_iald C dX6_lacks_17 18 rfl 61 (by decide) (fun _ => rfl) (js) rfl (by omega) (by decide) ?_
    refine qk_cast (show _ = σ 61 (js) from rfl) ?_
    refine qk_if_ne C dX6_lacks_18 26 rfl 21 rfl (fun c_18 => ?_) (fun c_18 => ?_)
    · refine qk_iloadn C dX6_lacks_26 27 rfl rfl 2 rfl ?_
      refine qk_if_eq C dX6_lacks_27 34 rfl 30 rfl (fun c_27 => ?_) (fun c_27 => ?_)
      · refine qk_ldc C dX6_lacks_34 36 rfl qw_947 ?_
        exact hret _ _ _ _ dX6_lacks_36 ⟨congrArg (fun x => some (Value.int x)) (by unfold m_lk; rw [zn_nI (show js < 2 ^ 31 by omega)]; exact ((z_sel_t c_4).trans ((z_sel_f c_18).trans (z_sel_t c_27))).symm), rfl⟩ rfl
      · refine qk_iconst C (0) dX6_lacks_30 31 rfl rfl ?_
        refine qk_goto C dX6_lacks_31 36 rfl ?_
        exact hret _ _ _ _ dX6_lacks_36 ⟨congrArg (fun x => some (Value.int x)) (by unfold m_lk; rw [zn_nI (show js < 2 ^ 31 by omega)]; exact ((z_sel_t c_4).trans ((z_sel_f c_18).trans (z_sel_f c_27))).symm), rfl⟩ rfl
    · refine qk_ldc C dX6_lacks_21 23 rfl qw_1209 ?_
      refine qk_goto C dX6_lacks_23 36 rfl ?_
      exact hret _ _ _ _ dX6_lacks_36 ⟨congrArg (fun x => some (Value.int x)) (by unfold m_lk; rw [zn_nI (show js < 2 ^ 31 by omega)]; exact ((z_sel_t c_4).trans (z_sel_t c_18)).symm), rfl⟩ rfl
  · refine qk_ldc C dX6_lacks_7 9 rfl qw_947 ?_
    refine qk_goto C dX6_lacks_9 36 rfl ?_
    exact hret _ _ _ _ dX6_lacks_36 ⟨congrArg (fun x => some (Value.int x)) (by unfold m_lk; exact (z_sel_f c_4).symm), rfl⟩ rfl

theorem m_ft {P : Nat → Prop} {t : Nat} (ht : t ≤ 13) : ∃ g, g < 2 ^ t ∧ z_fo (fun i a => z_sel (P i) (z_rc a (nI i)) a) t = nI g ∧ z_bc (nI g) = z_fo (fun i a => z_sel (P i) (a + 1) a) t := by
  induction t with
  | zero => exact ⟨0, by decide, rfl, show z_bc (nI 0) = 0 from by decide⟩
  | succ t ih =>
    obtain ⟨g, hg, e1, e2⟩ := ih (by omega)
    have h13 : ∀ t, t < 13 → (1 : Int32) <<< (nI t &&& 31) = nI (2 ^ t) := by decide
    by_cases h : P t
    · refine ⟨g ||| 2 ^ t, Nat.or_lt_two_pow (by rw [Nat.pow_succ]; omega) (Nat.pow_lt_pow_right (by omega) (by omega)), ?_, ?_⟩
      · show z_sel (P t) _ _ = _
        rw [z_sel_t h, e1]
        unfold z_rc
        rw [h13 t (by omega)]
        apply Int32.toBitVec_inj.mp
        show (BitVec.ofNat 32 g ||| BitVec.ofNat 32 (2 ^ t)) = BitVec.ofNat 32 (g ||| 2 ^ t)
        rw [BitVec.ofNat_or]
      · show _ = z_sel (P t) _ _
        rw [z_sel_t h, m_bc_s (by omega) hg, e2]
    · refine ⟨g, by rw [Nat.pow_succ]; omega, ?_, ?_⟩
      · show z_sel (P t) _ _ = _
        rw [z_sel_f h, e1]
      · show _ = z_sel (P t) _ _
        rw [z_sel_f h, e2]
theorem c_X6_image (l : Launch) (G : qx_G) (σ : qx_Sg) (v : Nat → Int32) : qx_Ct l G yX6_image cX6_image 1 (some .int) 1 22 [.ref (qx_ad G 53)] (va_up σ 54 v) (qx_pi (1) (va_up (va_up (va_up σ 54 v) 55 v) 53 (upd (σ 53) 3 1))) := by
  refine qx_of .int (lo := [(0, .ref (qx_ad G 53))]) (by decide +kernel) (Nat.le_of_ble_eq_true rfl) rfl (fun Δ (C : qx_C G Δ cX6_image RX6 1 1 22) hret => ?_)
  refine qk_aloadn C dX6_image_0 1 rfl rfl 0 rfl ?_
  refine qk_get C dX6_image_1 4 rfl qf_X6_9 53 (by decide) rfl rfl ?_
  refine qk_aloadn C dX6_image_4 5 rfl rfl 0 rfl ?_
  refine qk_get C dX6_image_5 8 rfl qf_X6_13 53 (by decide) rfl rfl ?_
  refine qk_callS C dX6_image_8 11 rfl ql_X6_61 qc_X6_copyRow (c_X6_copyRow l G _ 54 55 (Or.inl rfl) (Or.inr (Or.inl rfl)) (by decide)) rfl rfl (Nat.le_of_ble_eq_true rfl) ⟨(Nat.le_of_ble_eq_true rfl), (Nat.le_of_ble_eq_true rfl)⟩ (qx_Kv ?_)
  refine qk_aloadn C dX6_image_11 12 rfl rfl 0 rfl ?_
  refine qk_iconst C (1) dX6_image_12 13 rfl rfl ?_
  refine qk_put C .boolean dX6_image_13 16 rfl qf_X6_332 53 (by decide) rfl (fun q hq => by cases hq; rfl) rfl rfl (Nat.le_of_ble_eq_true rfl) rfl ?_
  refine qk_iconst C (1) dX6_image_16 17 rfl rfl ?_
  exact hret _ _ _ _ dX6_image_17 ⟨congrArg (fun x => some (Value.int x)) (by first | rfl | (simp []; done) | (simp []; decide) | (simp []; rfl) | (simp_all []; done)), rfl⟩ rfl

theorem c_X6_undo (l : Launch) (G : qx_G) (σ : qx_Sg) : qx_Ct l G yX6_undo cX6_undo 1 (some .int) 1 22 [.ref (qx_ad G 53)] (σ) (qPt (M_undo σ)) := by
  refine qx_of .int (lo := [(0, .ref (qx_ad G 53))]) (by decide +kernel) (Nat.le_of_ble_eq_true rfl) rfl (fun Δ (C : qx_C G Δ cX6_undo RX6 1 1 22) hret => ?_)
  refine qk_aloadn C dX6_undo_0 1 rfl rfl 0 rfl ?_
  refine qk_get C dX6_undo_1 4 rfl qf_X6_332 53 (by decide) rfl rfl ?_
  refine qk_if_ne C dX6_undo_4 14 rfl 7 rfl (fun c_4 => ?_) (fun c_4 => ?_)
  · refine qk_aloadn C dX6_undo_14 15 rfl rfl 0 rfl ?_
    refine qk_get C dX6_undo_15 18 rfl qf_X6_13 53 (by decide) rfl rfl ?_
    refine qk_aloadn C dX6_undo_18 19 rfl rfl 0 rfl ?_
    refine qk_get C dX6_undo_19 22 rfl qf_X6_9 53 (by decide) rfl rfl ?_
    refine qk_callS C dX6_undo_22 25 rfl ql_X6_61 qc_X6_copyRow (c_X6_copyRow l G _ 55 54 (Or.inr (Or.inl rfl)) (Or.inl rfl) (by decide)) rfl rfl (Nat.le_of_ble_eq_true rfl) ⟨(Nat.le_of_ble_eq_true rfl), (Nat.le_of_ble_eq_true rfl)⟩ (qx_Kv ?_)
    refine qk_aloadn C dX6_undo_25 26 rfl rfl 0 rfl ?_
    refine qk_get C dX6_undo_26 29 rfl qf_X6_9 53 (by decide) rfl rfl ?_
    refine qk_iconst C (0) dX6_undo_29 30 rfl rfl ?_
    refine qk_iald C dX6_undo_30 31 rfl 54 (by decide) (fun _ => rfl) (0) rfl (by omega) (by decide) ?_
    refine qk_cast (show _ = σ 55 0 from rfl) ?_
    exact hret _ _ _ _ dX6_undo_31 (qPt_of (zw_f c_4)) rfl
  · refine qk_aloadn C dX6_undo_7 8 rfl rfl 0 rfl ?_
    refine qk_ldc C dX6_undo_8 10 rfl qw_1064 ?_
    refine qk_callV C dX6_undo_10 13 rfl ql_X6_66 qc_X6_finding 53 (by decide) rfl rfl (c_X6_finding l G _ _ 3 (by decide) (by decide)) rfl rfl (Nat.le_of_ble_eq_true rfl) ⟨(Nat.le_of_ble_eq_true rfl), (Nat.le_of_ble_eq_true rfl)⟩ (qx_Ki ?_)
    exact hret _ _ _ _ dX6_undo_13 (qPt_of (zw_t c_4)) rfl

theorem c_X6_tear (l : Launch) (G : qx_G) (σ : qx_Sg) : qx_Ct l G yX6_tear cX6_tear 2 (some .int) 0 0 [.ref (qx_ad G 53)] (σ) (qx_pi (qb (¬ σ 53 3 = 0)) (va_up σ 53 (upd (σ 53) 3 0))) := by
  refine qx_of .int (lo := [(0, .ref (qx_ad G 53))]) (by decide +kernel) (Nat.le_of_ble_eq_true rfl) rfl (fun Δ (C : qx_C G Δ cX6_tear RX6 2 0 0) hret => ?_)
  refine qk_aloadn C dX6_tear_0 1 rfl rfl 0 rfl ?_
  refine qk_get C dX6_tear_1 4 rfl qf_X6_332 53 (by decide) rfl rfl ?_
  refine qk_if_eq C dX6_tear_4 11 rfl 7 rfl (fun c_4 => ?_) (fun c_4 => ?_)
  · refine qk_iconst C (0) dX6_tear_11 12 rfl rfl ?_
    refine qk_istoren C dX6_tear_12 13 rfl rfl (by decide) rfl ?_
    refine qk_aloadn C dX6_tear_13 14 rfl rfl 1 rfl ?_
    refine qk_iconst C (0) dX6_tear_14 15 rfl rfl ?_
    refine qk_put C .boolean dX6_tear_15 18 rfl qf_X6_332 53 (by decide) rfl (fun q hq => by cases hq; rfl) rfl rfl (Nat.le_of_ble_eq_true rfl) rfl ?_
    refine qk_iloadn C dX6_tear_18 19 rfl rfl 0 rfl ?_
    exact hret _ _ _ _ dX6_tear_19 ⟨congrArg (fun x => some (Value.int x)) ((qb_f (fun q => q c_4)).symm), rfl⟩ rfl
  · refine qk_iconst C (1) dX6_tear_7 8 rfl rfl ?_
    refine qk_goto C dX6_tear_8 12 rfl ?_
    refine qk_istoren C dX6_tear_12 13 rfl rfl (by decide) rfl ?_
    refine qk_aloadn C dX6_tear_13 14 rfl rfl 1 rfl ?_
    refine qk_iconst C (0) dX6_tear_14 15 rfl rfl ?_
    refine qk_put C .boolean dX6_tear_15 18 rfl qf_X6_332 53 (by decide) rfl (fun q hq => by cases hq; rfl) rfl rfl (Nat.le_of_ble_eq_true rfl) rfl ?_
    refine qk_iloadn C dX6_tear_18 19 rfl rfl 0 rfl ?_
    exact hret _ _ _ _ dX6_tear_19 ⟨congrArg (fun x => some (Value.int x)) ((qb_t c_4).symm), rfl⟩ rfl

theorem c_X6_seed (l : Launch) (G : qx_G) (σ : qx_Sg) (v : Nat → Int32) (x : Int32) : qx_Ct l G yX6_seed cX6_seed 2 (some .int) 1 23 [.ref (qx_ad G 53), .int x] (va_up σ 54 v) (qx_pi (v 2) (va_up σ 54 (upd v 2 x))) := by
  refine qx_of .int (lo := [(0, .ref (qx_ad G 53)), (1, .int x)]) (by decide +kernel) (Nat.le_of_ble_eq_true rfl) rfl (fun Δ (C : qx_C G Δ cX6_seed RX6 2 1 23) hret => ?_)
  refine qk_aloadn C dX6_seed_0 1 rfl rfl 0 rfl ?_
  refine qk_iconst C (2) dX6_seed_1 2 rfl rfl ?_
  refine qk_iloadn C dX6_seed_2 3 rfl rfl 1 rfl ?_
  refine qk_callV C dX6_seed_3 6 rfl ql_X6_81 qc_X6_become 53 (by decide) rfl rfl (c_X6_become l G σ v 2 (by omega) _) rfl rfl (Nat.le_of_ble_eq_true rfl) ⟨(Nat.le_of_ble_eq_true rfl), (Nat.le_of_ble_eq_true rfl)⟩ (qx_Ki ?_)
  exact hret _ _ _ _ dX6_seed_6 ⟨congrArg (fun x => some (Value.int x)) (by first | rfl | (simp []; done) | (simp []; decide) | (simp []; rfl) | (simp_all []; done)), rfl⟩ rfl

def m_ab (j : Nat) : Int32 := if j = 0 then -1 else nI (z_ab j)
theorem m_isF_0 {w : Int32} {n : Nat} (h : z_isF w n 0) : nI 0 = w := by
  induction n with
  | zero => exact h.elim
  | succ n ih => exact h.elim id ih
theorem c_X6_above (l : Launch) (G : qx_G) (σ : qx_Sg) (j : Nat) (hj : j < 7) : qx_Ct l G yX6_above cX6_above 1 (some .int) 0 0 [.int (nI j)] (σ) (qx_pi (m_ab j) (σ)) := by
  refine qx_of .int (lo := [(0, .int (nI j))]) (by decide +kernel) (Nat.le_of_ble_eq_true rfl) rfl (fun Δ (C : qx_C G Δ cX6_above RX6 1 0 0) hret => ?_)
  have hj2 : j = 0 ∨ j = 1 ∨ j = 2 ∨ j = 3 ∨ j = 4 ∨ j = 5 ∨ j = 6 := by omega
  refine qk_iloadn C dX6_above_0 1 rfl rfl 0 rfl ?_
  refine qk_if_ne C dX6_above_1 8 rfl 4 rfl (fun c_1 => ?_) (fun c_1 => ?_)
  · refine qk_iloadn C dX6_above_8 9 rfl rfl 0 rfl ?_
    refine qk_iconst C (3) dX6_above_9 10 rfl rfl ?_
    refine qk_icmp_ne C dX6_above_10 17 rfl 13 rfl (fun c_10 => ?_) (fun c_10 => ?_)
    · refine qk_iloadn C dX6_above_17 18 rfl rfl 0 rfl ?_
      refine qk_iconst C (4) dX6_above_18 19 rfl rfl ?_
      refine qk_icmp_ne C dX6_above_19 26 rfl 22 rfl (fun c_19 => ?_) (fun c_19 => ?_)
      · refine qk_iloadn C dX6_above_26 27 rfl rfl 0 rfl ?_
        refine qk_bipush C (6) dX6_above_27 29 rfl rfl ?_
        refine qk_icmp_ne C dX6_above_29 36 rfl 32 rfl (fun c_29 => ?_) (fun c_29 => ?_)
        · refine qk_iconst C (0) dX6_above_36 37 rfl rfl ?_
          exact hret _ _ _ _ dX6_above_37 ⟨congrArg (fun x => some (Value.int x)) (by rcases hj2 with rfl | rfl | rfl | rfl | rfl | rfl | rfl <;> first | rfl | exact absurd rfl c_1 | exact absurd rfl c_10 | exact absurd rfl c_19 | exact absurd rfl c_29 | exact absurd c_1 (by decide) | exact absurd c_10 (by decide) | exact absurd c_19 (by decide) | exact absurd c_29 (by decide)), rfl⟩ rfl
        · refine qk_iconst C (1) dX6_above_32 33 rfl rfl ?_
          refine qk_goto C dX6_above_33 37 rfl ?_
          exact hret _ _ _ _ dX6_above_37 ⟨congrArg (fun x => some (Value.int x)) (by rcases hj2 with rfl | rfl | rfl | rfl | rfl | rfl | rfl <;> first | rfl | exact absurd rfl c_1 | exact absurd rfl c_10 | exact absurd rfl c_19 | exact absurd rfl c_29 | exact absurd c_1 (by decide) | exact absurd c_10 (by decide) | exact absurd c_19 (by decide) | exact absurd c_29 (by decide)), rfl⟩ rfl
      · refine qk_iconst C (3) dX6_above_22 23 rfl rfl ?_
        refine qk_goto C dX6_above_23 37 rfl ?_
        exact hret _ _ _ _ dX6_above_37 ⟨congrArg (fun x => some (Value.int x)) (by rcases hj2 with rfl | rfl | rfl | rfl | rfl | rfl | rfl <;> first | rfl | exact absurd rfl c_1 | exact absurd rfl c_10 | exact absurd rfl c_19 | exact absurd rfl c_29 | exact absurd c_1 (by decide) | exact absurd c_10 (by decide) | exact absurd c_19 (by decide) | exact absurd c_29 (by decide)), rfl⟩ rfl
    · refine qk_iconst C (2) dX6_above_13 14 rfl rfl ?_
      refine qk_goto C dX6_above_14 37 rfl ?_
      exact hret _ _ _ _ dX6_above_37 ⟨congrArg (fun x => some (Value.int x)) (by rcases hj2 with rfl | rfl | rfl | rfl | rfl | rfl | rfl <;> first | rfl | exact absurd rfl c_1 | exact absurd rfl c_10 | exact absurd rfl c_19 | exact absurd rfl c_29 | exact absurd c_1 (by decide) | exact absurd c_10 (by decide) | exact absurd c_19 (by decide) | exact absurd c_29 (by decide)), rfl⟩ rfl
  · refine qk_iconst C ((-1)) dX6_above_4 5 rfl rfl ?_
    refine qk_goto C dX6_above_5 37 rfl ?_
    exact hret _ _ _ _ dX6_above_37 ⟨congrArg (fun x => some (Value.int x)) (by rcases hj2 with rfl | rfl | rfl | rfl | rfl | rfl | rfl <;> first | rfl | exact absurd rfl c_1 | exact absurd rfl c_10 | exact absurd rfl c_19 | exact absurd rfl c_29 | exact absurd c_1 (by decide) | exact absurd c_10 (by decide) | exact absurd c_19 (by decide) | exact absurd c_29 (by decide)), rfl⟩ rfl

