/-! the model: thoughts -/
theorem m_ups {v : Nat → Int32} {i : Nat} : upd v i (v i) = v := by
  funext j
  unfold upd
  by_cases e : j = i
  · simp [e]
  · simp [e]
theorem m_upu {v : Nat → Int32} {i : Nat} {x y : Int32} : upd (upd v i x) i y = upd v i y := by
  funext j
  unfold upd
  by_cases e : j = i
  · simp [e]
  · simp [e]
theorem m_upr {v : Nat → Int32} {i : Nat} {x : Int32} : upd (upd v i x) i (v i) = v := m_upu.trans m_ups
/-- the best of sets M - 1, .., M - t: fewest, then least -/
noncomputable def m_s1 (P : Nat → Prop) (s : Nat) (o : Option Nat) : Option Nat := @ite _ ((∀ b, o = some b → ¬ z_bc (nI b) < z_bc (nI s)) ∧ P s) (Classical.propDecidable _) (some s) o
noncomputable def m_sb (P : Nat → Prop) (M : Nat) : Nat → Option Nat
  | 0 => none
  | t + 1 => m_s1 P (M - (t + 1)) (m_sb P M t)
theorem m_s1_t {P : Nat → Prop} {s : Nat} {o : Option Nat} (h : (∀ b, o = some b → ¬ z_bc (nI b) < z_bc (nI s)) ∧ P s) : m_s1 P s o = some s := if_pos h
theorem m_s1_f {P : Nat → Prop} {s : Nat} {o : Option Nat} (h : ¬ ((∀ b, o = some b → ¬ z_bc (nI b) < z_bc (nI s)) ∧ P s)) : m_s1 P s o = o := if_neg h
theorem m_sb_lt {P : Nat → Prop} {M t b : Nat} (ht : t ≤ M) (e : m_sb P M t = some b) : b < M := by
  induction t with
  | zero => cases e
  | succ t ih =>
    by_cases c : (∀ b, m_sb P M t = some b → ¬ z_bc (nI b) < z_bc (nI (M - (t + 1)))) ∧ P (M - (t + 1))
    · rw [show m_sb P M (t + 1) = some (M - (t + 1)) from m_s1_t c] at e
      cases e
      omega
    · rw [show m_sb P M (t + 1) = m_sb P M t from m_s1_f c] at e
      exact ih (by omega) e
noncomputable def S_sealM (N : Nat) (w : Nat → Int32) (n : Int32) : qR := zif (z_in n 20) (z_on (m_sb (fun s => z_ka N w (zn n) (nI s)) (2 ^ N) (2 ^ N)) N w) (zbad 0 N w)
/-- what a bust has behind the parts of a set, among the first n -/
noncomputable def m_lt (k set : Int32) : Nat → Int32 → Int32
  | 0, h => h
  | p + 1, h => z_sel (z_hs set (nI p) ∧ z_tk k (m_lt k set p h) (nI p)) (z_rc (m_lt k set p h) (nI p)) (m_lt k set p h)
noncomputable def S_pathToM (N : Nat) (w : Nat → Int32) (b p : Int32) : qR := zif (z_ib N b ∧ z_in p 11) (z_on (m_sb (fun s => z_hs (m_lt (w (32 + 7 * zn b + 0)) (nI s) 12 (w (32 + 7 * zn b + 2))) p) 4096 4096) N w) (zbad 0 N w)
theorem c_X6_nobodyLeaves (l : Launch) (G : qx_G) (σ : qx_Sg) (N : Nat) (v : Nat → Int32) (hI : qv_ok v N) (set : Int32) (n : Nat) (hn : n < 2 ^ 31) : qx_Ct l G yX6_nobodyLeaves cX6_nobodyLeaves 5 (some .boolean) 8 177 [.ref (qx_ad G 53), .int set, .int (nI n)] (va_up σ 54 v) (qx_pi (qb (z_ka N v n set)) (va_up (va_up σ 56 v) 54 v)) := by
  refine qx_of .boolean (lo := [(0, .ref (qx_ad G 53)), (1, .int set), (2, .int (nI n))]) (by decide +kernel) (Nat.le_of_ble_eq_true rfl) rfl (fun Δ (C : qx_C G Δ cX6_nobodyLeaves RX6 5 8 177) hret => ?_)
  have hN8 := hI.1
  have hN1 := hI.2.1
  refine qk_aloadn C dX6_nobodyLeaves_0 1 rfl rfl 0 rfl ?_
  refine qk_get C dX6_nobodyLeaves_1 4 rfl qf_X6_9 53 (by decide) rfl rfl ?_
  refine qk_iconst C (3) dX6_nobodyLeaves_4 5 rfl rfl ?_
  refine qk_iald C dX6_nobodyLeaves_5 6 rfl 54 (by decide) (fun _ => rfl) (3) rfl (by omega) (by decide) ?_
  refine qk_cast (show _ = v (3) from rfl) ?_
  refine qk_istoren C dX6_nobodyLeaves_6 7 rfl rfl (by decide) rfl ?_
  refine qk_aloadn C dX6_nobodyLeaves_7 8 rfl rfl 1 rfl ?_
  refine qk_get C dX6_nobodyLeaves_8 11 rfl qf_X6_9 53 (by decide) rfl rfl ?_
  refine qk_aloadn C dX6_nobodyLeaves_11 12 rfl rfl 1 rfl ?_
  refine qk_get C dX6_nobodyLeaves_12 15 rfl qf_X6_16 53 (by decide) rfl rfl ?_
  refine qk_callS C dX6_nobodyLeaves_15 18 rfl ql_X6_61 qc_X6_copyRow (c_X6_copyRow l G _ 54 56 (Or.inl rfl) (Or.inr (Or.inr rfl)) (by decide)) rfl rfl (Nat.le_of_ble_eq_true rfl) ⟨(Nat.le_of_ble_eq_true rfl), (Nat.le_of_ble_eq_true rfl)⟩ (qx_Kv ?_)
  refine qk_sg _ m_as ?_
  refine qk_iconst C (nI 0) dX6_nobodyLeaves_18 19 rfl rfl ?_
  refine qk_istore C dX6_nobodyLeaves_19 21 rfl (by decide) rfl ?_
  have lp_21 : ∀ (n_21 : Nat) (i : Nat), i ≤ N → N - i < n_21 → qx_K l G Δ (va_up (va_up σ 56 v) 54 (z_sl v set i)) 21 [(4, .int (nI i)), (0, .ref (qx_ad G 53)), (1, .int set), (2, .int (nI n)), (3, .int (v 3))] [] := by
    intro n_21
    induction n_21 with
    | zero => intro _ _ h9; exact absurd h9 (Nat.not_lt_zero _)
    | succ n_21 ih_21 =>
      intro i hi hm_21
      have hJ := qv_sl hI set i hi
      refine qk_iload C dX6_nobodyLeaves_21 23 rfl 0 rfl ?_
      refine qk_aloadn C dX6_nobodyLeaves_23 24 rfl rfl 1 rfl ?_
      refine qk_get C dX6_nobodyLeaves_24 27 rfl qf_X6_9 53 (by decide) rfl rfl ?_
      refine qk_iconst C (1) dX6_nobodyLeaves_27 28 rfl rfl ?_
      refine qk_iald C dX6_nobodyLeaves_28 29 rfl 54 (by decide) (fun _ => rfl) 1 rfl (by omega) (by decide) ?_
      refine qk_cast (hJ.2.1) ?_
      refine qk_icmp_ge C dX6_nobodyLeaves_29 60 rfl 32 rfl (fun c_29 => ?_) (fun c_29 => ?_)
      · have hiN : N ≤ i := (nI_leI (by omega) (by omega)).mp c_29
        have hie : i = N := by omega
        subst hie
        refine qk_aloadn C dX6_nobodyLeaves_60 61 rfl rfl 1 rfl ?_
        refine qk_iloadn C dX6_nobodyLeaves_61 62 rfl rfl 3 rfl ?_
        refine qk_callV C dX6_nobodyLeaves_62 65 rfl ql_X6_184 qc_X6_daysGo 53 (by decide) rfl rfl (c_X6_daysGo l G _ _ _ hJ n hn) rfl rfl (Nat.le_of_ble_eq_true rfl) ⟨(Nat.le_of_ble_eq_true rfl), (Nat.le_of_ble_eq_true rfl)⟩ (qx_Kv ?_)
        refine qk_aloadn C dX6_nobodyLeaves_65 66 rfl rfl 1 rfl ?_
        refine qk_get C dX6_nobodyLeaves_66 69 rfl qf_X6_9 53 (by decide) rfl rfl ?_
        refine qk_iconst C (3) dX6_nobodyLeaves_69 70 rfl rfl ?_
        refine qk_iald C dX6_nobodyLeaves_70 71 rfl 54 (by decide) (fun _ => rfl) (3) rfl (by omega) (by decide) ?_
        refine qk_cast (show _ = z_dn (z_sl v set i) i n (3) from rfl) ?_
        refine qk_iloadn C dX6_nobodyLeaves_71 72 rfl rfl 4 rfl ?_
        refine qk_icmp_ne C dX6_nobodyLeaves_72 79 rfl 75 rfl (fun c_72 => ?_) (fun c_72 => ?_)
        · refine qk_iconst C (0) dX6_nobodyLeaves_79 80 rfl rfl ?_
          refine qk_istore C dX6_nobodyLeaves_80 82 rfl (by decide) rfl ?_
          refine qk_aloadn C dX6_nobodyLeaves_82 83 rfl rfl 1 rfl ?_
          refine qk_get C dX6_nobodyLeaves_83 86 rfl qf_X6_16 53 (by decide) rfl rfl ?_
          refine qk_aloadn C dX6_nobodyLeaves_86 87 rfl rfl 1 rfl ?_
          refine qk_get C dX6_nobodyLeaves_87 90 rfl qf_X6_9 53 (by decide) rfl rfl ?_
          refine qk_callS C dX6_nobodyLeaves_90 93 rfl ql_X6_61 qc_X6_copyRow (c_X6_copyRow l G _ 56 54 (Or.inr (Or.inr rfl)) (Or.inl rfl) (by decide)) rfl rfl (Nat.le_of_ble_eq_true rfl) ⟨(Nat.le_of_ble_eq_true rfl), (Nat.le_of_ble_eq_true rfl)⟩ (qx_Kv ?_)
          refine qk_sg _ m_pb ?_
          refine qk_iload C dX6_nobodyLeaves_93 95 rfl 0 rfl ?_
          exact hret _ _ _ _ dX6_nobodyLeaves_95 ⟨congrArg (fun x => some (Value.int x)) ((qb_f (c_72)).symm), rfl⟩ rfl
        · refine qk_iconst C (1) dX6_nobodyLeaves_75 76 rfl rfl ?_
          refine qk_goto C dX6_nobodyLeaves_76 80 rfl ?_
          refine qk_istore C dX6_nobodyLeaves_80 82 rfl (by decide) rfl ?_
          refine qk_aloadn C dX6_nobodyLeaves_82 83 rfl rfl 1 rfl ?_
          refine qk_get C dX6_nobodyLeaves_83 86 rfl qf_X6_16 53 (by decide) rfl rfl ?_
          refine qk_aloadn C dX6_nobodyLeaves_86 87 rfl rfl 1 rfl ?_
          refine qk_get C dX6_nobodyLeaves_87 90 rfl qf_X6_9 53 (by decide) rfl rfl ?_
          refine qk_callS C dX6_nobodyLeaves_90 93 rfl ql_X6_61 qc_X6_copyRow (c_X6_copyRow l G _ 56 54 (Or.inr (Or.inr rfl)) (Or.inl rfl) (by decide)) rfl rfl (Nat.le_of_ble_eq_true rfl) ⟨(Nat.le_of_ble_eq_true rfl), (Nat.le_of_ble_eq_true rfl)⟩ (qx_Kv ?_)
          refine qk_sg _ m_pb ?_
          refine qk_iload C dX6_nobodyLeaves_93 95 rfl 0 rfl ?_
          exact hret _ _ _ _ dX6_nobodyLeaves_95 ⟨congrArg (fun x => some (Value.int x)) ((qb_t (c_72)).symm), rfl⟩ rfl
      · have hiN : i < N := Nat.not_le.mp (fun q => c_29 (nI_le q (by omega)))
        refine qk_iloadn C dX6_nobodyLeaves_32 33 rfl rfl 2 rfl ?_
        refine qk_iload C dX6_nobodyLeaves_33 35 rfl 0 rfl ?_
        refine qk_ishr C dX6_nobodyLeaves_35 36 rfl ?_
        refine qk_iconst C (1) dX6_nobodyLeaves_36 37 rfl rfl ?_
        refine qk_iand C dX6_nobodyLeaves_37 38 rfl ?_
        refine qk_iconst C (1) dX6_nobodyLeaves_38 39 rfl rfl ?_
        refine qk_icmp_ne C dX6_nobodyLeaves_39 54 rfl 42 rfl (fun c_39 => ?_) (fun c_39 => ?_)
        · refine qk_sg (va_up (va_up σ 56 v) 54 (z_sl v set (i + 1))) (congrArg (va_up (va_up σ 56 v) 54) (z_selr_f c_39).symm) ?_
          refine qk_iinc C (nI (i + 1)) dX6_nobodyLeaves_54 57 rfl 0 rfl (nI_1 i) (by decide) rfl ?_
          refine qk_goto C dX6_nobodyLeaves_57 21 rfl ?_
          exact ih_21 (i + 1) (by omega) (by omega)
        · refine qk_aloadn C dX6_nobodyLeaves_42 43 rfl rfl 1 rfl ?_
          refine qk_get C dX6_nobodyLeaves_43 46 rfl qf_X6_9 53 (by decide) rfl rfl ?_
          refine qk_iload C dX6_nobodyLeaves_46 48 rfl 0 rfl ?_
          refine qk_iconst C (5) dX6_nobodyLeaves_48 49 rfl rfl ?_
          refine qk_callS C dX6_nobodyLeaves_49 52 rfl ql_X6_88 qc_X6_bustAt (c_X6_bustAt l G _ i 5 (by omega) (by omega)) rfl rfl (Nat.le_of_ble_eq_true rfl) ⟨(Nat.le_of_ble_eq_true rfl), (Nat.le_of_ble_eq_true rfl)⟩ (qx_Ki ?_)
          refine qk_iconst C (1) dX6_nobodyLeaves_52 53 rfl rfl ?_
          refine qk_iast C dX6_nobodyLeaves_53 54 rfl 54 (by decide) (fun _ => rfl) (32 + 7 * i + 5) rfl (by omega) (by decide) ?_
          refine qk_sg (va_up (va_up σ 56 v) 54 (z_sl v set (i + 1))) (m_w.trans (congrArg (va_up (va_up σ 56 v) 54) (z_selr_t c_39).symm)) ?_
          refine qk_iinc C (nI (i + 1)) dX6_nobodyLeaves_54 57 rfl 0 rfl (nI_1 i) (by decide) rfl ?_
          refine qk_goto C dX6_nobodyLeaves_57 21 rfl ?_
          exact ih_21 (i + 1) (by omega) (by omega)
  exact qk_lo [0, 2, 3, 4, 1] rfl (lp_21 _ 0 (Nat.zero_le _) (Nat.lt_succ_self _))

theorem m_2N {N : Nat} (h : N ≤ 8) : (1 : Int32) <<< (nI N &&& 31) - 1 = nI (2 ^ N) + (-1) ∧ 2 ^ N ≤ 256 := by
  have : N = 0 ∨ N = 1 ∨ N = 2 ∨ N = 3 ∨ N = 4 ∨ N = 5 ∨ N = 6 ∨ N = 7 ∨ N = 8 := by omega
  rcases this with rfl | rfl | rfl | rfl | rfl | rfl | rfl | rfl | rfl <;> exact ⟨by decide, by decide⟩
