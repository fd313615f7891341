/-! the model reads: its row of cell 53 behind the token that begins at p; ok: nothing is wrong -/
noncomputable def m_rw (r : Nat → Int32) (t : Nat) (q : Nat → Int32) (p : Nat) (ok : Prop) : Nat → Int32 := fun j => if j = 7 then nI (tS r t p) else if j = 8 then nI (tE r t p) else if j = 9 then m_kd (tK r t p) else if j = 10 then tV r t p else if j = 11 then qb (¬ ok) else q j
theorem m_rw_o {r q : Nat → Int32} {t p j : Nat} {ok : Prop} (hj : j < 7 ∨ 11 < j) : m_rw r t q p ok j = q j := by
  unfold m_rw
  rw [if_neg (by omega), if_neg (by omega), if_neg (by omega), if_neg (by omega), if_neg (by omega)]
theorem m_rwU {r q : Nat → Int32} {t p j : Nat} {ok : Prop} {x : Int32} (hj : j < 7 ∨ 11 < j) : upd (m_rw r t q p ok) j x = m_rw r t (upd q j x) p ok := by
  funext i
  by_cases e : i = j
  · subst e
    rw [upd_eq, m_rw_o hj, upd_eq]
  · rw [upd_ne e]
    unfold m_rw
    rw [upd_ne e]
theorem m_rwE {r q : Nat → Int32} {t p : Nat} {ok P : Prop} (hp : p ≤ t) (ht : t ≤ 120) : m_mu r t (m_rw r t q p ok) P = m_rw r t q (t_av r t (ok ∧ P) p) (ok ∧ P) := by
  unfold m_mu
  by_cases c : ok ∧ P
  · have h0 : m_rw r t q p ok 11 = 0 := qb_f (fun z => z c.1)
    rw [z_selr_t ⟨h0, c.2⟩, t_av_t c]
    unfold m_tok
    have hz : zn (upd (m_rw r t q p ok) 11 0 8) = tE r t p := by
      rw [show upd (m_rw r t q p ok) 11 0 8 = nI (tE r t p) from upd_ne (by omega), zn_nI (by have := (tE_le (r := r) hp).2; omega)]
    rw [hz]
    funext j
    by_cases h7 : j = 7
    · subst h7; rfl
    by_cases h8 : j = 8
    · subst h8; rfl
    by_cases h9 : j = 9
    · subst h9; rfl
    by_cases h10 : j = 10
    · subst h10; rfl
    unfold m_row
    rw [if_neg h7, if_neg h8, if_neg h9, if_neg h10]
    by_cases h11 : j = 11
    · subst h11
      rw [upd_eq]
      exact (qb_f (fun z => z c)).symm
    · rw [upd_ne h11, m_rw_o (by omega), m_rw_o (by omega)]
  · have h0 : ¬ (m_rw r t q p ok 11 = 0 ∧ P) := fun z => c ⟨Classical.not_not.mp (qb_eq0.mp z.1), z.2⟩
    rw [z_selr_f h0, t_av_f c]
    funext j
    by_cases h11 : j = 11
    · subst h11
      rw [upd_eq]
      exact (qb_t c).symm
    · rw [upd_ne h11]
      unfold m_rw
      rw [if_neg h11, if_neg h11]
theorem m_kd1 {x : Int32} : m_kd x = 1 ↔ x = 1 := by
  unfold m_kd
  by_cases h : x = 4
  · rw [if_pos h, h]; decide
  · rw [if_neg h]
theorem m_kd2 {x : Int32} : m_kd x = 2 ↔ x = 2 := by
  unfold m_kd
  by_cases h : x = 4
  · rw [if_pos h, h]; decide
  · rw [if_neg h]
theorem m_kd0 {x : Int32} : m_kd x = 0 ↔ x = 0 := by
  unfold m_kd
  by_cases h : x = 4
  · rw [if_pos h, h]; decide
  · rw [if_neg h]
theorem m_kd3 {x : Int32} : m_kd x = 3 ↔ x = 3 ∨ x = 4 := by
  unfold m_kd
  by_cases h : x = 4
  · rw [if_pos h, h]; decide
  · rw [if_neg h]; exact ⟨Or.inl, fun q => q.elim id (fun z => absurd z h)⟩
theorem qk_ldcwS {l : Launch} {G : qx_G} {Δ : qx_T} {cc : ByteArray} {own : String} {nL fr lc : Nat} {σ : qx_Sg} {pc : Nat} {lo : List (Nat × Value)} {st : List Value} (C : qx_C G Δ cc own nL fr lc) {i : Nat} (q : Nat) {tx : String} (hd : decode cc pc = .ok (.ldc_w i, 3)) (pc' : Nat) (hp : pc + 3 = pc') (hw : (own, i, tx, q) ∈ qx_str) (K : qx_K l G Δ σ pc' lo (.ref (qx_ad G (100 + q)) :: st)) : qx_K l G Δ σ pc lo st := by
  subst hp
  intro H locs ls hP hS h T hT X
  have hZ := C.2.2.2.1.2.2 _ hw
  obtain ⟨t, a1, b1⟩ := K H locs ls hP hS h T hT X
  exact ⟨t, X.ldcStringW C.1.1 C.1.2.2.2.1 (text := tx) (a := qx_ad G (100 + q)) hZ.1 hZ.2 (g := F0 (qx_m Δ) pc ls st) rfl (by rw [C.1.2.1]; exact hd) t a1, b1⟩
theorem c_mM (l : Launch) (G : qx_G) (σ : qx_Sg) (q : Nat → Int32) (t : Nat) (ht : t ≤ 120) (et : q 6 = nI t) (hb : t_by (σ 58) t) (p : Nat) (hp : p ≤ t) (ok : Prop) (x : Int32) : qx_Ct l G yX6_must cX6_must 2 none 2 43 [.ref (qx_ad G 53), .int x] (va_up σ 53 (m_rw (σ 58) t q p ok)) (qx_pv (va_up σ 53 (m_rw (σ 58) t q (t_av (σ 58) t (ok ∧ ¬ x = 0) p) (ok ∧ ¬ x = 0)))) := by
  have h := c_X6_must l G σ (m_rw (σ 58) t q p ok) t ht et hb (tE (σ 58) t p) (tE_le hp).2 rfl x
  rw [m_rwE hp ht] at h
  exact h
theorem c_mN (l : Launch) (G : qx_G) (σ : qx_Sg) (q : Nat → Int32) (t : Nat) (ht : t ≤ 120) (et : q 6 = nI t) (hb : t_by (σ 58) t) (p : Nat) (hp : p ≤ t) (ok : Prop) (b : Int32) : qx_Ct l G yX6_number cX6_number 4 (some .int) 3 64 [.ref (qx_ad G 53), .int 0, .int b] (va_up σ 53 (m_rw (σ 58) t q p ok)) (qx_pi (tV (σ 58) t p) (va_up σ 53 (m_rw (σ 58) t q (t_av (σ 58) t (ok ∧ t_nu (σ 58) t b p) p) (ok ∧ t_nu (σ 58) t b p)))) := by
  have h := c_X6_number l G σ (m_rw (σ 58) t q p ok) t ht et hb (tE (σ 58) t p) (tE_le hp).2 rfl 0 b
  have e : (m_rw (σ 58) t q p ok 9 = 2 ∧ ¬ m_rw (σ 58) t q p ok 10 < 0 ∧ ¬ b < m_rw (σ 58) t q p ok 10) = t_nu (σ 58) t b p := by
    show (m_kd (tK (σ 58) t p) = 2 ∧ ¬ tV (σ 58) t p < 0 ∧ ¬ b < tV (σ 58) t p) = _
    exact propext ⟨fun z => ⟨m_kd2.mp z.1, z.2.2⟩, fun z => ⟨m_kd2.mpr z.1, tV_nn z.1, z.2⟩⟩
  rw [e, m_rwE hp ht] at h
  exact h
theorem c_mT (l : Launch) (G : qx_G) (σ : qx_Sg) (q : Nat → Int32) (t : Nat) (ht : t ≤ 120) (et : q 6 = nI t) (hb : t_by (σ 58) t) (p : Nat) (hp : p ≤ t) (ok : Prop) (i : Nat) (hi : i < 12) : qx_Ct l G yX6_takesWord cX6_takesWord 3 (some .boolean) 5 108 [.ref (qx_ad G 53), .ref (qx_ad G (100 + i))] (va_up σ 53 (m_rw (σ 58) t q p ok)) (qx_pi (qb (ok ∧ t_w (σ 58) t i p)) (va_up σ 53 (m_rw (σ 58) t q (t_av (σ 58) t (ok ∧ t_w (σ 58) t i p) p) ok))) := by
  have h := c_X6_takesWord l G σ (m_rw (σ 58) t q p ok) t ht et hb (tE (σ 58) t p) (tE_le hp).2 rfl i hi (tS (σ 58) t p) rfl (tE_le hp).1
  have e : (m_rw (σ 58) t q p ok 11 = 0 ∧ t_iw (σ 58) (m_rw (σ 58) t q p ok 9) (tS (σ 58) t p) (tE (σ 58) t p) i) = (ok ∧ t_w (σ 58) t i p) := by
    show (qb (¬ ok) = 0 ∧ t_iw (σ 58) (m_kd (tK (σ 58) t p)) (tS (σ 58) t p) (tE (σ 58) t p) i) = _
    exact propext ⟨fun z => ⟨Classical.not_not.mp (qb_eq0.mp z.1), m_kd1.mp z.2.1, z.2.2⟩, fun z => ⟨qb_f (fun y => y z.1), m_kd1.mpr z.2.1, z.2.2⟩⟩
  have e2 : z_selr (ok ∧ t_w (σ 58) t i p) (m_mu (σ 58) t (m_rw (σ 58) t q p ok) True) (m_rw (σ 58) t q p ok) = m_rw (σ 58) t q (t_av (σ 58) t (ok ∧ t_w (σ 58) t i p) p) ok := by
    by_cases c : ok ∧ t_w (σ 58) t i p
    · rw [z_selr_t c, m_rwE hp ht, t_av_t c, t_av_t (⟨c.1, trivial⟩ : ok ∧ True), and_true]
    · rw [z_selr_f c, t_av_f c]
  rw [e, e2] at h
  exact h
theorem c_mW (l : Launch) (G : qx_G) (σ : qx_Sg) (q : Nat → Int32) (t : Nat) (ht : t ≤ 120) (p : Nat) (hp : p ≤ t) (ok : Prop) (i : Nat) (hi : i < 12) : qx_Ct l G yX6_isWord cX6_isWord 4 (some .boolean) 4 85 [.ref (qx_ad G 53), .ref (qx_ad G (100 + i))] (va_up σ 53 (m_rw (σ 58) t q p ok)) (qx_pi (qb (t_w (σ 58) t i p)) (va_up σ 53 (m_rw (σ 58) t q p ok))) := by
  have h := c_X6_isWord l G (va_up σ 53 (m_rw (σ 58) t q p ok)) i hi (tS (σ 58) t p) (tE (σ 58) t p) (tE_le hp).1 (Nat.le_trans (tE_le hp).2 ht) rfl rfl
  have e : t_iw (σ 58) (m_kd (tK (σ 58) t p)) (tS (σ 58) t p) (tE (σ 58) t p) i = t_w (σ 58) t i p := propext ⟨fun z => ⟨m_kd1.mp z.1, z.2⟩, fun z => ⟨m_kd1.mpr z.1, z.2⟩⟩
  rw [← e]
  exact h
theorem c_mA (l : Launch) (G : qx_G) (σ : qx_Sg) (q : Nat → Int32) (t : Nat) (p : Nat) (ok : Prop) (m : Nat) (hm : m < 120) (em : q 14 = nI m) (a b c d e : Int32) : qx_Ct l G yX6_addItem cX6_addItem 7 none 0 0 [.ref (qx_ad G 53), .int a, .int b, .int c, .int d, .int e] (va_up σ 53 (m_rw (σ 58) t q p ok)) (qx_pv (va_up (va_up σ 60 (m_it (σ 60) (5 * m) a b c d e)) 53 (m_rw (σ 58) t (upd q 14 (nI (m + 1))) p ok))) := by
  have h := c_X6_addItem l G σ (m_rw (σ 58) t q p ok) m hm ((m_rw_o (by omega)).trans em) a b c d e
  rw [m_rwU (by omega)] at h
  exact h
theorem t_optY {r : Nat → Int32} {t i p : Nat} {m d : Int32} {o : Prop} (c : o ∧ t_w r t i p) : tV r t (t_av r t (o ∧ t_w r t i p) p) = t_oV r t i d p o ∧ t_av r t (o ∧ t_nu r t m (t_av r t (o ∧ t_w r t i p) p)) (t_av r t (o ∧ t_w r t i p) p) = t_oP r t i m p o ∧ (o ∧ t_nu r t m (t_av r t (o ∧ t_w r t i p) p)) = t_oO r t i m p o := by
  unfold t_oP
  rw [t_av_t c]
  refine ⟨(t_oX_V c.1 c.2).symm, congrArg (fun b => t_av r t b (tE r t p)) (propext ⟨fun z => ⟨z.1, c.2, z.2⟩, fun z => ⟨z.1, z.2.2⟩⟩), propext ⟨fun z => ⟨z.1, fun _ => z.2⟩, fun z => ⟨z.1, z.2 c.2⟩⟩⟩
theorem t_optN {r : Nat → Int32} {t i p : Nat} {m d : Int32} {o : Prop} (c : ¬ (o ∧ t_w r t i p)) : d = t_oV r t i d p o ∧ t_av r t (o ∧ t_w r t i p) p = t_oP r t i m p o ∧ o = t_oO r t i m p o := by
  refine ⟨(tif_f c).symm, ?_, propext ⟨fun z => ⟨z, fun y => absurd ⟨z, y⟩ c⟩, fun z => z.1⟩⟩
  unfold t_oP
  rw [t_av_f c, t_av_f (fun z : o ∧ t_w r t i p ∧ _ => c ⟨z.1, z.2.1⟩)]
theorem c_X6_readBust (l : Launch) (G : qx_G) (σ : qx_Sg) (q : Nat → Int32) (t : Nat) (ht : t ≤ 120) (et : q 6 = nI t) (hb : t_by (σ 58) t) (p : Nat) (hp : p ≤ t) (N : Nat) (hN : N ≤ 8) (eN : q 15 = nI N) (m : Nat) (hm : m < 120) (em : q 14 = nI m) (kd : Int32) : qx_Ct l G yX6_readBust cX6_readBust 5 none 6 130 [.ref (qx_ad G 53), .int kd] (va_up σ 53 (m_rw (σ 58) t q p True)) (qx_pv (va_up (va_up σ 60 (m_it (σ 60) (5 * m) kd (t_bd (σ 58) t N p) (t_bh (σ 58) t N p) (t_bA (σ 58) t N p) (t_bs (σ 58) t N p))) 53 (m_rw (σ 58) t (upd (upd q 14 (nI (m + 1))) 15 (nI (N + 1))) (t_b7p (σ 58) t N p) (t_b6 (σ 58) t N p)))) := by
  refine qx_ofV (lo := [(0, .ref (qx_ad G 53)), (1, .int kd)]) (by decide +kernel) (Nat.le_of_ble_eq_true rfl) rfl (fun Δ (C : qx_C G Δ cX6_readBust RX6 5 6 130) hret => ?_)
  have hle := t_b_le (r := σ 58) (N := N) hp
  refine qk_aloadn C dX6_readBust_0 1 rfl rfl 0 rfl ?_
  refine qk_aloadn C dX6_readBust_1 2 rfl rfl 0 rfl ?_
  refine qk_get C dX6_readBust_2 5 rfl qf_X6_287 53 (by decide) rfl rfl ?_
  refine qk_cast (show m_rw (σ 58) t q p True 15 = nI N from (m_rw_o (by omega)).trans eN) ?_
  refine qk_bipush C (nI 8) dX6_readBust_5 7 rfl rfl ?_
  have lp_15 : ∀ (x : Int32), ((¬ x = 0) = (N < 8)) → qx_K l G Δ (va_up σ 53 (m_rw (σ 58) t q p True)) 15 [(0, .ref (qx_ad G 53)), (1, .int kd)] [.int x, .ref (qx_ad G 53)] := by
    intro x hx
    refine qk_callV C dX6_readBust_15 18 rfl ql_X6_276 qc_X6_must 53 (by decide) rfl rfl (c_mM l G σ q t ht et hb p hp True x) rfl rfl (Nat.le_of_ble_eq_true rfl) ⟨(Nat.le_of_ble_eq_true rfl), (Nat.le_of_ble_eq_true rfl)⟩ (qx_Kv ?_)
    rw [true_and, hx]
    refine qk_aloadn C dX6_readBust_18 19 rfl rfl 0 rfl ?_
    refine qk_iconst C (0) dX6_readBust_19 20 rfl rfl ?_
    refine qk_sipush C (999) dX6_readBust_20 23 rfl rfl ?_
    refine qk_callV C dX6_readBust_23 26 rfl ql_X6_290 qc_X6_number 53 (by decide) rfl rfl (c_mN l G σ q t ht et hb (t_b1p (σ 58) t N p) (by omega) (N < 8) 999) rfl rfl (Nat.le_of_ble_eq_true rfl) ⟨(Nat.le_of_ble_eq_true rfl), (Nat.le_of_ble_eq_true rfl)⟩ (qx_Ki ?_)
    refine qk_istoren C dX6_readBust_26 27 rfl rfl (by decide) rfl ?_
    refine qk_aloadn C dX6_readBust_27 28 rfl rfl 1 rfl ?_
    refine qk_ldcwS C 7 (tx := "has") dX6_readBust_28 31 rfl (by decide) ?_
    refine qk_callV C dX6_readBust_31 34 rfl ql_X6_294 qc_X6_takesWord 53 (by decide) rfl rfl (c_mT l G σ q t ht et hb (t_b2p (σ 58) t N p) (by omega) (t_b2 (σ 58) t N p) 7 (by omega)) rfl rfl (Nat.le_of_ble_eq_true rfl) ⟨(Nat.le_of_ble_eq_true rfl), (Nat.le_of_ble_eq_true rfl)⟩ (qx_Ki ?_)
    have lp_49 : ∀ (x : Int32) (p4 : Nat) (o4 : Prop), (x = (t_bh (σ 58) t N p) ∧ p4 = (t_b4p (σ 58) t N p) ∧ o4 = (t_b4 (σ 58) t N p)) → qx_K l G Δ (va_up σ 53 (m_rw (σ 58) t q p4 o4)) 49 [(2, .int (t_bd (σ 58) t N p)), (0, .ref (qx_ad G 53)), (1, .int kd)] [.int x] := by
      intro x p4 o4 hx
      obtain ⟨rfl, rfl, rfl⟩ := hx
      refine qk_istoren C dX6_readBust_49 50 rfl rfl (by decide) rfl ?_
      refine qk_aloadn C dX6_readBust_50 51 rfl rfl 2 rfl ?_
      refine qk_ldcwS C 8 (tx := "at") dX6_readBust_51 54 rfl (by decide) ?_
      refine qk_callV C dX6_readBust_54 57 rfl ql_X6_294 qc_X6_takesWord 53 (by decide) rfl rfl (c_mT l G σ q t ht et hb (t_b4p (σ 58) t N p) (by omega) (t_b4 (σ 58) t N p) 8 (by omega)) rfl rfl (Nat.le_of_ble_eq_true rfl) ⟨(Nat.le_of_ble_eq_true rfl), (Nat.le_of_ble_eq_true rfl)⟩ (qx_Ki ?_)
      have lp_71 : ∀ (x : Int32) (p6 : Nat) (o6 : Prop), (x = (t_bA (σ 58) t N p) ∧ p6 = (t_b6p (σ 58) t N p) ∧ o6 = (t_b6 (σ 58) t N p)) → qx_K l G Δ (va_up σ 53 (m_rw (σ 58) t q p6 o6)) 71 [(3, .int (t_bh (σ 58) t N p)), (2, .int (t_bd (σ 58) t N p)), (0, .ref (qx_ad G 53)), (1, .int kd)] [.int x] := by
        intro x p6 o6 hx
        obtain ⟨rfl, rfl, rfl⟩ := hx
        refine qk_istore C dX6_readBust_71 73 rfl (by decide) rfl ?_
        refine qk_aloadn C dX6_readBust_73 74 rfl rfl 3 rfl ?_
        refine qk_iloadn C dX6_readBust_74 75 rfl rfl 4 rfl ?_
        refine qk_iloadn C dX6_readBust_75 76 rfl rfl 2 rfl ?_
        refine qk_iloadn C dX6_readBust_76 77 rfl rfl 1 rfl ?_
        refine qk_iload C dX6_readBust_77 79 rfl 0 rfl ?_
        refine qk_aloadn C dX6_readBust_79 80 rfl rfl 3 rfl ?_
        refine qk_ldcwS C 9 (tx := "sealed") dX6_readBust_80 83 rfl (by decide) ?_
        refine qk_callV C dX6_readBust_83 86 rfl ql_X6_294 qc_X6_takesWord 53 (by decide) rfl rfl (c_mT l G σ q t ht et hb (t_b6p (σ 58) t N p) (by omega) (t_b6 (σ 58) t N p) 9 (by omega)) rfl rfl (Nat.le_of_ble_eq_true rfl) ⟨(Nat.le_of_ble_eq_true rfl), (Nat.le_of_ble_eq_true rfl)⟩ (qx_Ki ?_)
        have lp_94 : ∀ (x : Int32), (x = (t_bs (σ 58) t N p)) → qx_K l G Δ (va_up σ 53 (m_rw (σ 58) t q (t_b7p (σ 58) t N p) (t_b6 (σ 58) t N p))) 94 [(4, .int (t_bA (σ 58) t N p)), (3, .int (t_bh (σ 58) t N p)), (2, .int (t_bd (σ 58) t N p)), (0, .ref (qx_ad G 53)), (1, .int kd)] [.int x, .int (t_bA (σ 58) t N p), .int (t_bh (σ 58) t N p), .int (t_bd (σ 58) t N p), .int kd, .ref (qx_ad G 53)] := by
          intro x hx
          subst hx
          refine qk_callV C dX6_readBust_94 97 rfl ql_X6_301 qc_X6_addItem 53 (by decide) rfl rfl (c_mA l G σ q t (t_b7p (σ 58) t N p) (t_b6 (σ 58) t N p) m hm em _ _ _ _ _) rfl rfl (Nat.le_of_ble_eq_true rfl) ⟨(Nat.le_of_ble_eq_true rfl), (Nat.le_of_ble_eq_true rfl)⟩ (qx_Kv ?_)
          refine qk_aloadn C dX6_readBust_97 98 rfl rfl 3 rfl ?_
          refine qk_dup C dX6_readBust_98 99 rfl rfl ?_
          refine qk_get C dX6_readBust_99 102 rfl qf_X6_287 53 (by decide) rfl rfl ?_
          refine qk_cast (show m_rw (σ 58) t (upd q 14 (nI (m + 1))) (t_b7p (σ 58) t N p) (t_b6 (σ 58) t N p) 15 = nI N from (m_rw_o (by omega)).trans ((upd_ne (by omega)).trans eN)) ?_
          refine qk_iconst C (1) dX6_readBust_102 103 rfl rfl ?_
          refine qk_iadd C dX6_readBust_103 104 rfl ?_
          refine qk_cast (nI_1 _) ?_
          refine qk_put C .int dX6_readBust_104 107 rfl qf_X6_287 53 (by decide) rfl (fun q hq => by cases hq; rfl) rfl rfl (Nat.le_of_ble_eq_true rfl) rfl ?_
          refine qk_sg _ (m_w53.trans (congrArg (va_up _ 53) (m_rwU (by omega)))) ?_
          exact hret _ _ _ dX6_readBust_107 ⟨rfl, rfl⟩
        refine qk_if_eqB C dX6_readBust_86 93 rfl 89 rfl (fun c_86 => ?_) (fun c_86 => ?_)
        · refine qk_iconst C (0) dX6_readBust_93 94 rfl rfl ?_
          exact lp_94 _ (tif_f c_86).symm
        · refine qk_iconst C (1) dX6_readBust_89 90 rfl rfl ?_
          refine qk_goto C dX6_readBust_90 94 rfl ?_
          exact lp_94 _ (tif_t c_86).symm
      refine qk_if_eqB C dX6_readBust_57 70 rfl 60 rfl (fun c_57 => ?_) (fun c_57 => ?_)
      · refine qk_iconst C (0) dX6_readBust_70 71 rfl rfl ?_
        exact lp_71 _ _ _ (t_optN (m := 15) c_57)
      · refine qk_aloadn C dX6_readBust_60 61 rfl rfl 2 rfl ?_
        refine qk_iconst C (0) dX6_readBust_61 62 rfl rfl ?_
        refine qk_bipush C (15) dX6_readBust_62 64 rfl rfl ?_
        refine qk_callV C dX6_readBust_64 67 rfl ql_X6_290 qc_X6_number 53 (by decide) rfl rfl (c_mN l G σ q t ht et hb (t_av (σ 58) t ((t_b4 (σ 58) t N p) ∧ t_w (σ 58) t 8 (t_b4p (σ 58) t N p)) (t_b4p (σ 58) t N p)) (t_av_le (show (t_b4p (σ 58) t N p) ≤ t by omega)).2 (t_b4 (σ 58) t N p) 15) rfl rfl (Nat.le_of_ble_eq_true rfl) ⟨(Nat.le_of_ble_eq_true rfl), (Nat.le_of_ble_eq_true rfl)⟩ (qx_Ki ?_)
        refine qk_goto C dX6_readBust_67 71 rfl ?_
        exact lp_71 _ _ _ (t_optY (d := 0) (m := 15) c_57)
    refine qk_if_eqB C dX6_readBust_34 48 rfl 37 rfl (fun c_34 => ?_) (fun c_34 => ?_)
    · refine qk_iconst C (3) dX6_readBust_48 49 rfl rfl ?_
      exact lp_49 _ _ _ (t_optN (m := 4095) c_34)
    · refine qk_aloadn C dX6_readBust_37 38 rfl rfl 1 rfl ?_
      refine qk_iconst C (0) dX6_readBust_38 39 rfl rfl ?_
      refine qk_sipush C (4095) dX6_readBust_39 42 rfl rfl ?_
      refine qk_callV C dX6_readBust_42 45 rfl ql_X6_290 qc_X6_number 53 (by decide) rfl rfl (c_mN l G σ q t ht et hb (t_av (σ 58) t ((t_b2 (σ 58) t N p) ∧ t_w (σ 58) t 7 (t_b2p (σ 58) t N p)) (t_b2p (σ 58) t N p)) (t_av_le (show (t_b2p (σ 58) t N p) ≤ t by omega)).2 (t_b2 (σ 58) t N p) 4095) rfl rfl (Nat.le_of_ble_eq_true rfl) ⟨(Nat.le_of_ble_eq_true rfl), (Nat.le_of_ble_eq_true rfl)⟩ (qx_Ki ?_)
      refine qk_goto C dX6_readBust_45 49 rfl ?_
      exact lp_49 _ _ _ (t_optY (d := 3) (m := 4095) c_34)
  refine qk_icmp_ge C dX6_readBust_7 14 rfl 10 rfl (fun c_7 => ?_) (fun c_7 => ?_)
  · have h8 : 8 ≤ N := (nI_leI (by omega) (by omega)).mp c_7
    refine qk_iconst C (0) dX6_readBust_14 15 rfl rfl ?_
    exact lp_15 0 (propext ⟨fun h => absurd rfl h, fun h => absurd h (by omega)⟩)
  · have h8 : N < 8 := Nat.not_le.mp (fun q => c_7 (nI_le q (by omega)))
    refine qk_iconst C (1) dX6_readBust_10 11 rfl rfl ?_
    refine qk_goto C dX6_readBust_11 15 rfl ?_
    exact lp_15 1 (propext ⟨fun _ => h8, fun _ => by decide⟩)

theorem t_kd_ex {r : Nat → Int32} {t p n : Nat} : (∃ k, k < n ∧ t_w r t k p ∧ t_kd r t p n = nI k) ∨ (t_kd r t p n = -1 ∧ ∀ k, k < n → ¬ t_w r t k p) := by
  induction n with
  | zero => exact Or.inr ⟨rfl, fun k hk => by omega⟩
  | succ n ih =>
    by_cases c : t_w r t n p
    · exact Or.inl ⟨n, by omega, c, tif_t c⟩
    · have e : t_kd r t p (n + 1) = t_kd r t p n := tif_f c
      rcases ih with ⟨k, h1, h2, h3⟩ | ⟨h1, h2⟩
      · exact Or.inl ⟨k, by omega, h2, e.trans h3⟩
      · refine Or.inr ⟨e.trans h1, fun k hk q => ?_⟩
        rcases Nat.lt_or_ge k n with h | h
        · exact h2 k h q
        · exact c (by rw [← show k = n by omega]; exact q)
/-- what the reading of an item makes of the model's rows -/
def mIt (r : Nat → Int32) (t : Nat) (σ : qx_Sg) (q : Nat → Int32) (N m p : Nat) : Option Value → qx_Sg → Prop := fun v σ' => v = none ∧ ∃ R q', σ' = va_up (va_up σ 60 R) 53 (m_rw r t q' (t_ip r t N p) (t_iP r t N p)) ∧ (∀ j, ¬ j = 14 → ¬ j = 15 → q' j = q j) ∧
  (t_iP r t N p → R = m_it (σ 60) (5 * m) (t_it r t N p).1 (t_it r t N p).2.1 (t_it r t N p).2.2.1 (t_it r t N p).2.2.2.1 (t_it r t N p).2.2.2.2 ∧ q' 14 = nI (m + 1) ∧ ∀ u, q' 15 = nI (t_ap (t_it r t N p) N u).1)
theorem qx_KI {l : Launch} {G : qx_G} {Δ : qx_T} {lo : List (Nat × Value)} {st : List Value} {pc' : Nat} {r : Nat → Int32} {t N m p : Nat} {σ : qx_Sg} {q : Nat → Int32} (K : ∀ R q', (∀ j, ¬ j = 14 → ¬ j = 15 → q' j = q j) → (t_iP r t N p → R = m_it (σ 60) (5 * m) (t_it r t N p).1 (t_it r t N p).2.1 (t_it r t N p).2.2.1 (t_it r t N p).2.2.2.1 (t_it r t N p).2.2.2.2 ∧ q' 14 = nI (m + 1) ∧ ∀ u, q' 15 = nI (t_ap (t_it r t N p) N u).1) → qx_K l G Δ (va_up (va_up σ 60 R) 53 (m_rw r t q' (t_ip r t N p) (t_iP r t N p))) pc' lo st) : ∀ v σ', mIt r t σ q N m p v σ' → qx_K l G Δ σ' pc' lo (v.toList ++ st) := by
  rintro v σ' ⟨rfl, R, q', rfl, h1, h2⟩
  exact K R q' h1 h2
theorem t_iw0 {r : Nat → Int32} {t i p : Nat} (c : ¬ (True ∧ t_w r t i p)) : ¬ t_w r t i p := fun z => c ⟨trivial, z⟩
theorem c_X6_readItem (l : Launch) (G : qx_G) (σ : qx_Sg) (q : Nat → Int32) (t : Nat) (ht : t ≤ 120) (et : q 6 = nI t) (hb : t_by (σ 58) t) (p : Nat) (hp : p ≤ t) (N : Nat) (hN : N ≤ 8) (eN : q 15 = nI N) (m : Nat) (hm : m < 120) (em : q 14 = nI m) : qx_Ct l G yX6_readItem cX6_readItem 3 none 7 154 [.ref (qx_ad G 53)] (va_up σ 53 (m_rw (σ 58) t q p True)) (mIt (σ 58) t σ q N m p) := by
  refine qx_ofV (lo := [(0, .ref (qx_ad G 53))]) (by decide +kernel) (Nat.le_of_ble_eq_true rfl) rfl (fun Δ (C : qx_C G Δ cX6_readItem RX6 3 7 154) hret => ?_)
  have h1p := (tE_le (r := σ 58) hp).2
  refine qk_iconst C ((-1)) dX6_readItem_0 1 rfl rfl ?_
  refine qk_istoren C dX6_readItem_1 2 rfl rfl (by decide) rfl ?_
  refine qk_iconst C (nI 0) dX6_readItem_2 3 rfl rfl ?_
  refine qk_istoren C dX6_readItem_3 4 rfl rfl (by decide) rfl ?_
  have lp_4 : ∀ (n_4 : Nat) (k : Nat), (k ≤ 7) → 7 - k < n_4 → qx_K l G Δ (va_up σ 53 (m_rw (σ 58) t q p True)) 4 [(2, .int (nI k)), (1, .int (t_kd (σ 58) t p k)), (0, .ref (qx_ad G 53))] [] := by
    intro n_4
    induction n_4 with
    | zero => intro _ _ h9; exact absurd h9 (Nat.not_lt_zero _)
    | succ n_4 ih_4 =>
      intro k hk hm_4
      refine qk_iloadn C dX6_readItem_4 5 rfl rfl 0 rfl ?_
      refine qk_aloadn C dX6_readItem_5 6 rfl rfl 2 rfl ?_
      refine qk_get C dX6_readItem_6 9 rfl qf_X6_41 53 (by decide) rfl rfl ?_
      refine qk_alen C dX6_readItem_9 10 rfl 59 (by decide) 3 rfl rfl (nI 7) rfl ?_
      refine qk_icmp_ge C dX6_readItem_10 38 rfl 13 rfl (fun c_10 => ?_) (fun c_10 => ?_)
      · have h7 : 7 ≤ k := (nI_leI (by omega) (by omega)).mp c_10
        have hk7 : k = 7 := by omega
        subst hk7
        rcases t_kd_ex (r := σ 58) (t := t) (p := p) (n := 7) with ⟨k, hk, hw, ek⟩ | ⟨ek, hn⟩
        · refine qk_iloadn C dX6_readItem_38 39 rfl rfl 1 rfl ?_
          refine qk_cast (ek) ?_
          refine qk_if_lt C dX6_readItem_39 50 rfl 42 rfl (fun c_39 => absurd c_39 (nI_pos (by omega))) (fun c_39 => ?_)
          refine qk_aloadn C dX6_readItem_42 43 rfl rfl 2 rfl ?_
          refine qk_iloadn C dX6_readItem_43 44 rfl rfl 1 rfl ?_
          refine qk_cast (ek) ?_
          refine qk_callV C dX6_readItem_44 47 rfl ql_X6_305 qc_X6_readBust 53 (by decide) rfl rfl (c_X6_readBust l G σ q t ht et hb p hp N hN eN m hm em (nI k)) rfl rfl (Nat.le_of_ble_eq_true rfl) ⟨(Nat.le_of_ble_eq_true rfl), (Nat.le_of_ble_eq_true rfl)⟩ (qx_Kv ?_)
          refine qk_goto C dX6_readItem_47 128 rfl ?_
          exact hret _ _ _ dX6_readItem_128 ⟨rfl, ⟨_, _, by rw [(t_iK hk hw).1, (t_iK hk hw).2.1], fun j h1 h2 => (upd_ne h2).trans (upd_ne h1), fun _ => by rw [(t_iK hk hw).2.2]; exact ⟨rfl, (upd_ne (by omega)).trans upd_eq, fun u => by rw [t_apK hk]; exact upd_eq⟩⟩⟩
        · refine qk_iloadn C dX6_readItem_38 39 rfl rfl 1 rfl ?_
          refine qk_cast (ek) ?_
          refine qk_if_lt C dX6_readItem_39 50 rfl 42 rfl (fun _ => ?_) (fun c => absurd (by decide) c)
          refine qk_aloadn C dX6_readItem_50 51 rfl rfl 2 rfl ?_
          refine qk_ldcwS C 10 (tx := "bequest") dX6_readItem_51 54 rfl (by decide) ?_
          refine qk_callV C dX6_readItem_54 57 rfl ql_X6_294 qc_X6_takesWord 53 (by decide) rfl rfl (c_mT l G σ q t ht et hb p hp True 10 (by omega)) rfl rfl (Nat.le_of_ble_eq_true rfl) ⟨(Nat.le_of_ble_eq_true rfl), (Nat.le_of_ble_eq_true rfl)⟩ (qx_Ki ?_)
          refine qk_if_eqB C dX6_readItem_57 86 rfl 60 rfl (fun c_57 => ?_) (fun c_57 => ?_)
          · have n10 : ¬ t_w (σ 58) t 10 p := t_iw0 c_57
            rw [t_av_f c_57]
            refine qk_aloadn C dX6_readItem_86 87 rfl rfl 2 rfl ?_
            refine qk_ldcwS C 11 (tx := "store") dX6_readItem_87 90 rfl (by decide) ?_
            refine qk_callV C dX6_readItem_90 93 rfl ql_X6_294 qc_X6_takesWord 53 (by decide) rfl rfl (c_mT l G σ q t ht et hb p hp True 11 (by omega)) rfl rfl (Nat.le_of_ble_eq_true rfl) ⟨(Nat.le_of_ble_eq_true rfl), (Nat.le_of_ble_eq_true rfl)⟩ (qx_Ki ?_)
            refine qk_if_eqB C dX6_readItem_93 123 rfl 96 rfl (fun c_93 => ?_) (fun c_93 => ?_)
            · have n11 : ¬ t_w (σ 58) t 11 p := t_iw0 c_93
              have h0 := t_i0 (N := N) n10 n11 hn
              have hF : ¬ (True ∧ ¬ (0 : Int32) = 0) := fun z => z.2 rfl
              rw [t_av_f c_93]
              refine qk_aloadn C dX6_readItem_123 124 rfl rfl 2 rfl ?_
              refine qk_iconst C (0) dX6_readItem_124 125 rfl rfl ?_
              refine qk_callV C dX6_readItem_125 128 rfl ql_X6_276 qc_X6_must 53 (by decide) rfl rfl (c_mM l G σ q t ht et hb p hp True 0) rfl rfl (Nat.le_of_ble_eq_true rfl) ⟨(Nat.le_of_ble_eq_true rfl), (Nat.le_of_ble_eq_true rfl)⟩ (qx_Kv ?_)
              exact hret _ _ _ dX6_readItem_128 ⟨rfl, ⟨σ 60, q, by rw [m_upid, h0.2, t_av_f hF, show (True ∧ ¬ (0 : Int32) = 0) = t_iP (σ 58) t N p from propext ⟨fun z => absurd z hF, fun z => absurd z h0.1⟩], fun j _ _ => rfl, fun z => absurd z h0.1⟩⟩
            · rw [t_av_t c_93]
              refine qk_aloadn C dX6_readItem_96 97 rfl rfl 2 rfl ?_
              refine qk_iconst C (0) dX6_readItem_97 98 rfl rfl ?_
              refine qk_bipush C (11) dX6_readItem_98 100 rfl rfl ?_
              refine qk_callV C dX6_readItem_100 103 rfl ql_X6_290 qc_X6_number 53 (by decide) rfl rfl (c_mN l G σ q t ht et hb (tE (σ 58) t p) h1p True 11) rfl rfl (Nat.le_of_ble_eq_true rfl) ⟨(Nat.le_of_ble_eq_true rfl), (Nat.le_of_ble_eq_true rfl)⟩ (qx_Ki ?_)
              rw [true_and]
              refine qk_istoren C dX6_readItem_103 104 rfl rfl (by decide) rfl ?_
              refine qk_aloadn C dX6_readItem_104 105 rfl rfl 2 rfl ?_
              refine qk_bipush C (11) dX6_readItem_105 107 rfl rfl ?_
              refine qk_iloadn C dX6_readItem_107 108 rfl rfl 0 rfl ?_
              refine qk_aloadn C dX6_readItem_108 109 rfl rfl 2 rfl ?_
              refine qk_iconst C (0) dX6_readItem_109 110 rfl rfl ?_
              refine qk_bipush C (99) dX6_readItem_110 112 rfl rfl ?_
              refine qk_callV C dX6_readItem_112 115 rfl ql_X6_290 qc_X6_number 53 (by decide) rfl rfl (c_mN l G σ q t ht et hb (t_2q (σ 58) t 11 p) (t_av_le h1p).2 (t_nu (σ 58) t 11 (tE (σ 58) t p)) 99) rfl rfl (Nat.le_of_ble_eq_true rfl) ⟨(Nat.le_of_ble_eq_true rfl), (Nat.le_of_ble_eq_true rfl)⟩ (qx_Ki ?_)
              refine qk_iconst C (0) dX6_readItem_115 116 rfl rfl ?_
              refine qk_iconst C (0) dX6_readItem_116 117 rfl rfl ?_
              refine qk_callV C dX6_readItem_117 120 rfl ql_X6_301 qc_X6_addItem 53 (by decide) rfl rfl (c_mA l G σ q t (t_2p (σ 58) t 11 99 p) (t_2P (σ 58) t 11 99 p) m hm em _ _ _ _ _) rfl rfl (Nat.le_of_ble_eq_true rfl) ⟨(Nat.le_of_ble_eq_true rfl), (Nat.le_of_ble_eq_true rfl)⟩ (qx_Kv ?_)
              refine qk_goto C dX6_readItem_120 128 rfl ?_
              exact hret _ _ _ dX6_readItem_128 ⟨rfl, ⟨_, _, by rw [(t_iS c_93.2).1, (t_iS c_93.2).2.1] <;> rfl, fun j h1 h2 => upd_ne h1, fun _ => by rw [(t_iS c_93.2).2.2]; exact ⟨rfl, upd_eq, fun u => (upd_ne (by omega)).trans eN⟩⟩⟩
          · rw [t_av_t c_57]
            refine qk_aloadn C dX6_readItem_60 61 rfl rfl 2 rfl ?_
            refine qk_iconst C (0) dX6_readItem_61 62 rfl rfl ?_
            refine qk_iconst C (5) dX6_readItem_62 63 rfl rfl ?_
            refine qk_callV C dX6_readItem_63 66 rfl ql_X6_290 qc_X6_number 53 (by decide) rfl rfl (c_mN l G σ q t ht et hb (tE (σ 58) t p) h1p True 5) rfl rfl (Nat.le_of_ble_eq_true rfl) ⟨(Nat.le_of_ble_eq_true rfl), (Nat.le_of_ble_eq_true rfl)⟩ (qx_Ki ?_)
            rw [true_and]
            refine qk_istoren C dX6_readItem_66 67 rfl rfl (by decide) rfl ?_
            refine qk_aloadn C dX6_readItem_67 68 rfl rfl 2 rfl ?_
            refine qk_bipush C (10) dX6_readItem_68 70 rfl rfl ?_
            refine qk_iloadn C dX6_readItem_70 71 rfl rfl 0 rfl ?_
            refine qk_aloadn C dX6_readItem_71 72 rfl rfl 2 rfl ?_
            refine qk_iconst C (0) dX6_readItem_72 73 rfl rfl ?_
            refine qk_bipush C (12) dX6_readItem_73 75 rfl rfl ?_
            refine qk_callV C dX6_readItem_75 78 rfl ql_X6_290 qc_X6_number 53 (by decide) rfl rfl (c_mN l G σ q t ht et hb (t_2q (σ 58) t 5 p) (t_av_le h1p).2 (t_nu (σ 58) t 5 (tE (σ 58) t p)) 12) rfl rfl (Nat.le_of_ble_eq_true rfl) ⟨(Nat.le_of_ble_eq_true rfl), (Nat.le_of_ble_eq_true rfl)⟩ (qx_Ki ?_)
            refine qk_iconst C (0) dX6_readItem_78 79 rfl rfl ?_
            refine qk_iconst C (0) dX6_readItem_79 80 rfl rfl ?_
            refine qk_callV C dX6_readItem_80 83 rfl ql_X6_301 qc_X6_addItem 53 (by decide) rfl rfl (c_mA l G σ q t (t_2p (σ 58) t 5 12 p) (t_2P (σ 58) t 5 12 p) m hm em _ _ _ _ _) rfl rfl (Nat.le_of_ble_eq_true rfl) ⟨(Nat.le_of_ble_eq_true rfl), (Nat.le_of_ble_eq_true rfl)⟩ (qx_Kv ?_)
            refine qk_goto C dX6_readItem_83 128 rfl ?_
            exact hret _ _ _ dX6_readItem_128 ⟨rfl, ⟨_, _, by rw [(t_iB c_57.2).1, (t_iB c_57.2).2.1] <;> rfl, fun j h1 h2 => upd_ne h1, fun _ => by rw [(t_iB c_57.2).2.2]; exact ⟨rfl, upd_eq, fun u => (upd_ne (by omega)).trans eN⟩⟩⟩
      · have h7 : k < 7 := Nat.not_le.mp (fun q => c_10 (nI_le q (by omega)))
        refine qk_aloadn C dX6_readItem_13 14 rfl rfl 2 rfl ?_
        refine qk_aloadn C dX6_readItem_14 15 rfl rfl 2 rfl ?_
        refine qk_get C dX6_readItem_15 18 rfl qf_X6_41 53 (by decide) rfl rfl ?_
        refine qk_iloadn C dX6_readItem_18 19 rfl rfl 0 rfl ?_
        refine qk_aald C dX6_readItem_19 20 rfl 59 (by decide) 3 rfl rfl (k) rfl h7 (by decide) rfl ?_
        refine qk_callV C dX6_readItem_20 23 rfl ql_X6_283 qc_X6_isWord 53 (by decide) rfl rfl (c_mW l G σ q t ht p hp True k (by omega)) rfl rfl (Nat.le_of_ble_eq_true rfl) ⟨(Nat.le_of_ble_eq_true rfl), (Nat.le_of_ble_eq_true rfl)⟩ (qx_Ki ?_)
        refine qk_if_eqB C dX6_readItem_23 30 rfl 26 rfl (fun c_23 => ?_) (fun c_23 => ?_)
        · refine qk_iloadn C dX6_readItem_30 31 rfl rfl 1 rfl ?_
          refine qk_cast (show _ = t_kd (σ 58) t p (k + 1) from (tif_f c_23).symm) ?_
          refine qk_istoren C dX6_readItem_31 32 rfl rfl (by decide) rfl ?_
          refine qk_iinc C (nI (k + 1)) dX6_readItem_32 35 rfl 1 rfl (nI_1 k) (by decide) rfl ?_
          refine qk_goto C dX6_readItem_35 4 rfl ?_
          exact ih_4 (k + 1) (by omega) (by omega)
        · refine qk_iloadn C dX6_readItem_26 27 rfl rfl 0 rfl ?_
          refine qk_cast (show nI k = t_kd (σ 58) t p (k + 1) from (tif_t c_23).symm) ?_
          refine qk_goto C dX6_readItem_27 31 rfl ?_
          refine qk_istoren C dX6_readItem_31 32 rfl rfl (by decide) rfl ?_
          refine qk_iinc C (nI (k + 1)) dX6_readItem_32 35 rfl 1 rfl (nI_1 k) (by decide) rfl ?_
          refine qk_goto C dX6_readItem_35 4 rfl ?_
          exact ih_4 (k + 1) (by omega) (by omega)
  exact lp_4 _ 0 (by omega) (Nat.lt_succ_self _)

