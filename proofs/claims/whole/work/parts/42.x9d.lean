/-! the model reads the text: the items that it keeps, and what they make of the row -/
def t_im (R : Nat → Int32) (k : Nat) : tI := (R (5 * k), R (5 * k + 1), R (5 * k + 2), R (5 * k + 3), R (5 * k + 4))
def t_fo (R : Nat → Int32) (N : Nat) (w : Nat → Int32) : Nat → Nat × (Nat → Int32)
  | 0 => (N, w)
  | k + 1 => t_ap (t_im R k) (t_fo R N w k).1 (t_fo R N w k).2
def t_okI (it : tI) (N : Nat) : Prop := (it.1 = 10 ∧ ∃ i, i < 6 ∧ it.2.1 = nI i) ∨ (it.1 = 11 ∧ ∃ i, i < 12 ∧ it.2.1 = nI i) ∨ (∃ kd, kd ≤ 6 ∧ it.1 = nI kd ∧ N < 8)
def tIv (R : Nat → Int32) (m N : Nat) (w : Nat → Int32) : Prop := (∀ k, k < m → t_okI (t_im R k) (t_fo R N w k).1) ∧ ∀ k, k ≤ m → qv_ok (t_fo R N w k).2 (t_fo R N w k).1
theorem m_it_o {R : Nat → Int32} {k j : Nat} {a b c d e : Int32} (h : j < k) : m_it R k a b c d e j = R j := by
  unfold m_it
  rw [upd_ne (by omega), upd_ne (by omega), upd_ne (by omega), upd_ne (by omega), upd_ne (by omega)]
theorem t_im_o {R : Nat → Int32} {m k : Nat} {a b c d e : Int32} (h : k < m) : t_im (m_it R (5 * m) a b c d e) k = t_im R k := by
  unfold t_im
  rw [m_it_o (by omega), m_it_o (by omega), m_it_o (by omega), m_it_o (by omega), m_it_o (by omega)]
theorem t_im_n {R : Nat → Int32} {m : Nat} {it : tI} : t_im (m_it R (5 * m) it.1 it.2.1 it.2.2.1 it.2.2.2.1 it.2.2.2.2) m = it := by
  obtain ⟨a, b, c, d, e⟩ := it
  have h0 : m_it R (5 * m) a b c d e (5 * m) = a := by unfold m_it; rw [upd_ne (by omega), upd_ne (by omega), upd_ne (by omega), upd_ne (by omega), upd_eq]
  have h1 : m_it R (5 * m) a b c d e (5 * m + 1) = b := by unfold m_it; rw [upd_ne (by omega), upd_ne (by omega), upd_ne (by omega), upd_eq]
  have h2 : m_it R (5 * m) a b c d e (5 * m + 2) = c := by unfold m_it; rw [upd_ne (by omega), upd_ne (by omega), upd_eq]
  have h3 : m_it R (5 * m) a b c d e (5 * m + 3) = d := by unfold m_it; rw [upd_ne (by omega), upd_eq]
  have h4 : m_it R (5 * m) a b c d e (5 * m + 4) = e := by unfold m_it; rw [upd_eq]
  show (m_it R (5 * m) a b c d e (5 * m), m_it R (5 * m) a b c d e (5 * m + 1), m_it R (5 * m) a b c d e (5 * m + 2), m_it R (5 * m) a b c d e (5 * m + 3), m_it R (5 * m) a b c d e (5 * m + 4)) = (a, b, c, d, e)
  rw [h0, h1, h2, h3, h4]
theorem t_fo_o {R : Nat → Int32} {m N : Nat} {w : Nat → Int32} {a b c d e : Int32} : ∀ k, k ≤ m → t_fo (m_it R (5 * m) a b c d e) N w k = t_fo R N w k := by
  intro k
  induction k with
  | zero => intro _; rfl
  | succ k ih =>
    intro h
    show t_ap (t_im (m_it R (5 * m) a b c d e) k) (t_fo (m_it R (5 * m) a b c d e) N w k).1 (t_fo (m_it R (5 * m) a b c d e) N w k).2 = t_ap (t_im R k) (t_fo R N w k).1 (t_fo R N w k).2
    rw [t_im_o (by omega), ih (by omega)]
theorem t_it_ok {r : Nat → Int32} {t N p : Nat} (h : t_iP r t N p) : t_okI (t_it r t N p) N := by
  have hI0 := h
  rcases h with ⟨c, -⟩ | ⟨c, -⟩ | ⟨⟨k, hk, c⟩, -⟩
  · rw [(t_iB c).1] at hI0
    obtain ⟨i, hi, ei⟩ := t_nu_ex 5 rfl (by omega) hI0.1
    rw [(t_iB c).2.2]
    exact Or.inl ⟨rfl, i, by omega, ei⟩
  · rw [(t_iS c).1] at hI0
    obtain ⟨i, hi, ei⟩ := t_nu_ex 11 rfl (by omega) hI0.1
    rw [(t_iS c).2.2]
    exact Or.inr (Or.inl ⟨rfl, i, by omega, ei⟩)
  · rw [(t_iK hk c).1] at hI0
    rw [(t_iK hk c).2.2]
    exact Or.inr (Or.inr ⟨k, by omega, rfl, hI0.1.1.1⟩)
theorem tIv_0 {R : Nat → Int32} {N : Nat} {w : Nat → Int32} (h : qv_ok w N) : tIv R 0 N w := ⟨fun k hk => by omega, fun k hk => by rw [show k = 0 by omega]; exact h⟩
theorem tIv_s {r R : Nat → Int32} {t m N N1 p : Nat} {w u1 : Nat → Int32} (h : tIv R m N w) (e : t_fo R N w m = (N1, u1)) (hI : qv_ok u1 N1) (hP : t_iP r t N1 p) :
    tIv (m_it R (5 * m) (t_it r t N1 p).1 (t_it r t N1 p).2.1 (t_it r t N1 p).2.2.1 (t_it r t N1 p).2.2.2.1 (t_it r t N1 p).2.2.2.2) (m + 1) N w ∧ t_fo (m_it R (5 * m) (t_it r t N1 p).1 (t_it r t N1 p).2.1 (t_it r t N1 p).2.2.1 (t_it r t N1 p).2.2.2.1 (t_it r t N1 p).2.2.2.2) N w (m + 1) = t_ap (t_it r t N1 p) N1 u1 := by
  have e2 : t_fo (m_it R (5 * m) (t_it r t N1 p).1 (t_it r t N1 p).2.1 (t_it r t N1 p).2.2.1 (t_it r t N1 p).2.2.2.1 (t_it r t N1 p).2.2.2.2) N w (m + 1) = t_ap (t_it r t N1 p) N1 u1 := by
    show t_ap (t_im (m_it R (5 * m) _ _ _ _ _) m) (t_fo (m_it R (5 * m) _ _ _ _ _) N w m).1 (t_fo (m_it R (5 * m) _ _ _ _ _) N w m).2 = _
    rw [t_im_n, t_fo_o m (Nat.le_refl _), e]
  refine ⟨⟨fun k hk => ?_, fun k hk => ?_⟩, e2⟩
  · rw [t_fo_o k (by omega)]
    rcases Nat.lt_or_ge k m with q | q
    · rw [t_im_o q]; exact h.1 k q
    · rw [show k = m by omega, t_im_n, e]; exact t_it_ok hP
  · rcases Nat.lt_or_ge k (m + 1) with q | q
    · rw [t_fo_o k (by omega)]; exact h.2 k (by omega)
    · rw [show k = m + 1 by omega, e2]; exact qv_it hI hP
theorem t_tx_ok {r : Nat → Int32} {t N0 : Nat} {w0 : Nat → Int32} (h0 : qv_ok w0 N0) : ∀ f m N (w : Nat → Int32) p, qv_ok w N → qv_ok (t_tx r t N0 w0 f m N w p).2.2 (t_tx r t N0 w0 f m N w p).2.1 := by
  intro f
  induction f with
  | zero => intro m N w p h; exact h0
  | succ f ih =>
    intro m N w p h
    by_cases c : t_iP r t N p
    · by_cases c0 : tK r t (t_ip r t N p) = 0
      · rw [t_tx_a c c0]; exact qv_it h c
      · by_cases c3 : tK r t (t_ip r t N p) = 3
        · rw [t_tx_b c c3]; exact ih _ _ _ _ (qv_it h c)
        · rw [t_tx_c c c0 c3]; exact h0
    · rw [t_tx_d c]; exact h0
theorem t_foA {R : Nat → Int32} {k N i : Nat} {w : Nat → Int32} (h0 : (t_im R k).1 = 10) (hi : i < 6) (h1 : (t_im R k).2.1 = nI i) : upd (t_fo R N w k).2 (4 + i) (R (5 * k + 2)) = (t_fo R N w (k + 1)).2 := by
  show _ = (t_ap (t_im R k) (t_fo R N w k).1 (t_fo R N w k).2).2
  unfold t_ap
  rw [if_pos h0, h1, zn_nI (by omega)]
  rfl
theorem t_foB {R : Nat → Int32} {k N i : Nat} {w : Nat → Int32} (h0 : (t_im R k).1 = 11) (hi : i < 12) (h1 : (t_im R k).2.1 = nI i) : upd (t_fo R N w k).2 (10 + i) (R (5 * k + 2)) = (t_fo R N w (k + 1)).2 := by
  show _ = (t_ap (t_im R k) (t_fo R N w k).1 (t_fo R N w k).2).2
  unfold t_ap
  rw [if_neg (by rw [h0]; decide), if_pos h0, h1, zn_nI (by omega)]
  rfl
theorem t_foC {R : Nat → Int32} {k N kd : Nat} {w : Nat → Int32} (h0 : (t_im R k).1 = nI kd) (hkd : kd ≤ 6) : upd (upd (upd (z_cm (t_fo R N w k).2 (t_fo R N w k).1 (nI kd) (R (5 * k + 1))) (32 + 7 * (t_fo R N w k).1 + 2) (R (5 * k + 2))) (32 + 7 * (t_fo R N w k).1 + 3) (R (5 * k + 3))) (32 + 7 * (t_fo R N w k).1 + 5) (R (5 * k + 4)) = (t_fo R N w (k + 1)).2 := by
  show _ = (t_ap (t_im R k) (t_fo R N w k).1 (t_fo R N w k).2).2
  have e : t_im R k = (nI kd, R (5 * k + 1), R (5 * k + 2), R (5 * k + 3), R (5 * k + 4)) := by
    rw [← h0]; rfl
  rw [e, t_apK (by omega)]
theorem m_rwT {r q : Nat → Int32} {t p : Nat} (h : q 11 = 0) : m_row q (nI (tS r t p)) (nI (tE r t p)) (m_kd (tK r t p)) (tV r t p) = m_rw r t q p True := by
  funext j
  by_cases h7 : j = 7
  · subst h7; rfl
  by_cases h8 : j = 8
  · subst h8; rfl
  by_cases h9 : j = 9
  · subst h9; rfl
  by_cases h10 : j = 10
  · subst h10; rfl
  unfold m_row
  rw [if_neg h7, if_neg h8, if_neg h9, if_neg h10]
  by_cases h11 : j = 11
  · subst h11
    rw [h]
    exact (qb_f (fun z => z trivial)).symm
  · rw [m_rw_o (by omega)]
/-- the answer of text; the row behind it; what else may have changed -/
def qMxt (σ : qx_Sg) (T : Int32 × Nat × (Nat → Int32)) : Option Value → qx_Sg → Prop := fun v σ' => v = some (.int T.1) ∧ σ' 54 = T.2.2 ∧ σ' 53 6 = 0 ∧ σ' 53 3 = σ 53 3 ∧ ∀ k, k < 65 → ¬ k = 53 → ¬ k = 54 → ¬ k = 60 → σ' k = σ k
theorem c_X6_text (l : Launch) (G : qx_G) (σ : qx_Sg) (N : Nat) (w : Nat → Int32) (hI : qv_ok w N) (hw : σ 54 = w) (t : Nat) (ht : t ≤ 120) (et : σ 53 6 = nI t) (hb : t_by (σ 58) t) : qx_Ct l G yX6_text cX6_text 2 (some .int) 8 176 [.ref (qx_ad G 53)] (σ) (qMxt σ (t_tx (σ 58) t N w 121 0 N w 0)) := by
  refine qx_of .int (lo := [(0, .ref (qx_ad G 53))]) (by decide +kernel) (Nat.le_of_ble_eq_true rfl) rfl (fun Δ (C : qx_C G Δ cX6_text RX6 2 8 176) hret => ?_)
  refine qk_sg (va_up σ 53 (σ 53)) m_upid.symm ?_
  refine qk_aloadn C dX6_text_0 1 rfl rfl 0 rfl ?_
  refine qk_iconst C (0) dX6_text_1 2 rfl rfl ?_
  refine qk_put C .int dX6_text_2 5 rfl qf_X6_247 53 (by decide) rfl (fun q hq => by cases hq; rfl) rfl rfl (Nat.le_of_ble_eq_true rfl) rfl ?_
  refine qk_sg _ (m_w53) ?_
  refine qk_aloadn C dX6_text_5 6 rfl rfl 0 rfl ?_
  refine qk_iconst C (0) dX6_text_6 7 rfl rfl ?_
  refine qk_put C .boolean dX6_text_7 10 rfl qf_X6_269 53 (by decide) rfl (fun q hq => by cases hq; rfl) rfl rfl (Nat.le_of_ble_eq_true rfl) rfl ?_
  refine qk_sg _ (m_w53) ?_
  refine qk_aloadn C dX6_text_10 11 rfl rfl 0 rfl ?_
  refine qk_iconst C (0) dX6_text_11 12 rfl rfl ?_
  refine qk_put C .int dX6_text_12 15 rfl qf_X6_280 53 (by decide) rfl (fun q hq => by cases hq; rfl) rfl rfl (Nat.le_of_ble_eq_true rfl) rfl ?_
  refine qk_sg _ (m_w53) ?_
  refine qk_aloadn C dX6_text_15 16 rfl rfl 0 rfl ?_
  refine qk_aloadn C dX6_text_16 17 rfl rfl 0 rfl ?_
  refine qk_get C dX6_text_17 20 rfl qf_X6_9 53 (by decide) rfl rfl ?_
  refine qk_iconst C (1) dX6_text_20 21 rfl rfl ?_
  refine qk_iald C dX6_text_21 22 rfl 54 (by decide) (fun _ => rfl) 1 rfl (by omega) (by decide) ?_
  refine qk_cast (show _ = nI N from (congrFun hw 1).trans hI.2.1) ?_
  refine qk_put C .int dX6_text_22 25 rfl qf_X6_287 53 (by decide) rfl (fun q hq => by cases hq; rfl) rfl rfl (Nat.le_of_ble_eq_true rfl) rfl ?_
  refine qk_sg _ m_w53 ?_
  refine qk_sg (va_up σ 53 (m_row (upd (upd (upd (upd (σ 53) 8 0) 11 0) 14 0) 15 (nI N)) ((upd (upd (upd (upd (σ 53) 8 0) 11 0) 14 0) 15 (nI N)) 7) (nI 0) ((upd (upd (upd (upd (σ 53) 8 0) 11 0) 14 0) 15 (nI N)) 9) ((upd (upd (upd (upd (σ 53) 8 0) 11 0) 14 0) 15 (nI N)) 10))) (congrArg (va_up σ 53) (m_row0 (q := (upd (upd (upd (upd (σ 53) 8 0) 11 0) 14 0) 15 (nI N)))).symm) ?_
  refine qk_aloadn C dX6_text_25 26 rfl rfl 0 rfl ?_
  refine qk_callV C dX6_text_26 29 rfl ql_X6_273 qc_X6_token 53 (by decide) rfl rfl (c_X6_token l G σ (upd (upd (upd (upd (σ 53) 8 0) 11 0) 14 0) 15 (nI N)) ((upd (upd (upd (upd (σ 53) 8 0) 11 0) 14 0) 15 (nI N)) 7) ((upd (upd (upd (upd (σ 53) 8 0) 11 0) 14 0) 15 (nI N)) 9) ((upd (upd (upd (upd (σ 53) 8 0) 11 0) 14 0) 15 (nI N)) 10) t ht et hb 0 (Nat.zero_le _)) rfl rfl (Nat.le_of_ble_eq_true rfl) ⟨(Nat.le_of_ble_eq_true rfl), (Nat.le_of_ble_eq_true rfl)⟩ (qx_Kv ?_)
  refine qk_sg (va_up σ 53 (m_rw (σ 58) t (upd (upd (upd (upd (σ 53) 8 0) 11 0) 14 0) 15 (nI N)) 0 True)) (congrArg (va_up σ 53) (m_rwT (q := (upd (upd (upd (upd (σ 53) 8 0) 11 0) 14 0) 15 (nI N))) rfl)) ?_
  refine qk_aloadn C dX6_text_29 30 rfl rfl 0 rfl ?_
  refine qk_callV C dX6_text_30 33 rfl ql_X6_312 qc_X6_readItem 53 (by decide) rfl rfl (c_X6_readItem l G σ (upd (upd (upd (upd (σ 53) 8 0) 11 0) 14 0) 15 (nI N)) t ht et hb 0 (Nat.zero_le _) N hI.1 upd_eq 0 (by omega) rfl) rfl rfl (Nat.le_of_ble_eq_true rfl) ⟨(Nat.le_of_ble_eq_true rfl), (Nat.le_of_ble_eq_true rfl)⟩ (qx_KI ?_)
  intro R1 q2 hq2 hR1
  have lp_33 : ∀ (n_33 : Nat) (m N1 p1 : Nat) (u1 q1 R : Nat → Int32), (2 * m ≤ p1 ∧ p1 ≤ t ∧ qv_ok u1 N1 ∧ (t_tx (σ 58) t N w 121 0 N w 0) = t_tx (σ 58) t N w (121 - m) m N1 u1 p1 ∧ (q1 3 = σ 53 3 ∧ q1 6 = nI t) ∧ ((t_iP (σ 58) t N1 p1) → q1 14 = nI (m + 1) ∧ q1 15 = nI (t_ap (t_it (σ 58) t N1 p1) N1 u1).1 ∧ tIv R (m + 1) N w ∧ t_fo R N w (m + 1) = (t_ap (t_it (σ 58) t N1 p1) N1 u1))) → 121 - m < n_33 → qx_K l G Δ (va_up (va_up σ 60 R) 53 (m_rw (σ 58) t q1 (t_ip (σ 58) t N1 p1) (t_iP (σ 58) t N1 p1))) 33 [(0, .ref (qx_ad G 53))] [] := by
    intro n_33
    induction n_33 with
    | zero => intro _ _ _ _ _ _ _ h9; exact absurd h9 (Nat.not_lt_zero _)
    | succ n_33 ih_33 =>
      intro m N1 p1 u1 q1 R hi hm_33
      have hpos : (t_ip (σ 58) t N1 p1) ≤ t := (t_ip_le hi.2.1).2
      have hm60 : m ≤ 60 := by omega
      refine qk_aloadn C dX6_text_33 34 rfl rfl 0 rfl ?_
      refine qk_get C dX6_text_34 37 rfl qf_X6_269 53 (by decide) rfl rfl ?_
      refine qk_cast (show _ = qb (¬ (t_iP (σ 58) t N1 p1)) from rfl) ?_
      have lp_74 : ∀ (z9 : Nat), ((t_iP (σ 58) t N1 p1) → ¬ tK (σ 58) t (t_ip (σ 58) t N1 p1) = 3) → qx_K l G Δ (va_up (va_up σ 60 R) 53 (m_rw (σ 58) t q1 (t_ip (σ 58) t N1 p1) (t_iP (σ 58) t N1 p1))) 74 [(0, .ref (qx_ad G 53))] [] := by
        intro z9 h74
        refine qk_aloadn C dX6_text_74 75 rfl rfl 0 rfl ?_
        refine qk_aloadn C dX6_text_75 76 rfl rfl 0 rfl ?_
        refine qk_get C dX6_text_76 79 rfl qf_X6_259 53 (by decide) rfl rfl ?_
        refine qk_cast (show _ = m_kd (tK (σ 58) t (t_ip (σ 58) t N1 p1)) from rfl) ?_
        have lp_87 : ∀ (x : Int32), ((¬ x = 0) = (tK (σ 58) t (t_ip (σ 58) t N1 p1) = 0)) → qx_K l G Δ (va_up (va_up σ 60 R) 53 (m_rw (σ 58) t q1 (t_ip (σ 58) t N1 p1) (t_iP (σ 58) t N1 p1))) 87 [(0, .ref (qx_ad G 53))] [.int x, .ref (qx_ad G 53)] := by
          intro x hx
          refine qk_callV C dX6_text_87 90 rfl ql_X6_276 qc_X6_must 53 (by decide) rfl rfl (c_mM l G (va_up σ 60 R) q1 t ht hi.2.2.2.2.1.2 hb (t_ip (σ 58) t N1 p1) hpos (t_iP (σ 58) t N1 p1) x) rfl rfl (Nat.le_of_ble_eq_true rfl) ⟨(Nat.le_of_ble_eq_true rfl), (Nat.le_of_ble_eq_true rfl)⟩ (qx_Kv ?_)
          rw [hx]
          refine qk_aloadn C dX6_text_90 91 rfl rfl 0 rfl ?_
          refine qk_iconst C (0) dX6_text_91 92 rfl rfl ?_
          refine qk_put C .int dX6_text_92 95 rfl qf_X6_243 53 (by decide) rfl (fun q hq => by cases hq; rfl) rfl rfl (Nat.le_of_ble_eq_true rfl) rfl ?_
          refine qk_sg (va_up (va_up σ 60 R) 53 (m_rw (σ 58) t (upd q1 6 0) (t_av (σ 58) t ((t_iP (σ 58) t N1 p1) ∧ tK (σ 58) t (t_ip (σ 58) t N1 p1) = 0) (t_ip (σ 58) t N1 p1)) ((t_iP (σ 58) t N1 p1) ∧ tK (σ 58) t (t_ip (σ 58) t N1 p1) = 0))) (m_w53.trans (congrArg (va_up (va_up σ 60 R) 53) (m_rwU (by omega)))) ?_
          refine qk_aloadn C dX6_text_95 96 rfl rfl 0 rfl ?_
          refine qk_get C dX6_text_96 99 rfl qf_X6_269 53 (by decide) rfl rfl ?_
          refine qk_cast (show _ = qb (¬ ((t_iP (σ 58) t N1 p1) ∧ tK (σ 58) t (t_ip (σ 58) t N1 p1) = 0)) from rfl) ?_
          refine qk_if_eqB C dX6_text_99 109 rfl 102 rfl (fun c_99 => ?_) (fun c_99 => ?_)
          · have hF : ((t_iP (σ 58) t N1 p1) ∧ tK (σ 58) t (t_ip (σ 58) t N1 p1) = 0) := Classical.not_not.mp c_99
            have hv := hi.2.2.2.2.2 hF.1
            have hT : (t_tx (σ 58) t N w 121 0 N w 0) = (nI (m + 1), (t_ap (t_it (σ 58) t N1 p1) N1 u1).1, (t_ap (t_it (σ 58) t N1 p1) N1 u1).2) := hi.2.2.2.1.trans (by rw [show 121 - m = (120 - m) + 1 by omega]; exact t_tx_a hF.1 hF.2)
            have hf : t_fo R N w (m + 1) = (t_ap (t_it (σ 58) t N1 p1) N1 u1) := hv.2.2.2
            refine qk_iconst C (nI 0) dX6_text_109 110 rfl rfl ?_
            refine qk_istoren C dX6_text_110 111 rfl rfl (by decide) rfl ?_
            refine qk_sg (va_up (va_up (va_up σ 60 R) 53 (m_rw (σ 58) t (upd q1 6 0) (t_av (σ 58) t ((t_iP (σ 58) t N1 p1) ∧ tK (σ 58) t (t_ip (σ 58) t N1 p1) = 0) (t_ip (σ 58) t N1 p1)) ((t_iP (σ 58) t N1 p1) ∧ tK (σ 58) t (t_ip (σ 58) t N1 p1) = 0))) 54 (t_fo R N w 0).2) (by rw [show (t_fo R N w 0).2 = (va_up (va_up σ 60 R) 53 (m_rw (σ 58) t (upd q1 6 0) (t_av (σ 58) t ((t_iP (σ 58) t N1 p1) ∧ tK (σ 58) t (t_ip (σ 58) t N1 p1) = 0) (t_ip (σ 58) t N1 p1)) ((t_iP (σ 58) t N1 p1) ∧ tK (σ 58) t (t_ip (σ 58) t N1 p1) = 0))) 54 from hw.symm, m_upid]) ?_
            have lp_111 : ∀ (n_111 : Nat) (k : Nat), (k ≤ m + 1) → m + 1 - k < n_111 → qx_K l G Δ (va_up (va_up (va_up σ 60 R) 53 (m_rw (σ 58) t (upd q1 6 0) (t_av (σ 58) t ((t_iP (σ 58) t N1 p1) ∧ tK (σ 58) t (t_ip (σ 58) t N1 p1) = 0) (t_ip (σ 58) t N1 p1)) ((t_iP (σ 58) t N1 p1) ∧ tK (σ 58) t (t_ip (σ 58) t N1 p1) = 0))) 54 (t_fo R N w k).2) 111 [(1, .int (nI k)), (0, .ref (qx_ad G 53))] [] := by
              intro n_111
              induction n_111 with
              | zero => intro _ _ h9; exact absurd h9 (Nat.not_lt_zero _)
              | succ n_111 ih_111 =>
                intro k hk hm_111
                refine qk_iloadn C dX6_text_111 112 rfl rfl 0 rfl ?_
                refine qk_aloadn C dX6_text_112 113 rfl rfl 1 rfl ?_
                refine qk_get C dX6_text_113 116 rfl qf_X6_280 53 (by decide) rfl rfl ?_
                refine qk_cast (show _ = nI (m + 1) from hv.1) ?_
                refine qk_icmp_ge C dX6_text_116 132 rfl 119 rfl (fun c_116 => ?_) (fun c_116 => ?_)
                · have hkm : m + 1 ≤ k := (nI_leI (by omega) (by omega)).mp c_116
                  have hke : k = m + 1 := by omega
                  refine qk_aloadn C dX6_text_132 133 rfl rfl 1 rfl ?_
                  refine qk_get C dX6_text_133 136 rfl qf_X6_280 53 (by decide) rfl rfl ?_
                  refine qk_cast (show _ = nI (m + 1) from hv.1) ?_
                  exact hret _ _ _ _ dX6_text_136 (⟨by rw [hT], by rw [hT]; show (t_fo R N w k).2 = (t_ap (t_it (σ 58) t N1 p1) N1 u1).2; rw [hke, hf], rfl, hi.2.2.2.2.1.1, fun k h1 h2 h3 h4 => (qx_up_ne h3).trans ((qx_up_ne h2).trans (qx_up_ne h4))⟩) rfl
                · have hkm : k < m + 1 := Nat.not_le.mp (fun q => c_116 (nI_le q (by omega)))
                  rcases hv.2.2.1.1 k hkm with ⟨h0, i, hi6, h1⟩ | ⟨h0, i, hi6, h1⟩ | ⟨kd, hkd, h0, hN7⟩
                  · refine qk_aloadn C dX6_text_119 120 rfl rfl 1 rfl ?_
                    refine qk_iconst C (5) dX6_text_120 121 rfl rfl ?_
                    refine qk_iloadn C dX6_text_121 122 rfl rfl 0 rfl ?_
                    refine qk_imul C dX6_text_122 123 rfl ?_
                    refine qk_cast (m_5) ?_
                    refine qk_callV C dX6_text_123 126 rfl ql_X6_315 qc_X6_isToldSo 53 (by decide) rfl rfl (c_X6_isToldSoA l G (va_up (va_up σ 60 R) 53 (m_rw (σ 58) t (upd q1 6 0) (t_av (σ 58) t ((t_iP (σ 58) t N1 p1) ∧ tK (σ 58) t (t_ip (σ 58) t N1 p1) = 0) (t_ip (σ 58) t N1 p1)) ((t_iP (σ 58) t N1 p1) ∧ tK (σ 58) t (t_ip (σ 58) t N1 p1) = 0))) _ _ (hv.2.2.1.2 k (by omega)) (5 * k) (by omega) h0 i hi6 h1) rfl rfl (Nat.le_of_ble_eq_true rfl) ⟨(Nat.le_of_ble_eq_true rfl), (Nat.le_of_ble_eq_true rfl)⟩ (qx_Kv ?_)
                    refine qk_sg (va_up (va_up (va_up σ 60 R) 53 (m_rw (σ 58) t (upd q1 6 0) (t_av (σ 58) t ((t_iP (σ 58) t N1 p1) ∧ tK (σ 58) t (t_ip (σ 58) t N1 p1) = 0) (t_ip (σ 58) t N1 p1)) ((t_iP (σ 58) t N1 p1) ∧ tK (σ 58) t (t_ip (σ 58) t N1 p1) = 0))) 54 (t_fo R N w (k + 1)).2) (congrArg (va_up (va_up (va_up σ 60 R) 53 (m_rw (σ 58) t (upd q1 6 0) (t_av (σ 58) t ((t_iP (σ 58) t N1 p1) ∧ tK (σ 58) t (t_ip (σ 58) t N1 p1) = 0) (t_ip (σ 58) t N1 p1)) ((t_iP (σ 58) t N1 p1) ∧ tK (σ 58) t (t_ip (σ 58) t N1 p1) = 0))) 54) (t_foA h0 hi6 h1)) ?_
                    refine qk_iinc C (nI (k + 1)) dX6_text_126 129 rfl 0 rfl (nI_1 k) (by decide) rfl ?_
                    refine qk_goto C dX6_text_129 111 rfl ?_
                    exact ih_111 (k + 1) (by omega) (by omega)
                  · refine qk_aloadn C dX6_text_119 120 rfl rfl 1 rfl ?_
                    refine qk_iconst C (5) dX6_text_120 121 rfl rfl ?_
                    refine qk_iloadn C dX6_text_121 122 rfl rfl 0 rfl ?_
                    refine qk_imul C dX6_text_122 123 rfl ?_
                    refine qk_cast (m_5) ?_
                    refine qk_callV C dX6_text_123 126 rfl ql_X6_315 qc_X6_isToldSo 53 (by decide) rfl rfl (c_X6_isToldSoB l G (va_up (va_up σ 60 R) 53 (m_rw (σ 58) t (upd q1 6 0) (t_av (σ 58) t ((t_iP (σ 58) t N1 p1) ∧ tK (σ 58) t (t_ip (σ 58) t N1 p1) = 0) (t_ip (σ 58) t N1 p1)) ((t_iP (σ 58) t N1 p1) ∧ tK (σ 58) t (t_ip (σ 58) t N1 p1) = 0))) _ _ (hv.2.2.1.2 k (by omega)) (5 * k) (by omega) h0 i hi6 h1) rfl rfl (Nat.le_of_ble_eq_true rfl) ⟨(Nat.le_of_ble_eq_true rfl), (Nat.le_of_ble_eq_true rfl)⟩ (qx_Kv ?_)
                    refine qk_sg (va_up (va_up (va_up σ 60 R) 53 (m_rw (σ 58) t (upd q1 6 0) (t_av (σ 58) t ((t_iP (σ 58) t N1 p1) ∧ tK (σ 58) t (t_ip (σ 58) t N1 p1) = 0) (t_ip (σ 58) t N1 p1)) ((t_iP (σ 58) t N1 p1) ∧ tK (σ 58) t (t_ip (σ 58) t N1 p1) = 0))) 54 (t_fo R N w (k + 1)).2) (congrArg (va_up (va_up (va_up σ 60 R) 53 (m_rw (σ 58) t (upd q1 6 0) (t_av (σ 58) t ((t_iP (σ 58) t N1 p1) ∧ tK (σ 58) t (t_ip (σ 58) t N1 p1) = 0) (t_ip (σ 58) t N1 p1)) ((t_iP (σ 58) t N1 p1) ∧ tK (σ 58) t (t_ip (σ 58) t N1 p1) = 0))) 54) (t_foB h0 hi6 h1)) ?_
                    refine qk_iinc C (nI (k + 1)) dX6_text_126 129 rfl 0 rfl (nI_1 k) (by decide) rfl ?_
                    refine qk_goto C dX6_text_129 111 rfl ?_
                    exact ih_111 (k + 1) (by omega) (by omega)
                  · refine qk_aloadn C dX6_text_119 120 rfl rfl 1 rfl ?_
                    refine qk_iconst C (5) dX6_text_120 121 rfl rfl ?_
                    refine qk_iloadn C dX6_text_121 122 rfl rfl 0 rfl ?_
                    refine qk_imul C dX6_text_122 123 rfl ?_
                    refine qk_cast (m_5) ?_
                    refine qk_callV C dX6_text_123 126 rfl ql_X6_315 qc_X6_isToldSo 53 (by decide) rfl rfl (c_X6_isToldSoC l G (va_up (va_up σ 60 R) 53 (m_rw (σ 58) t (upd q1 6 0) (t_av (σ 58) t ((t_iP (σ 58) t N1 p1) ∧ tK (σ 58) t (t_ip (σ 58) t N1 p1) = 0) (t_ip (σ 58) t N1 p1)) ((t_iP (σ 58) t N1 p1) ∧ tK (σ 58) t (t_ip (σ 58) t N1 p1) = 0))) _ _ (hv.2.2.1.2 k (by omega)) (5 * k) (by omega) hN7 kd hkd h0) rfl rfl (Nat.le_of_ble_eq_true rfl) ⟨(Nat.le_of_ble_eq_true rfl), (Nat.le_of_ble_eq_true rfl)⟩ (qx_Kv ?_)
                    refine qk_sg (va_up (va_up (va_up σ 60 R) 53 (m_rw (σ 58) t (upd q1 6 0) (t_av (σ 58) t ((t_iP (σ 58) t N1 p1) ∧ tK (σ 58) t (t_ip (σ 58) t N1 p1) = 0) (t_ip (σ 58) t N1 p1)) ((t_iP (σ 58) t N1 p1) ∧ tK (σ 58) t (t_ip (σ 58) t N1 p1) = 0))) 54 (t_fo R N w (k + 1)).2) (congrArg (va_up (va_up (va_up σ 60 R) 53 (m_rw (σ 58) t (upd q1 6 0) (t_av (σ 58) t ((t_iP (σ 58) t N1 p1) ∧ tK (σ 58) t (t_ip (σ 58) t N1 p1) = 0) (t_ip (σ 58) t N1 p1)) ((t_iP (σ 58) t N1 p1) ∧ tK (σ 58) t (t_ip (σ 58) t N1 p1) = 0))) 54) (t_foC h0 hkd)) ?_
                    refine qk_iinc C (nI (k + 1)) dX6_text_126 129 rfl 0 rfl (nI_1 k) (by decide) rfl ?_
                    refine qk_goto C dX6_text_129 111 rfl ?_
                    exact ih_111 (k + 1) (by omega) (by omega)
            exact lp_111 _ 0 (by omega) (Nat.lt_succ_self _)
          · have hT : (t_tx (σ 58) t N w 121 0 N w 0) = (-1 - nI (tS (σ 58) t (t_ip (σ 58) t N1 p1)), N, w) := hi.2.2.2.1.trans (by rw [show 121 - m = (120 - m) + 1 by omega]; exact Classical.byCases (fun hP : (t_iP (σ 58) t N1 p1) => t_tx_c hP (fun z => c_99 ⟨hP, z⟩) (h74 hP)) (fun hP => t_tx_d hP))
            refine qk_iconst C ((-1)) dX6_text_102 103 rfl rfl ?_
            refine qk_aloadn C dX6_text_103 104 rfl rfl 0 rfl ?_
            refine qk_get C dX6_text_104 107 rfl qf_X6_250 53 (by decide) rfl rfl ?_
            refine qk_cast (show _ = nI (tS (σ 58) t (t_av (σ 58) t ((t_iP (σ 58) t N1 p1) ∧ tK (σ 58) t (t_ip (σ 58) t N1 p1) = 0) (t_ip (σ 58) t N1 p1))) from rfl) ?_
            refine qk_isub C dX6_text_107 108 rfl ?_
            exact hret _ _ _ _ dX6_text_108 (⟨by rw [hT, t_av_f c_99], by rw [hT]; exact hw, rfl, hi.2.2.2.2.1.1, fun k h1 h2 h3 h4 => (qx_up_ne h2).trans (qx_up_ne h4)⟩) rfl
        refine qk_if_ne C dX6_text_79 86 rfl 82 rfl (fun c_79 => ?_) (fun c_79 => ?_)
        · refine qk_iconst C (0) dX6_text_86 87 rfl rfl ?_
          exact lp_87 0 (propext ⟨fun h => absurd rfl h, fun h => absurd (m_kd0.mpr h) c_79⟩)
        · refine qk_iconst C (1) dX6_text_82 83 rfl rfl ?_
          refine qk_goto C dX6_text_83 87 rfl ?_
          exact lp_87 1 (propext ⟨fun _ => m_kd0.mp c_79, fun _ => by decide⟩)
      refine qk_if_neB C dX6_text_37 74 rfl 40 rfl (fun c_37 => ?_) (fun c_37 => ?_)
      · exact lp_74 0 (fun z => absurd z c_37)
      · have hP : (t_iP (σ 58) t N1 p1) := Classical.not_not.mp c_37
        have hv := hi.2.2.2.2.2 hP
        have hlt := t_ip_lt hi.2.1 hP
        refine qk_aloadn C dX6_text_40 41 rfl rfl 0 rfl ?_
        refine qk_get C dX6_text_41 44 rfl qf_X6_259 53 (by decide) rfl rfl ?_
        refine qk_cast (show _ = m_kd (tK (σ 58) t (t_ip (σ 58) t N1 p1)) from rfl) ?_
        refine qk_iconst C (3) dX6_text_44 45 rfl rfl ?_
        refine qk_icmp_ne C dX6_text_45 74 rfl 48 rfl (fun c_45 => ?_) (fun c_45 => ?_)
        · exact lp_74 0 (fun _ z => c_45 (m_kd3.mpr (Or.inl z)))
        · have hkk := m_kd3.mp c_45
          have hkn : ¬ tK (σ 58) t (t_ip (σ 58) t N1 p1) = 0 := fun z => by rw [z] at hkk; exact absurd hkk (by decide)
          have hst : tS (σ 58) t (t_ip (σ 58) t N1 p1) < t := by
            rcases t_kinds (r := σ 58) (t := t) (p := (t_ip (σ 58) t N1 p1)) with q | q
            · exact absurd q.1 hkn
            · exact q.1
          refine qk_aloadn C dX6_text_48 49 rfl rfl 0 rfl ?_
          refine qk_get C dX6_text_49 52 rfl qf_X6_22 53 (by decide) rfl rfl ?_
          refine qk_aloadn C dX6_text_52 53 rfl rfl 0 rfl ?_
          refine qk_get C dX6_text_53 56 rfl qf_X6_250 53 (by decide) rfl rfl ?_
          refine qk_cast (show _ = nI (tS (σ 58) t (t_ip (σ 58) t N1 p1)) from rfl) ?_
          refine qk_iald C dX6_text_56 57 rfl 58 (by decide) (fun _ => rfl) (tS (σ 58) t (t_ip (σ 58) t N1 p1)) rfl (by omega) (by decide) ?_
          refine qk_cast (show _ = σ 58 (tS (σ 58) t (t_ip (σ 58) t N1 p1)) from rfl) ?_
          refine qk_bipush C (59) dX6_text_57 59 rfl rfl ?_
          refine qk_icmp_ne C dX6_text_59 74 rfl 62 rfl (fun c_59 => ?_) (fun c_59 => ?_)
          · exact lp_74 0 (fun _ z => by
                rcases t_kinds (r := σ 58) (t := t) (p := (t_ip (σ 58) t N1 p1)) with q | q
                · exact absurd q.1 hkn
                · rcases q.2.2 with q | q | q | q
                  · rw [z] at q; exact absurd q (by decide)
                  · rw [z] at q; exact absurd q (by decide)
                  · exact c_59 q.2
                  · rw [z] at q; exact absurd q.1 (by decide))
          · have hk3 : tK (σ 58) t (t_ip (σ 58) t N1 p1) = 3 := by
              rcases t_kinds (r := σ 58) (t := t) (p := (t_ip (σ 58) t N1 p1)) with q | q
              · exact absurd q.1 hkn
              · rcases q.2.2 with q | q | q | q
                · rw [q] at hkk; exact absurd hkk (by decide)
                · rw [q] at hkk; exact absurd hkk (by decide)
                · exact q.1
                · exact absurd c_59 q.2
            have hlt2 := tE_lt (r := σ 58) hpos hkn
            refine qk_aloadn C dX6_text_62 63 rfl rfl 0 rfl ?_
            refine qk_iconst C (1) dX6_text_63 64 rfl rfl ?_
            refine qk_callV C dX6_text_64 67 rfl ql_X6_276 qc_X6_must 53 (by decide) rfl rfl (c_mM l G (va_up σ 60 R) q1 t ht hi.2.2.2.2.1.2 hb (t_ip (σ 58) t N1 p1) hpos (t_iP (σ 58) t N1 p1) 1) rfl rfl (Nat.le_of_ble_eq_true rfl) ⟨(Nat.le_of_ble_eq_true rfl), (Nat.le_of_ble_eq_true rfl)⟩ (qx_Kv ?_)
            rw [show ((t_iP (σ 58) t N1 p1) ∧ ¬ (1 : Int32) = 0) = True from propext ⟨fun _ => trivial, fun _ => ⟨hP, by decide⟩⟩, show t_av ((va_up σ 60 R) 58) t True (t_ip (σ 58) t N1 p1) = tE (σ 58) t (t_ip (σ 58) t N1 p1) from t_av_t trivial]
            refine qk_aloadn C dX6_text_67 68 rfl rfl 0 rfl ?_
            refine qk_callV C dX6_text_68 71 rfl ql_X6_312 qc_X6_readItem 53 (by decide) rfl rfl (c_X6_readItem l G (va_up σ 60 R) q1 t ht hi.2.2.2.2.1.2 hb (tE (σ 58) t (t_ip (σ 58) t N1 p1)) (tE_le hpos).2 (t_ap (t_it (σ 58) t N1 p1) N1 u1).1 (qv_it hi.2.2.1 hP).1 hv.2.1 (m + 1) (by omega) hv.1) rfl rfl (Nat.le_of_ble_eq_true rfl) ⟨(Nat.le_of_ble_eq_true rfl), (Nat.le_of_ble_eq_true rfl)⟩ (qx_KI ?_)
            intro R1 q2 hq2 hR1
            refine qk_sg _ (congrArg (fun z => va_up z 53 _) m_uu) ?_
            refine qk_goto C dX6_text_71 33 rfl ?_
            exact ih_33 (m + 1) (t_ap (t_it (σ 58) t N1 p1) N1 u1).1 (tE (σ 58) t (t_ip (σ 58) t N1 p1)) (t_ap (t_it (σ 58) t N1 p1) N1 u1).2 q2 R1 ⟨by omega, (tE_le hpos).2, qv_it hi.2.2.1 hP, hi.2.2.2.1.trans (by rw [show 121 - m = (120 - m) + 1 by omega]; rw [t_tx_b hP hk3, show 121 - (m + 1) = 120 - m by omega]), ⟨(hq2 3 (by omega) (by omega)).trans hi.2.2.2.2.1.1, (hq2 6 (by omega) (by omega)).trans hi.2.2.2.2.1.2⟩, fun z => by
                obtain ⟨e1, e2, e3⟩ := hR1 z
                have h5 := tIv_s (R := R) hv.2.2.1 hv.2.2.2 (qv_it hi.2.2.1 hP) z
                rw [e1]
                exact ⟨e2, e3 _, h5.1, h5.2⟩⟩ (by omega)
  exact lp_33 _ 0 N 0 w q2 R1 ⟨by omega, Nat.zero_le _, hI, rfl, ⟨(hq2 3 (by omega) (by omega)).trans rfl, (hq2 6 (by omega) (by omega)).trans et⟩, fun z => by
      obtain ⟨e1, e2, e3⟩ := hR1 z
      have h5 := tIv_s (R := σ 60) (tIv_0 hI) rfl hI z
      rw [e1]
      exact ⟨e2, e3 w, h5.1, h5.2⟩⟩ (Nat.lt_succ_self _)

