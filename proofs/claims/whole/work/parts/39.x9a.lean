/-! the class reads items into the trial library -/
theorem c_p42 {ρ : qx_Sg} {N i : Nat} {u : Nat → Int32} {x : Int32} (hN : N ≤ 8) : va_up (qL ρ 14 N u) 42 (upd (qL ρ 14 N u 42) i x) = qL (va_up ρ 42 (upd (ρ 42) i x)) 14 N u := by
  rw [qL_hi14 hN (by omega), qL_up hN (by omega)]
def cTr (ρ ρ' : qx_Sg) : Prop := ∀ k, ¬ k = 40 → ¬ k = 42 → ρ' k = ρ k
theorem cTr.rf {ρ : qx_Sg} : cTr ρ ρ := fun _ _ _ => rfl
theorem cTr.tr {ρ ρ1 ρ2 : qx_Sg} (h : cTr ρ ρ1) (g : cTr ρ1 ρ2) : cTr ρ ρ2 := fun k h1 h2 => (g k h1 h2).trans (h k h1 h2)
theorem cTr.p40 {ρ ρ1 : qx_Sg} {x : Nat → Int32} (h : cTr ρ ρ1) : cTr ρ (va_up ρ1 40 x) := fun k h1 h2 => (qx_up_ne h1).trans (h k h1 h2)
theorem cTr.p42 {ρ ρ1 : qx_Sg} {x : Nat → Int32} (h : cTr ρ ρ1) : cTr ρ (va_up ρ1 42 x) := fun k h1 h2 => (qx_up_ne h2).trans (h k h1 h2)
/-- the tape stands behind the token that begins at p -/
def tC (r : Nat → Int32) (t p : Nat) (q : Nat → Int32) : Prop := q 1 = nI t ∧ q 2 = tK r t p ∧ q 3 = nI (tS r t p) ∧ q 4 = nI (tE r t p) ∧ (tK r t p = 2 → q 5 = tV r t p)
def tJ (ρ : qx_Sg) (r : Nat → Int32) (t p : Nat) : Prop := ρ 41 = r ∧ t ≤ 120 ∧ p ≤ t ∧ tC r t p (ρ 40)
noncomputable def cN (r : Nat → Int32) (t : Nat) (ρ : qx_Sg) : qx_Sg := va_up ρ 40 (c_tok r t (ρ 40))
theorem tC_row {r : Nat → Int32} {t p : Nat} {q : Nat → Int32} {d : Int32} (e1 : q 1 = nI t) : tC r t p (t_row q (t_tk r t (tS r t p) d).1 (nI (tS r t p)) (nI (t_tk r t (tS r t p) d).2.1) (t_tk r t (tS r t p) d).2.2) := by
  have h := t_tk_d (r := r) (t := t) (s := tS r t p) d
  exact ⟨e1, h.1, rfl, congrArg nI h.2.1, h.2.2⟩
theorem tJ_nx {ρ : qx_Sg} {r : Nat → Int32} {t p : Nat} (h : tJ ρ r t p) : tJ (cN r t ρ) r t (tE r t p) := by
  obtain ⟨h1, h2, h3, e1, e2, e3, e4, e5⟩ := h
  have hz : zn (ρ 40 4) = tE r t p := by rw [e4, zn_nI (by have := (tE_le (r := r) h3).2; omega)]
  refine ⟨(qx_up_ne (by omega)).trans h1, h2, (tE_le h3).2, ?_⟩
  unfold cN
  rw [qx_up_eq]
  unfold c_tok
  rw [hz]
  exact tC_row e1
theorem tJ_42 {ρ : qx_Sg} {r x : Nat → Int32} {t p : Nat} (h : tJ ρ r t p) : tJ (va_up ρ 42 x) r t p := by
  obtain ⟨h1, h2, h3, h4⟩ := h
  exact ⟨(qx_up_ne (by omega)).trans h1, h2, h3, by rw [qx_up_ne (by omega)]; exact h4⟩
theorem tJ_v {ρ : qx_Sg} {r u : Nat → Int32} {t p N : Nat} (hN : N ≤ 8) (h : tJ ρ r t p) (hk : tK r t p = 2) : qL ρ 14 N u 40 5 = tV r t p := by
  rw [qL_hi14 hN (by omega)]
  exact h.2.2.2.2.2.2.2 hk
def cPo (r : Nat → Int32) (t : Nat) (ρ : qx_Sg) (P : Prop) (pos : Nat) (Z : qx_Sg → Nat → (Nat → Int32) → Prop) : Option Value → qx_Sg → Prop := fun v σ' => v = some (.int (qb P)) ∧ ∃ ρ' N1 u1, σ' = qL ρ' 14 N1 u1 ∧ N1 ≤ 8 ∧ tJ ρ' r t pos ∧ cTr ρ ρ' ∧ (P → Z ρ' N1 u1)
def cZ (N' : Nat) (u' : Nat → Int32) : qx_Sg → Nat → (Nat → Int32) → Prop := fun _ N1 u1 => N1 = N' ∧ u1 = u'
theorem cPo_t {r : Nat → Int32} {t : Nat} {ρ : qx_Sg} {P : Prop} {pos : Nat} {Z : qx_Sg → Nat → (Nat → Int32) → Prop} {ρ' : qx_Sg} {N1 : Nat} {u1 : Nat → Int32} (hP : P) (hN : N1 ≤ 8) (hJ : tJ ρ' r t pos) (hT : cTr ρ ρ') (hZ : Z ρ' N1 u1) : cPo r t ρ P pos Z (some (.int 1)) (qL ρ' 14 N1 u1) :=
  ⟨congrArg (fun x => some (Value.int x)) (qb_t hP).symm, ρ', N1, u1, rfl, hN, hJ, hT, fun _ => hZ⟩
theorem cPo_f {r : Nat → Int32} {t : Nat} {ρ : qx_Sg} {P : Prop} {pos : Nat} {Z : qx_Sg → Nat → (Nat → Int32) → Prop} {ρ' : qx_Sg} {N1 : Nat} {u1 : Nat → Int32} (hP : ¬ P) (hN : N1 ≤ 8) (hJ : tJ ρ' r t pos) (hT : cTr ρ ρ') : cPo r t ρ P pos Z (some (.int 0)) (qL ρ' 14 N1 u1) :=
  ⟨congrArg (fun x => some (Value.int x)) (qb_f hP).symm, ρ', N1, u1, rfl, hN, hJ, hT, fun q => absurd q hP⟩
theorem cPo_q {r : Nat → Int32} {t : Nat} {ρ : qx_Sg} {P Q : Prop} {pos : Nat} {Z : qx_Sg → Nat → (Nat → Int32) → Prop} {ρ' : qx_Sg} {N1 : Nat} {u1 : Nat → Int32} (hP : P = Q) (hN : N1 ≤ 8) (hJ : tJ ρ' r t pos) (hT : cTr ρ ρ') (hZ : P → Z ρ' N1 u1) : cPo r t ρ P pos Z (some (.int (qb Q))) (qL ρ' 14 N1 u1) := by
  subst hP
  exact ⟨rfl, ρ', N1, u1, rfl, hN, hJ, hT, hZ⟩
theorem qx_KR {l : Launch} {G : qx_G} {Δ : qx_T} {lo : List (Nat × Value)} {st : List Value} {pc' : Nat} {r : Nat → Int32} {t : Nat} {ρ : qx_Sg} {P : Prop} {pos : Nat} {Z : qx_Sg → Nat → (Nat → Int32) → Prop} (K : ∀ ρ' N1 u1, N1 ≤ 8 → tJ ρ' r t pos → cTr ρ ρ' → (P → Z ρ' N1 u1) → qx_K l G Δ (qL ρ' 14 N1 u1) pc' lo (.int (qb P) :: st)) : ∀ v σ', cPo r t ρ P pos Z v σ' → qx_K l G Δ σ' pc' lo (v.toList ++ st) := by
  rintro v σ' ⟨rfl, ρ', N1, u1, rfl, h1, h2, h3, h4⟩
  exact K ρ' N1 u1 h1 h2 h3 h4
theorem c_rdT2 (l : Launch) (G : qx_G) (ρ : qx_Sg) (r : Nat → Int32) (t p : Nat) (hJ : tJ ρ r t p) (N : Nat) (hN : N ≤ 8) (u : Nat → Int32) : qx_Ct l G yX3_readToken cX3_readToken 1 none 1 21 [.ref (qx_ad G 40)] (qL ρ 14 N u) (qx_pv (qL (cN r t ρ) 14 N u)) :=
  c_rdT l G ρ N hN u r (ρ 40) hJ.1 rfl t hJ.2.1 hJ.2.2.2.1 (tE r t p) (tE_le hJ.2.2.1).2 hJ.2.2.2.2.2.2.1
theorem c_rdW2 (l : Launch) (G : qx_G) (ρ : qx_Sg) (r : Nat → Int32) (t p : Nat) (hJ : tJ ρ r t p) (N : Nat) (hN : N ≤ 8) (u : Nat → Int32) (i : Nat) (hi : i < 12) : qx_Ct l G yX3_isWord cX3_isWord 3 (some .boolean) 4 85 [.ref (qx_ad G 40), .ref (qx_ad G (100 + i))] (qL ρ 14 N u) (qx_pi (qb (t_w r t i p)) (qL ρ 14 N u)) := by
  have h := c_rdW l G ρ N hN u r (ρ 40) hJ.1 rfl i hi (tS r t p) (tE r t p) (tE_le hJ.2.2.1).1 (Nat.le_trans (tE_le hJ.2.2.1).2 hJ.2.1) hJ.2.2.2.2.2.1 hJ.2.2.2.2.2.2.1
  rw [hJ.2.2.2.2.1] at h
  exact h
theorem c_rdN2 (l : Launch) (G : qx_G) (ρ : qx_Sg) (r : Nat → Int32) (t p : Nat) (hJ : tJ ρ r t p) (N : Nat) (hN : N ≤ 8) (u : Nat → Int32) (m : Int32) : qx_Ct l G yX3_isNumber cX3_isNumber 2 (some .boolean) 0 0 [.ref (qx_ad G 40), .int m] (qL ρ 14 N u) (qx_pi (qb (t_nu r t m p)) (qL ρ 14 N u)) := by
  have h := c_rdN l G ρ N hN u (ρ 40) rfl m
  have hv := hJ.2.2.2.2.2.2.2
  have e : (ρ 40 2 = 2 ∧ ¬ m < ρ 40 5) = t_nu r t m p := by
    rw [hJ.2.2.2.2.1]
    exact propext ⟨fun z => ⟨z.1, by rw [← hv z.1]; exact z.2⟩, fun z => ⟨z.1, by rw [hv z.1]; exact z.2⟩⟩
  rw [e] at h
  exact h
theorem c_X4_readTwoNumbers (l : Launch) (G : qx_G) (ρ : qx_Sg) (N : Nat) (u r : Nat → Int32) (t p : Nat) (hJ : tJ ρ r t p) (hN : N ≤ 8) (a b : Int32) : qx_Ct l G yX4_readTwoNumbers cX4_readTwoNumbers 3 (some .boolean) 2 41 [.ref (qx_ad G 42), .int a, .int b] (qL ρ 14 N u) (cPo r t ρ (t_2P r t a b p) (t_2p r t a b p) (fun ρ1 N1 u1 => N1 = N ∧ u1 = u ∧ ρ1 42 2 = tV r t (tE r t p) ∧ ρ1 42 3 = tV r t (t_2q r t a p))) := by
  refine qx_of .boolean (lo := [(0, .ref (qx_ad G 42)), (1, .int a), (2, .int b)]) (by decide +kernel) (Nat.le_of_ble_eq_true rfl) rfl (fun Δ (C : qx_C G Δ cX4_readTwoNumbers RX4 3 2 41) hret => ?_)
  have hJ1 := tJ_nx hJ
  refine qk_aloadn C dX4_readTwoNumbers_0 1 rfl rfl 0 rfl ?_
  refine qk_get C dX4_readTwoNumbers_1 4 rfl qf_X4_18 42 (by decide) rfl rfl ?_
  refine qk_callV C dX4_readTwoNumbers_4 7 rfl ql_X4_38 qc_X3_readToken 40 (by decide) rfl rfl (c_rdT2 l G ρ r t p hJ N hN u) rfl rfl (Nat.le_of_ble_eq_true rfl) ⟨(Nat.le_of_ble_eq_true rfl), (Nat.le_of_ble_eq_true rfl)⟩ (qx_Kv ?_)
  refine qk_aloadn C dX4_readTwoNumbers_7 8 rfl rfl 0 rfl ?_
  refine qk_get C dX4_readTwoNumbers_8 11 rfl qf_X4_18 42 (by decide) rfl rfl ?_
  refine qk_iloadn C dX4_readTwoNumbers_11 12 rfl rfl 1 rfl ?_
  refine qk_callV C dX4_readTwoNumbers_12 15 rfl ql_X4_92 qc_X3_isNumber 40 (by decide) rfl rfl (c_rdN2 l G (cN r t ρ) r t (tE r t p) hJ1 N hN u _) rfl rfl (Nat.le_of_ble_eq_true rfl) ⟨(Nat.le_of_ble_eq_true rfl), (Nat.le_of_ble_eq_true rfl)⟩ (qx_Ki ?_)
  refine qk_if_neB C dX4_readTwoNumbers_15 20 rfl 18 rfl (fun c_15 => ?_) (fun c_15 => ?_)
  · have e2 : (t_2q r t a p) = tE r t (tE r t p) := t_av_t c_15
    have hJ3 : tJ (cN r t (va_up (cN r t ρ) 42 (upd ((cN r t ρ) 42) 2 (tV r t (tE r t p))))) r t (t_2q r t a p) := by rw [e2]; exact tJ_nx (tJ_42 hJ1)
    refine qk_aloadn C dX4_readTwoNumbers_20 21 rfl rfl 0 rfl ?_
    refine qk_aloadn C dX4_readTwoNumbers_21 22 rfl rfl 0 rfl ?_
    refine qk_get C dX4_readTwoNumbers_22 25 rfl qf_X4_18 42 (by decide) rfl rfl ?_
    refine qk_get C dX4_readTwoNumbers_25 28 rfl qf_X4_95 40 (by decide) rfl rfl ?_
    refine qk_cast (show _ = tV r t (tE r t p) from tJ_v hN hJ1 c_15.1) ?_
    refine qk_put C .int dX4_readTwoNumbers_28 31 rfl qf_X4_9 42 (by decide) rfl (fun q hq => by cases hq; rfl) rfl rfl (Nat.le_of_ble_eq_true rfl) rfl ?_
    refine qk_sg (qL (va_up (cN r t ρ) 42 (upd ((cN r t ρ) 42) 2 (tV r t (tE r t p)))) 14 N u) (c_p42 hN) ?_
    refine qk_aloadn C dX4_readTwoNumbers_31 32 rfl rfl 0 rfl ?_
    refine qk_get C dX4_readTwoNumbers_32 35 rfl qf_X4_18 42 (by decide) rfl rfl ?_
    refine qk_callV C dX4_readTwoNumbers_35 38 rfl ql_X4_38 qc_X3_readToken 40 (by decide) rfl rfl (c_rdT2 l G (va_up (cN r t ρ) 42 (upd ((cN r t ρ) 42) 2 (tV r t (tE r t p)))) r t (tE r t p) (tJ_42 hJ1) N hN u) rfl rfl (Nat.le_of_ble_eq_true rfl) ⟨(Nat.le_of_ble_eq_true rfl), (Nat.le_of_ble_eq_true rfl)⟩ (qx_Kv ?_)
    refine qk_aloadn C dX4_readTwoNumbers_38 39 rfl rfl 0 rfl ?_
    refine qk_get C dX4_readTwoNumbers_39 42 rfl qf_X4_18 42 (by decide) rfl rfl ?_
    refine qk_iloadn C dX4_readTwoNumbers_42 43 rfl rfl 2 rfl ?_
    refine qk_callV C dX4_readTwoNumbers_43 46 rfl ql_X4_92 qc_X3_isNumber 40 (by decide) rfl rfl (c_rdN2 l G (cN r t (va_up (cN r t ρ) 42 (upd ((cN r t ρ) 42) 2 (tV r t (tE r t p))))) r t (t_2q r t a p) hJ3 N hN u _) rfl rfl (Nat.le_of_ble_eq_true rfl) ⟨(Nat.le_of_ble_eq_true rfl), (Nat.le_of_ble_eq_true rfl)⟩ (qx_Ki ?_)
    refine qk_if_neB C dX4_readTwoNumbers_46 51 rfl 49 rfl (fun c_46 => ?_) (fun c_46 => ?_)
    · have e3 : t_2p r t a b p = tE r t (t_2q r t a p) := t_av_t ⟨c_15, c_46⟩
      refine qk_aloadn C dX4_readTwoNumbers_51 52 rfl rfl 0 rfl ?_
      refine qk_aloadn C dX4_readTwoNumbers_52 53 rfl rfl 0 rfl ?_
      refine qk_get C dX4_readTwoNumbers_53 56 rfl qf_X4_18 42 (by decide) rfl rfl ?_
      refine qk_get C dX4_readTwoNumbers_56 59 rfl qf_X4_95 40 (by decide) rfl rfl ?_
      refine qk_cast (show _ = tV r t (t_2q r t a p) from tJ_v hN hJ3 c_46.1) ?_
      refine qk_put C .int dX4_readTwoNumbers_59 62 rfl qf_X4_15 42 (by decide) rfl (fun q hq => by cases hq; rfl) rfl rfl (Nat.le_of_ble_eq_true rfl) rfl ?_
      refine qk_sg (qL (va_up (cN r t (va_up (cN r t ρ) 42 (upd ((cN r t ρ) 42) 2 (tV r t (tE r t p))))) 42 (upd ((cN r t (va_up (cN r t ρ) 42 (upd ((cN r t ρ) 42) 2 (tV r t (tE r t p))))) 42) 3 (tV r t (t_2q r t a p)))) 14 N u) (c_p42 hN) ?_
      refine qk_aloadn C dX4_readTwoNumbers_62 63 rfl rfl 0 rfl ?_
      refine qk_get C dX4_readTwoNumbers_63 66 rfl qf_X4_18 42 (by decide) rfl rfl ?_
      refine qk_callV C dX4_readTwoNumbers_66 69 rfl ql_X4_38 qc_X3_readToken 40 (by decide) rfl rfl (c_rdT2 l G (va_up (cN r t (va_up (cN r t ρ) 42 (upd ((cN r t ρ) 42) 2 (tV r t (tE r t p))))) 42 (upd ((cN r t (va_up (cN r t ρ) 42 (upd ((cN r t ρ) 42) 2 (tV r t (tE r t p))))) 42) 3 (tV r t (t_2q r t a p)))) r t (t_2q r t a p) (tJ_42 hJ3) N hN u) rfl rfl (Nat.le_of_ble_eq_true rfl) ⟨(Nat.le_of_ble_eq_true rfl), (Nat.le_of_ble_eq_true rfl)⟩ (qx_Kv ?_)
      refine qk_iconst C (1) dX4_readTwoNumbers_69 70 rfl rfl ?_
      exact hret _ _ _ _ dX4_readTwoNumbers_70 (cPo_t ⟨c_15, c_46⟩ hN (by rw [e3]; exact tJ_nx (tJ_42 hJ3)) cTr.rf.p40.p42.p40.p42.p40 ⟨rfl, rfl, rfl, rfl⟩) rfl
    · have e3 : t_2p r t a b p = (t_2q r t a p) := t_av_f (fun q : t_2P r t a b p => c_46 q.2)
      refine qk_iconst C (0) dX4_readTwoNumbers_49 50 rfl rfl ?_
      exact hret _ _ _ _ dX4_readTwoNumbers_50 (cPo_f (fun z => c_46 z.2) hN (by rw [e3]; exact hJ3) cTr.rf.p40.p42.p40) rfl
  · have e2 : (t_2q r t a p) = (tE r t p) := t_av_f c_15
    have e3 : t_2p r t a b p = (tE r t p) := (t_av_f (fun q : t_2P r t a b p => c_15 q.1)).trans e2
    refine qk_iconst C (0) dX4_readTwoNumbers_18 19 rfl rfl ?_
    exact hret _ _ _ _ dX4_readTwoNumbers_19 (cPo_f (fun z => c_15 z.1) hN (by rw [e3]; exact hJ1) cTr.rf.p40) rfl

theorem c_X4_readBequest (l : Launch) (G : qx_G) (ρ : qx_Sg) (N : Nat) (u r : Nat → Int32) (t p : Nat) (hJ : tJ ρ r t p) (hI : qv_ok u N) : qx_Ct l G yX4_readBequest cX4_readBequest 1 (some .boolean) 3 63 [.ref (qx_ad G 42)] (qL ρ 14 N u) (cPo r t ρ (t_2P r t 5 12 p) (t_2p r t 5 12 p) (cZ N (upd u (4 + zn (tV r t (tE r t p))) (tV r t (t_2q r t 5 p))))) := by
  refine qx_of .boolean (lo := [(0, .ref (qx_ad G 42))]) (by decide +kernel) (Nat.le_of_ble_eq_true rfl) rfl (fun Δ (C : qx_C G Δ cX4_readBequest RX4 1 3 63) hret => ?_)
  have hN8 := hI.1
  have hM : qx_isL 14 := Or.inr (Or.inl rfl)
  refine qk_aloadn C dX4_readBequest_0 1 rfl rfl 0 rfl ?_
  refine qk_iconst C (5) dX4_readBequest_1 2 rfl rfl ?_
  refine qk_bipush C (12) dX4_readBequest_2 4 rfl rfl ?_
  refine qk_callV C dX4_readBequest_4 7 rfl ql_X4_80 qc_X4_readTwoNumbers 42 (by decide) rfl rfl (c_X4_readTwoNumbers l G ρ N u r t p hJ hN8 5 12) rfl rfl (Nat.le_of_ble_eq_true rfl) ⟨(Nat.le_of_ble_eq_true rfl), (Nat.le_of_ble_eq_true rfl)⟩ (qx_KR ?_)
  intro ρ1 N1 u1 hN1 hJ1 hT1 hZ1
  refine qk_if_neB C dX4_readBequest_7 12 rfl 10 rfl (fun c_7 => ?_) (fun c_7 => ?_)
  · obtain ⟨e0, e1, e2, e3⟩ := hZ1 c_7
    obtain ⟨i, hi, ei⟩ := t_nu_ex 5 rfl (by omega) c_7.1
    rw [e0, e1]
    refine qk_aloadn C dX4_readBequest_12 13 rfl rfl 0 rfl ?_
    refine qk_get C dX4_readBequest_13 16 rfl qf_X4_22 42 (by decide) rfl rfl ?_
    refine qk_get C dX4_readBequest_16 19 rfl qf_X4_84 _ hM.l65 (qx_Fl hM _) rfl ?_
    refine qk_aloadn C dX4_readBequest_19 20 rfl rfl 0 rfl ?_
    refine qk_get C dX4_readBequest_20 23 rfl qf_X4_9 42 (by decide) rfl rfl ?_
    refine qk_cast (show qL ρ1 14 N u 42 2 = nI i from by rw [qL_hi14 hN8 (by omega), e2, ei]) ?_
    refine qk_aloadn C dX4_readBequest_23 24 rfl rfl 0 rfl ?_
    refine qk_get C dX4_readBequest_24 27 rfl qf_X4_15 42 (by decide) rfl rfl ?_
    refine qk_cast (show qL ρ1 14 N u 42 3 = tV r t (t_2q r t 5 p) from by rw [qL_hi14 hN8 (by omega), e3]) ?_
    refine qk_iast C dX4_readBequest_27 28 rfl (14 + 1) hM.l1 (qx_Fl1 hM) (i) rfl (by omega) (by decide) ?_
    refine qk_cg _ (qL_w1 hM hN8 (i) (by omega) _) ?_
    refine qk_iconst C (1) dX4_readBequest_28 29 rfl rfl ?_
    exact hret _ _ _ _ dX4_readBequest_29 (cPo_t c_7 hN8 hJ1 hT1 ⟨rfl, by rw [ei, zn_nI (by omega)]⟩) rfl
  · refine qk_iconst C (0) dX4_readBequest_10 11 rfl rfl ?_
    exact hret _ _ _ _ dX4_readBequest_11 (cPo_f c_7 hN1 hJ1 hT1) rfl

theorem c_X4_readStore (l : Launch) (G : qx_G) (ρ : qx_Sg) (N : Nat) (u r : Nat → Int32) (t p : Nat) (hJ : tJ ρ r t p) (hI : qv_ok u N) : qx_Ct l G yX4_readStore cX4_readStore 1 (some .boolean) 3 63 [.ref (qx_ad G 42)] (qL ρ 14 N u) (cPo r t ρ (t_2P r t 11 99 p) (t_2p r t 11 99 p) (cZ N (upd u (10 + zn (tV r t (tE r t p))) (tV r t (t_2q r t 11 p))))) := by
  refine qx_of .boolean (lo := [(0, .ref (qx_ad G 42))]) (by decide +kernel) (Nat.le_of_ble_eq_true rfl) rfl (fun Δ (C : qx_C G Δ cX4_readStore RX4 1 3 63) hret => ?_)
  have hN8 := hI.1
  have hM : qx_isL 14 := Or.inr (Or.inl rfl)
  refine qk_aloadn C dX4_readStore_0 1 rfl rfl 0 rfl ?_
  refine qk_bipush C (11) dX4_readStore_1 3 rfl rfl ?_
  refine qk_bipush C (99) dX4_readStore_3 5 rfl rfl ?_
  refine qk_callV C dX4_readStore_5 8 rfl ql_X4_80 qc_X4_readTwoNumbers 42 (by decide) rfl rfl (c_X4_readTwoNumbers l G ρ N u r t p hJ hN8 11 99) rfl rfl (Nat.le_of_ble_eq_true rfl) ⟨(Nat.le_of_ble_eq_true rfl), (Nat.le_of_ble_eq_true rfl)⟩ (qx_KR ?_)
  intro ρ1 N1 u1 hN1 hJ1 hT1 hZ1
  refine qk_if_neB C dX4_readStore_8 13 rfl 11 rfl (fun c_8 => ?_) (fun c_8 => ?_)
  · obtain ⟨e0, e1, e2, e3⟩ := hZ1 c_8
    obtain ⟨i, hi, ei⟩ := t_nu_ex 11 rfl (by omega) c_8.1
    rw [e0, e1]
    refine qk_aloadn C dX4_readStore_13 14 rfl rfl 0 rfl ?_
    refine qk_get C dX4_readStore_14 17 rfl qf_X4_22 42 (by decide) rfl rfl ?_
    refine qk_get C dX4_readStore_17 20 rfl qf_X4_90 _ hM.l65 (qx_Fl hM _) rfl ?_
    refine qk_aloadn C dX4_readStore_20 21 rfl rfl 0 rfl ?_
    refine qk_get C dX4_readStore_21 24 rfl qf_X4_9 42 (by decide) rfl rfl ?_
    refine qk_cast (show qL ρ1 14 N u 42 2 = nI i from by rw [qL_hi14 hN8 (by omega), e2, ei]) ?_
    refine qk_aloadn C dX4_readStore_24 25 rfl rfl 0 rfl ?_
    refine qk_get C dX4_readStore_25 28 rfl qf_X4_15 42 (by decide) rfl rfl ?_
    refine qk_cast (show qL ρ1 14 N u 42 3 = tV r t (t_2q r t 11 p) from by rw [qL_hi14 hN8 (by omega), e3]) ?_
    refine qk_iast C dX4_readStore_28 29 rfl (14 + 2) hM.l2 (qx_Fl2 hM) (i) rfl (by omega) (by decide) ?_
    refine qk_cg _ (qL_w2 hM hN8 (i) (by omega) _) ?_
    refine qk_iconst C (1) dX4_readStore_29 30 rfl rfl ?_
    exact hret _ _ _ _ dX4_readStore_30 (cPo_t c_8 hN8 hJ1 hT1 ⟨rfl, by rw [ei, zn_nI (by omega)]⟩) rfl
  · refine qk_iconst C (0) dX4_readStore_11 12 rfl rfl ?_
    exact hret _ _ _ _ dX4_readStore_12 (cPo_f c_8 hN1 hJ1 hT1) rfl

theorem c_X4_readMore (l : Launch) (G : qx_G) (ρ : qx_Sg) (N : Nat) (u r : Nat → Int32) (t p : Nat) (hJ : tJ ρ r t p) (hN8 : N ≤ 8) (j : Nat) (hj : j < N) (i : Nat) (hi : i < 12) (w : Nat) (hw : w < 7) (m : Int32) (hm : qx_most.getD w 0 = m) : qx_Ct l G yX4_readMore cX4_readMore 4 (some .boolean) 5 107 [.ref (qx_ad G 42), .ref (qx_ad G (14 + 5 + j)), .ref (qx_ad G (100 + i)), .int (nI w)] (qL ρ 14 N u) (cPo r t ρ (t_oO r t i m p True) (t_oP r t i m p True) (cZ N (tif (t_w r t i p) (upd u (32 + 7 * j + w) (tV r t (tE r t p))) u))) := by
  refine qx_of .boolean (lo := [(0, .ref (qx_ad G 42)), (1, .ref (qx_ad G (14 + 5 + j))), (2, .ref (qx_ad G (100 + i))), (3, .int (nI w))]) (by decide +kernel) (Nat.le_of_ble_eq_true rfl) rfl (fun Δ (C : qx_C G Δ cX4_readMore RX4 4 5 107) hret => ?_)
  have hM : qx_isL 14 := Or.inr (Or.inl rfl)
  have hJ1 := tJ_nx hJ
  refine qk_aloadn C dX4_readMore_0 1 rfl rfl 0 rfl ?_
  refine qk_get C dX4_readMore_1 4 rfl qf_X4_18 42 (by decide) rfl rfl ?_
  refine qk_aloadn C dX4_readMore_4 5 rfl rfl 2 rfl ?_
  refine qk_callV C dX4_readMore_5 8 rfl ql_X4_46 qc_X3_isWord 40 (by decide) rfl rfl (c_rdW2 l G ρ r t p hJ N hN8 u i hi) rfl rfl (Nat.le_of_ble_eq_true rfl) ⟨(Nat.le_of_ble_eq_true rfl), (Nat.le_of_ble_eq_true rfl)⟩ (qx_Ki ?_)
  refine qk_if_neB C dX4_readMore_8 13 rfl 11 rfl (fun c_8 => ?_) (fun c_8 => ?_)
  · refine qk_aloadn C dX4_readMore_13 14 rfl rfl 0 rfl ?_
    refine qk_get C dX4_readMore_14 17 rfl qf_X4_18 42 (by decide) rfl rfl ?_
    refine qk_callV C dX4_readMore_17 20 rfl ql_X4_38 qc_X3_readToken 40 (by decide) rfl rfl (c_rdT2 l G ρ r t p hJ N hN8 u) rfl rfl (Nat.le_of_ble_eq_true rfl) ⟨(Nat.le_of_ble_eq_true rfl), (Nat.le_of_ble_eq_true rfl)⟩ (qx_Kv ?_)
    refine qk_aloadn C dX4_readMore_20 21 rfl rfl 0 rfl ?_
    refine qk_get C dX4_readMore_21 24 rfl qf_X4_18 42 (by decide) rfl rfl ?_
    refine qk_gMost C dX4_readMore_24 27 rfl (Or.inr ⟨_, qw_771⟩) ?_
    refine qk_iloadn C dX4_readMore_27 28 rfl rfl 3 rfl ?_
    refine qk_tMost C dX4_readMore_28 29 rfl w rfl hw ?_
    refine qk_cast (hm) ?_
    refine qk_callV C dX4_readMore_29 32 rfl ql_X4_92 qc_X3_isNumber 40 (by decide) rfl rfl (c_rdN2 l G (cN r t ρ) r t (tE r t p) hJ1 N hN8 u m) rfl rfl (Nat.le_of_ble_eq_true rfl) ⟨(Nat.le_of_ble_eq_true rfl), (Nat.le_of_ble_eq_true rfl)⟩ (qx_Ki ?_)
    refine qk_if_neB C dX4_readMore_32 37 rfl 35 rfl (fun c_32 => ?_) (fun c_32 => ?_)
    · refine qk_aloadn C dX4_readMore_37 38 rfl rfl 1 rfl ?_
      refine qk_iloadn C dX4_readMore_38 39 rfl rfl 3 rfl ?_
      refine qk_aloadn C dX4_readMore_39 40 rfl rfl 0 rfl ?_
      refine qk_get C dX4_readMore_40 43 rfl qf_X4_18 42 (by decide) rfl rfl ?_
      refine qk_get C dX4_readMore_43 46 rfl qf_X4_95 40 (by decide) rfl rfl ?_
      refine qk_cast (show _ = tV r t (tE r t p) from tJ_v hN8 hJ1 c_32.1) ?_
      refine qk_callV C dX4_readMore_46 49 rfl ql_X4_126 qc_X0_become _ (qx_isB.of hM (show j < 8 by omega)).lt (qx_Fb (qx_isB.of hM (show j < 8 by omega)) _) rfl (cL_X0_become l G 14 N j hM hN8 hj (cN r t ρ) u w hw _) rfl rfl (Nat.le_of_ble_eq_true rfl) ⟨(Nat.le_of_ble_eq_true rfl), (Nat.le_of_ble_eq_true rfl)⟩ (qx_Kv ?_)
      refine qk_aloadn C dX4_readMore_49 50 rfl rfl 0 rfl ?_
      refine qk_get C dX4_readMore_50 53 rfl qf_X4_18 42 (by decide) rfl rfl ?_
      refine qk_callV C dX4_readMore_53 56 rfl ql_X4_38 qc_X3_readToken 40 (by decide) rfl rfl (c_rdT2 l G (cN r t ρ) r t (tE r t p) hJ1 N hN8 _) rfl rfl (Nat.le_of_ble_eq_true rfl) ⟨(Nat.le_of_ble_eq_true rfl), (Nat.le_of_ble_eq_true rfl)⟩ (qx_Kv ?_)
      refine qk_iconst C (1) dX4_readMore_56 57 rfl rfl ?_
      exact hret _ _ _ _ dX4_readMore_57 (cPo_t (t_oY (m := m) (d := 0) trivial c_8 c_32).1 hN8 (by rw [(t_oY (m := m) (d := 0) trivial c_8 c_32).2.1]; exact tJ_nx hJ1) cTr.rf.p40.p40 ⟨rfl, (tif_t c_8).symm⟩) rfl
    · refine qk_iconst C (0) dX4_readMore_35 36 rfl rfl ?_
      exact hret _ _ _ _ dX4_readMore_36 (cPo_f (t_oX (m := m) (d := 0) trivial c_8 c_32).1 hN8 (by rw [(t_oX (m := m) (d := 0) trivial c_8 c_32).2.1]; exact hJ1) cTr.rf.p40) rfl
  · refine qk_iconst C (1) dX4_readMore_11 12 rfl rfl ?_
    exact hret _ _ _ _ dX4_readMore_12 (cPo_t (t_oN (m := m) (d := 0) trivial c_8).1 hN8 (by rw [(t_oN (m := m) (d := 0) trivial c_8).2.1]; exact hJ) cTr.rf ⟨rfl, (tif_f c_8).symm⟩) rfl

theorem c_X4_readSeal (l : Launch) (G : qx_G) (ρ : qx_Sg) (N : Nat) (u r : Nat → Int32) (t p : Nat) (hJ : tJ ρ r t p) (hN8 : N ≤ 8) (j : Nat) (hj : j < N) : qx_Ct l G yX4_readSeal cX4_readSeal 2 (some .boolean) 5 107 [.ref (qx_ad G 42), .ref (qx_ad G (14 + 5 + j))] (qL ρ 14 N u) (cPo r t ρ True (t_av r t (t_w r t 9 p) p) (cZ N (tif (t_w r t 9 p) (upd u (32 + 7 * j + 5) 1) u))) := by
  refine qx_of .boolean (lo := [(0, .ref (qx_ad G 42)), (1, .ref (qx_ad G (14 + 5 + j)))]) (by decide +kernel) (Nat.le_of_ble_eq_true rfl) rfl (fun Δ (C : qx_C G Δ cX4_readSeal RX4 2 5 107) hret => ?_)
  have hM : qx_isL 14 := Or.inr (Or.inl rfl)
  have hJ1 := tJ_nx hJ
  refine qk_aloadn C dX4_readSeal_0 1 rfl rfl 0 rfl ?_
  refine qk_get C dX4_readSeal_1 4 rfl qf_X4_18 42 (by decide) rfl rfl ?_
  refine qk_ldcS C 9 (tx := "sealed") dX4_readSeal_4 6 rfl (by decide) ?_
  refine qk_callV C dX4_readSeal_6 9 rfl ql_X4_46 qc_X3_isWord 40 (by decide) rfl rfl (c_rdW2 l G ρ r t p hJ N hN8 u 9 (by omega)) rfl rfl (Nat.le_of_ble_eq_true rfl) ⟨(Nat.le_of_ble_eq_true rfl), (Nat.le_of_ble_eq_true rfl)⟩ (qx_Ki ?_)
  refine qk_if_eqB C dX4_readSeal_9 24 rfl 12 rfl (fun c_9 => ?_) (fun c_9 => ?_)
  · refine qk_iconst C (1) dX4_readSeal_24 25 rfl rfl ?_
    exact hret _ _ _ _ dX4_readSeal_25 (cPo_t trivial hN8 (by rw [t_av_f c_9]; exact hJ) cTr.rf ⟨rfl, (tif_f c_9).symm⟩) rfl
  · refine qk_aloadn C dX4_readSeal_12 13 rfl rfl 1 rfl ?_
    refine qk_iconst C (1) dX4_readSeal_13 14 rfl rfl ?_
    refine qk_put C .int dX4_readSeal_14 17 rfl qf_X4_132 _ (qx_isB.of hM (show j < 8 by omega)).lt (qx_Fb (qx_isB.of hM (show j < 8 by omega)) _) (fun q hq => by cases hq; rfl) rfl rfl (Nat.le_of_ble_eq_true rfl) (qx_Fb (qx_isB.of hM (show j < 8 by omega)) _) ?_
    refine qk_cg _ (qL_wb hM hN8 hj 5 (by decide) _) ?_
    refine qk_aloadn C dX4_readSeal_17 18 rfl rfl 0 rfl ?_
    refine qk_get C dX4_readSeal_18 21 rfl qf_X4_18 42 (by decide) rfl rfl ?_
    refine qk_callV C dX4_readSeal_21 24 rfl ql_X4_38 qc_X3_readToken 40 (by decide) rfl rfl (c_rdT2 l G ρ r t p hJ N hN8 _) rfl rfl (Nat.le_of_ble_eq_true rfl) ⟨(Nat.le_of_ble_eq_true rfl), (Nat.le_of_ble_eq_true rfl)⟩ (qx_Kv ?_)
    refine qk_iconst C (1) dX4_readSeal_24 25 rfl rfl ?_
    exact hret _ _ _ _ dX4_readSeal_25 (cPo_t trivial hN8 (by rw [t_av_t c_9]; exact hJ1) cTr.rf.p40 ⟨rfl, (tif_t c_9).symm⟩) rfl

theorem t_b_full {r : Nat → Int32} {t N p : Nat} (h : 8 ≤ N) : ¬ t_b6 r t N p ∧ t_b7p r t N p = p := by
  have hn : ¬ N < 8 := by omega
  have h6 : ¬ t_b6 r t N p := fun q => hn q.1.1.1
  have e1 : t_b1p r t N p = p := t_av_f hn
  have e2 : t_b2p r t N p = p := (t_av_f (fun q : t_b2 r t N p => hn q.1)).trans e1
  have e4 : t_b4p r t N p = p := (t_oF (d := 0) (fun q : t_b2 r t N p => hn q.1)).2.1.trans e2
  have e6 : t_b6p r t N p = p := (t_oF (d := 0) (fun q : t_b4 r t N p => hn q.1.1)).2.1.trans e4
  exact ⟨h6, (t_av_f (fun q : _ ∧ _ => h6 q.1)).trans e6⟩
theorem t_b_date {r : Nat → Int32} {t N p : Nat} (h : N < 8) (g : ¬ t_nu r t 999 (tE r t p)) : ¬ t_b6 r t N p ∧ t_b7p r t N p = tE r t p := by
  have e1 : t_b1p r t N p = tE r t p := t_av_t h
  have h2 : ¬ t_b2 r t N p := fun q => g (by have := q.2; rw [e1] at this; exact this)
  have h6 : ¬ t_b6 r t N p := fun q => h2 q.1.1
  have e2 : t_b2p r t N p = tE r t p := (t_av_f h2).trans e1
  have e4 : t_b4p r t N p = tE r t p := (t_oF (d := 0) h2).2.1.trans e2
  have e6 : t_b6p r t N p = tE r t p := (t_oF (d := 0) (fun q : t_b4 r t N p => h2 q.1)).2.1.trans e4
  exact ⟨h6, (t_av_f (fun q : _ ∧ _ => h6 q.1)).trans e6⟩
theorem t_b_two {r : Nat → Int32} {t N p : Nat} (h : N < 8) (g : t_nu r t 999 (tE r t p)) : t_b2 r t N p = True ∧ t_b2p r t N p = tE r t (tE r t p) ∧ t_bd r t N p = tV r t (tE r t p) := by
  have e1 : t_b1p r t N p = tE r t p := t_av_t h
  have h2 : t_b2 r t N p := ⟨h, by rw [e1]; exact g⟩
  refine ⟨eq_true h2, ?_, ?_⟩
  · unfold t_b2p; rw [t_av_t h2, e1]
  · unfold t_bd; rw [e1]
theorem t_b_has {r : Nat → Int32} {t N p : Nat} (h : ¬ t_b4 r t N p) : ¬ t_b6 r t N p ∧ t_b7p r t N p = t_b4p r t N p := by
  have h6 : ¬ t_b6 r t N p := fun q => h q.1
  exact ⟨h6, (t_av_f (fun q : _ ∧ _ => h6 q.1)).trans (t_oF (d := 0) h).2.1⟩
theorem t_b_at {r : Nat → Int32} {t N p : Nat} (h : ¬ t_b6 r t N p) : t_b7p r t N p = t_b6p r t N p := t_av_f (fun q : _ ∧ _ => h q.1)
theorem tif_upd {U : Nat → Int32} {i : Nat} {x d : Int32} {W : Prop} (hd : U i = d) : tif W (upd U i x) U = upd U i (tif (True ∧ W) x d) := by
  by_cases c : W
  · rw [tif_t c, tif_t ⟨trivial, c⟩]
  · rw [tif_f c, tif_f (fun q => c q.2), ← hd, m_ups]
theorem z_cm_f {w : Nat → Int32} {N f : Nat} {kd dt : Int32} (hf : f < 7) : z_cm w N kd dt (32 + 7 * N + f) = z_bg kd dt f := by
  unfold z_cm
  rw [if_neg (by omega), if_pos ⟨by omega, by omega⟩, show 32 + 7 * N + f - (32 + 7 * N) = f by omega]
theorem qv_fr2 {v : Nat → Int32} {N : Nat} (h : qv_ok v N) {b h2 : Nat} (hb : b < N) (hh : h2 < 4096) : qv_ok (upd v (32 + 7 * b + 2) (nI h2)) N :=
  qv_upd h _ _ (fun e => by omega) (by omega) (fun j hj e => by omega) (fun c hc e => by omega) (fun c hc e => ⟨h2, hh, rfl⟩) (fun c hc e => by omega) (fun j hj e => by omega)
theorem z_cm_dt {v : Nat → Int32} {N : Nat} {kd d x : Int32} : upd (z_cm v N kd d) (32 + 7 * N + 1) x = z_cm v N kd x := by
  funext i
  by_cases e : i = 32 + 7 * N + 1
  · subst e
    rw [upd_eq, z_cm_f (by omega)]
    rfl
  · rw [upd_ne e]
    unfold z_cm
    by_cases h1 : i = 1
    · rw [if_pos h1, if_pos h1]
    · rw [if_neg h1, if_neg h1]
      by_cases h2 : 32 + 7 * N ≤ i ∧ i < 32 + 7 * N + 7
      · rw [if_pos h2, if_pos h2]
        have h3 : ¬ i - (32 + 7 * N) = 1 := by omega
        unfold z_bg
        rw [if_neg h3, if_neg h3]
      · rw [if_neg h2, if_neg h2]
theorem c_X4_readBust (l : Launch) (G : qx_G) (ρ : qx_Sg) (N : Nat) (u r : Nat → Int32) (t p : Nat) (hJ : tJ ρ r t p) (hI : qv_ok u N) (k : Nat) : qx_Ct l G yX4_readBust cX4_readBust 4 (some .boolean) 6 130 [.ref (qx_ad G 42), .int (nI k)] (qL ρ 14 N u) (cPo r t ρ (t_b6 r t N p) (t_b7p r t N p) (cZ (N + 1) (upd (upd (upd (z_cm u N (nI k) (t_bd r t N p)) (32 + 7 * N + 2) (t_bh r t N p)) (32 + 7 * N + 3) (t_bA r t N p)) (32 + 7 * N + 5) (t_bs r t N p)))) := by
  refine qx_of .boolean (lo := [(0, .ref (qx_ad G 42)), (1, .int (nI k))]) (by decide +kernel) (Nat.le_of_ble_eq_true rfl) rfl (fun Δ (C : qx_C G Δ cX4_readBust RX4 4 6 130) hret => ?_)
  have hN8 := hI.1
  have hM : qx_isL 14 := Or.inr (Or.inl rfl)
  have hJ1 := tJ_nx hJ
  rcases Nat.lt_or_ge N 8 with hN7 | h8
  · refine qk_aloadn C dX4_readBust_0 1 rfl rfl 0 rfl ?_
    refine qk_get C dX4_readBust_1 4 rfl qf_X4_22 42 (by decide) rfl rfl ?_
    refine qk_iloadn C dX4_readBust_4 5 rfl rfl 1 rfl ?_
    refine qk_iconst C (0) dX4_readBust_5 6 rfl rfl ?_
    refine qk_callV C dX4_readBust_6 9 rfl ql_X4_98 qc_X1_addBust _ hM.l65 (qx_Fl hM _) rfl (c_X1_addBust l G 14 N hM ρ u hI hN7 _ _) rfl rfl (Nat.le_of_ble_eq_true rfl) ⟨(Nat.le_of_ble_eq_true rfl), (Nat.le_of_ble_eq_true rfl)⟩ (qx_Ki ?_)
    refine qk_istoren C dX4_readBust_9 10 rfl rfl (by decide) rfl ?_
    refine qk_iloadn C dX4_readBust_10 11 rfl rfl 0 rfl ?_
    refine qk_if_ge C dX4_readBust_11 16 rfl 14 rfl (fun c_11 => ?_) (fun c_11 => absurd (nI_pos' (by omega)) c_11)
    refine qk_aloadn C dX4_readBust_16 17 rfl rfl 1 rfl ?_
    refine qk_get C dX4_readBust_17 20 rfl qf_X4_22 42 (by decide) rfl rfl ?_
    refine qk_get C dX4_readBust_20 23 rfl qf_X4_102 _ hM.l65 (qx_Fl hM _) rfl ?_
    refine qk_iloadn C dX4_readBust_23 24 rfl rfl 0 rfl ?_
    refine qk_aald C dX4_readBust_24 25 rfl (14 + 4) hM.l4 1 (qx_Fl4 hM _) rfl (N) rfl (by omega) (by decide) rfl ?_
    refine qk_astoren C dX4_readBust_25 26 rfl rfl (by decide) rfl ?_
    refine qk_aloadn C dX4_readBust_26 27 rfl rfl 2 rfl ?_
    refine qk_get C dX4_readBust_27 30 rfl qf_X4_18 42 (by decide) rfl rfl ?_
    refine qk_callV C dX4_readBust_30 33 rfl ql_X4_38 qc_X3_readToken 40 (by decide) rfl rfl (c_rdT2 l G ρ r t p hJ (N + 1) hN7 _) rfl rfl (Nat.le_of_ble_eq_true rfl) ⟨(Nat.le_of_ble_eq_true rfl), (Nat.le_of_ble_eq_true rfl)⟩ (qx_Kv ?_)
    refine qk_aloadn C dX4_readBust_33 34 rfl rfl 2 rfl ?_
    refine qk_get C dX4_readBust_34 37 rfl qf_X4_18 42 (by decide) rfl rfl ?_
    refine qk_sipush C (999) dX4_readBust_37 40 rfl rfl ?_
    refine qk_callV C dX4_readBust_40 43 rfl ql_X4_92 qc_X3_isNumber 40 (by decide) rfl rfl (c_rdN2 l G (cN r t ρ) r t (tE r t p) hJ1 (N + 1) hN7 _ _) rfl rfl (Nat.le_of_ble_eq_true rfl) ⟨(Nat.le_of_ble_eq_true rfl), (Nat.le_of_ble_eq_true rfl)⟩ (qx_Ki ?_)
    refine qk_if_neB C dX4_readBust_43 48 rfl 46 rfl (fun c_43 => ?_) (fun c_43 => ?_)
    · obtain ⟨q2, e2p, ebd⟩ := t_b_two (r := r) hN7 c_43
      have hJ2 : tJ (cN r t (cN r t ρ)) r t (t_b2p r t N p) := by rw [e2p]; exact tJ_nx hJ1
      have q4 : t_b4 r t N p = t_oO r t 7 4095 (t_b2p r t N p) True := by unfold t_b4; rw [q2]
      have q4p : t_b4p r t N p = t_oP r t 7 4095 (t_b2p r t N p) True := by unfold t_b4p; rw [q2]
      have qbh : t_bh r t N p = tif (True ∧ t_w r t 7 (t_b2p r t N p)) (tV r t (tE r t (t_b2p r t N p))) 3 := by unfold t_bh; rw [q2]; rfl
      refine qk_aloadn C dX4_readBust_48 49 rfl rfl 0 rfl ?_
      refine qk_aloadn C dX4_readBust_49 50 rfl rfl 2 rfl ?_
      refine qk_get C dX4_readBust_50 53 rfl qf_X4_18 42 (by decide) rfl rfl ?_
      refine qk_get C dX4_readBust_53 56 rfl qf_X4_95 40 (by decide) rfl rfl ?_
      refine qk_cast (show _ = t_bd r t N p from (tJ_v hN7 hJ1 c_43.1).trans ebd.symm) ?_
      refine qk_put C .int dX4_readBust_56 59 rfl qf_X4_106 _ (qx_isB.of hM (show N < 8 by omega)).lt (qx_Fb (qx_isB.of hM (show N < 8 by omega)) _) (fun q hq => by cases hq; rfl) rfl rfl (Nat.le_of_ble_eq_true rfl) (qx_Fb (qx_isB.of hM (show N < 8 by omega)) _) ?_
      refine qk_cg _ (qL_wb hM hN7 (Nat.lt_succ_self N) 1 (by decide) _) ?_
      rw [z_cm_dt]
      refine qk_aloadn C dX4_readBust_59 60 rfl rfl 2 rfl ?_
      refine qk_get C dX4_readBust_60 63 rfl qf_X4_18 42 (by decide) rfl rfl ?_
      refine qk_callV C dX4_readBust_63 66 rfl ql_X4_38 qc_X3_readToken 40 (by decide) rfl rfl (c_rdT2 l G (cN r t ρ) r t (tE r t p) hJ1 (N + 1) hN7 _) rfl rfl (Nat.le_of_ble_eq_true rfl) ⟨(Nat.le_of_ble_eq_true rfl), (Nat.le_of_ble_eq_true rfl)⟩ (qx_Kv ?_)
      refine qk_aloadn C dX4_readBust_66 67 rfl rfl 2 rfl ?_
      refine qk_aloadn C dX4_readBust_67 68 rfl rfl 0 rfl ?_
      refine qk_ldcS C 7 (tx := "has") dX4_readBust_68 70 rfl (by decide) ?_
      refine qk_iconst C (nI 2) dX4_readBust_70 71 rfl rfl ?_
      refine qk_callV C dX4_readBust_71 74 rfl ql_X4_113 qc_X4_readMore 42 (by decide) rfl rfl (c_X4_readMore l G (cN r t (cN r t ρ)) (N + 1) (z_cm u N (nI k) (t_bd r t N p)) r t (t_b2p r t N p) hJ2 hN7 N (by omega) 7 (by omega) 2 (by omega) 4095 rfl) rfl rfl (Nat.le_of_ble_eq_true rfl) ⟨(Nat.le_of_ble_eq_true rfl), (Nat.le_of_ble_eq_true rfl)⟩ (qx_KR ?_)
      intro ρ2 N2 u2 hN2 hJ3 hT2 hZ2
      refine qk_if_eqB C dX4_readBust_74 100 rfl 77 rfl (fun c_74 => ?_) (fun c_74 => ?_)
      · rw [← q4] at c_74
        rw [← q4p] at hJ3
        refine qk_iconst C (0) dX4_readBust_100 101 rfl rfl ?_
        exact hret _ _ _ _ dX4_readBust_101 (cPo_f (t_b_has c_74).1 hN2 (by rw [(t_b_has c_74).2]; exact hJ3) (cTr.rf.p40.p40.tr hT2)) rfl
      · obtain ⟨e0, e1⟩ := hZ2 c_74
        rw [tif_upd (d := 3) (z_cm_f (by omega)), ← qbh] at e1
        rw [← q4] at c_74
        rw [← q4p] at hJ3
        have p4 : t_b4 r t N p = True := eq_true c_74
        rw [e0, e1]
        have q6 : t_b6 r t N p = t_oO r t 8 15 (t_b4p r t N p) True := by unfold t_b6; rw [p4]
        have q6p : t_b6p r t N p = t_oP r t 8 15 (t_b4p r t N p) True := by unfold t_b6p; rw [p4]
        have qba : t_bA r t N p = tif (True ∧ t_w r t 8 (t_b4p r t N p)) (tV r t (tE r t (t_b4p r t N p))) 0 := by unfold t_bA; rw [p4]; rfl
        refine qk_aloadn C dX4_readBust_77 78 rfl rfl 2 rfl ?_
        refine qk_aloadn C dX4_readBust_78 79 rfl rfl 0 rfl ?_
        refine qk_ldcS C 8 (tx := "at") dX4_readBust_79 81 rfl (by decide) ?_
        refine qk_iconst C (nI 3) dX4_readBust_81 82 rfl rfl ?_
        refine qk_callV C dX4_readBust_82 85 rfl ql_X4_113 qc_X4_readMore 42 (by decide) rfl rfl (c_X4_readMore l G ρ2 (N + 1) (upd (z_cm u N (nI k) (t_bd r t N p)) (32 + 7 * N + 2) (t_bh r t N p)) r t (t_b4p r t N p) hJ3 hN7 N (by omega) 8 (by omega) 3 (by omega) 15 rfl) rfl rfl (Nat.le_of_ble_eq_true rfl) ⟨(Nat.le_of_ble_eq_true rfl), (Nat.le_of_ble_eq_true rfl)⟩ (qx_KR ?_)
        intro ρ3 N3 u3 hN3 hJ4 hT3 hZ3
        refine qk_if_eqB C dX4_readBust_85 100 rfl 88 rfl (fun c_85 => ?_) (fun c_85 => ?_)
        · rw [← q6] at c_85
          rw [← q6p] at hJ4
          refine qk_iconst C (0) dX4_readBust_100 101 rfl rfl ?_
          exact hret _ _ _ _ dX4_readBust_101 (cPo_f c_85 hN3 (by rw [t_b_at c_85]; exact hJ4) ((cTr.rf.p40.p40.tr hT2).tr hT3)) rfl
        · obtain ⟨e2, e3⟩ := hZ3 c_85
          rw [tif_upd (d := 0) ((upd_ne (by omega)).trans (z_cm_f (by omega))), ← qba] at e3
          rw [← q6] at c_85
          rw [← q6p] at hJ4
          have p6 : t_b6 r t N p = True := eq_true c_85
          rw [e2, e3]
          have q7p : t_b7p r t N p = t_av r t (t_w r t 9 (t_b6p r t N p)) (t_b6p r t N p) := by unfold t_b7p; rw [p6, true_and]
          have qbs : t_bs r t N p = tif (True ∧ t_w r t 9 (t_b6p r t N p)) 1 0 := by unfold t_bs; rw [p6]
          refine qk_aloadn C dX4_readBust_88 89 rfl rfl 2 rfl ?_
          refine qk_aloadn C dX4_readBust_89 90 rfl rfl 0 rfl ?_
          refine qk_callV C dX4_readBust_90 93 rfl ql_X4_119 qc_X4_readSeal 42 (by decide) rfl rfl (c_X4_readSeal l G ρ3 (N + 1) (upd (upd (z_cm u N (nI k) (t_bd r t N p)) (32 + 7 * N + 2) (t_bh r t N p)) (32 + 7 * N + 3) (t_bA r t N p)) r t (t_b6p r t N p) hJ4 hN7 N (by omega)) rfl rfl (Nat.le_of_ble_eq_true rfl) ⟨(Nat.le_of_ble_eq_true rfl), (Nat.le_of_ble_eq_true rfl)⟩ (qx_KR ?_)
          intro ρ4 N4 u4 hN4 hJ5 hT4 hZ4
          obtain ⟨e4, e5⟩ := hZ4 trivial
          rw [tif_upd (d := 0) ((upd_ne (by omega)).trans ((upd_ne (by omega)).trans (z_cm_f (by omega)))), ← qbs] at e5
          rw [← q7p] at hJ5
          rw [e4, e5]
          refine qk_if_eqB C dX4_readBust_93 100 rfl 96 rfl (fun c_93 => False.elim (c_93 trivial)) (fun c_93 => ?_)
          refine qk_iconst C (1) dX4_readBust_96 97 rfl rfl ?_
          refine qk_goto C dX4_readBust_97 101 rfl ?_
          exact hret _ _ _ _ dX4_readBust_101 (cPo_t c_85 hN7 hJ5 (((cTr.rf.p40.p40.tr hT2).tr hT3).tr hT4) ⟨rfl, rfl⟩) rfl
    · refine qk_iconst C (0) dX4_readBust_46 47 rfl rfl ?_
      exact hret _ _ _ _ dX4_readBust_47 (cPo_f (t_b_date hN7 c_43).1 hN7 (by rw [(t_b_date hN7 c_43).2]; exact hJ1) cTr.rf.p40) rfl
  · refine qk_aloadn C dX4_readBust_0 1 rfl rfl 0 rfl ?_
    refine qk_get C dX4_readBust_1 4 rfl qf_X4_22 42 (by decide) rfl rfl ?_
    refine qk_iloadn C dX4_readBust_4 5 rfl rfl 1 rfl ?_
    refine qk_iconst C (0) dX4_readBust_5 6 rfl rfl ?_
    refine qk_callV C dX4_readBust_6 9 rfl ql_X4_98 qc_X1_addBust _ hM.l65 (qx_Fl hM _) rfl (c_X1_addBustF l G 14 N hM ρ u hI h8 _ _) rfl rfl (Nat.le_of_ble_eq_true rfl) ⟨(Nat.le_of_ble_eq_true rfl), (Nat.le_of_ble_eq_true rfl)⟩ (qx_Ki ?_)
    refine qk_istoren C dX4_readBust_9 10 rfl rfl (by decide) rfl ?_
    refine qk_iloadn C dX4_readBust_10 11 rfl rfl 0 rfl ?_
    refine qk_if_ge C dX4_readBust_11 16 rfl 14 rfl (fun c => absurd c (by decide)) (fun _ => ?_)
    refine qk_iconst C (0) dX4_readBust_14 15 rfl rfl ?_
    exact hret _ _ _ _ dX4_readBust_15 (cPo_f (t_b_full h8).1 hN8 (by rw [(t_b_full h8).2]; exact hJ) cTr.rf) rfl

