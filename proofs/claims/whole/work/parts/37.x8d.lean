/-! the class reads into the trial library -/
noncomputable def c_tok (r : Nat → Int32) (t : Nat) (q : Nat → Int32) : Nat → Int32 := t_row q (t_tk r t (t_sp r t 121 (zn (q 4))) (q 5)).1 (nI (t_sp r t 121 (zn (q 4)))) (nI (t_tk r t (t_sp r t 121 (zn (q 4))) (q 5)).2.1) (t_tk r t (t_sp r t 121 (zn (q 4))) (q 5)).2.2
theorem qL_up {ρ : qx_Sg} {N k : Nat} {u x : Nat → Int32} (hN : N ≤ 8) (hk : 27 ≤ k) : va_up (qL ρ 14 N u) k x = qL (va_up ρ k x) 14 N u := by
  funext j
  by_cases e : j = k
  · subst e
    rw [qx_up_eq, qL_o (by omega) (by omega), qx_up_eq]
  · rw [qx_up_ne e]
    unfold qL
    rw [qx_up_ne e]
theorem c_rdT (l : Launch) (G : qx_G) (ρ : qx_Sg) (N : Nat) (hN : N ≤ 8) (u r q : Nat → Int32) (hr : ρ 41 = r) (hq : ρ 40 = q) (t : Nat) (ht : t ≤ 120) (et : q 1 = nI t) (p : Nat) (hp : p ≤ t) (ep : q 4 = nI p) : qx_Ct l G yX3_readToken cX3_readToken 1 none 1 21 [.ref (qx_ad G 40)] (qL ρ 14 N u) (qx_pv (qL (va_up ρ 40 (c_tok r t q)) 14 N u)) := by
  have h := c_X3_readToken l G (qL ρ 14 N u) q (q 2) (q 3) (q 5) t ht et p hp
  have e41 : qL ρ 14 N u 41 = r := (qL_hi14 hN (by omega)).trans hr
  have e40 : qL ρ 14 N u 40 = q := (qL_hi14 hN (by omega)).trans hq
  have e0 : va_up (qL ρ 14 N u) 40 (t_row q (q 2) (q 3) (nI p) (q 5)) = qL ρ 14 N u := by
    rw [← ep, t_row0, ← e40]
    exact m_upid
  rw [e0, qL_up hN (by omega), e41] at h
  rw [show c_tok r t q = t_row q (t_tk r t (t_sp r t 121 p) (q 5)).1 (nI (t_sp r t 121 p)) (nI (t_tk r t (t_sp r t 121 p) (q 5)).2.1) (t_tk r t (t_sp r t 121 p) (q 5)).2.2 from by unfold c_tok; rw [ep, zn_nI (by omega)]]
  exact h
theorem c_rdW (l : Launch) (G : qx_G) (ρ : qx_Sg) (N : Nat) (hN : N ≤ 8) (u r q : Nat → Int32) (hr : ρ 41 = r) (hq : ρ 40 = q) (i : Nat) (hi : i < 12) (s e : Nat) (hse : s ≤ e) (he : e ≤ 120) (es : q 3 = nI s) (ee : q 4 = nI e) : qx_Ct l G yX3_isWord cX3_isWord 3 (some .boolean) 4 85 [.ref (qx_ad G 40), .ref (qx_ad G (100 + i))] (qL ρ 14 N u) (qx_pi (qb (t_iw r (q 2) s e i)) (qL ρ 14 N u)) := by
  have e41 : qL ρ 14 N u 41 = r := (qL_hi14 hN (by omega)).trans hr
  have e40 : qL ρ 14 N u 40 = q := (qL_hi14 hN (by omega)).trans hq
  have h := c_X3_isWord l G (qL ρ 14 N u) i hi s e hse he (by rw [e40]; exact es) (by rw [e40]; exact ee)
  rw [e41, e40] at h
  exact h
theorem c_rdN (l : Launch) (G : qx_G) (ρ : qx_Sg) (N : Nat) (hN : N ≤ 8) (u q : Nat → Int32) (hq : ρ 40 = q) (m : Int32) : qx_Ct l G yX3_isNumber cX3_isNumber 2 (some .boolean) 0 0 [.ref (qx_ad G 40), .int m] (qL ρ 14 N u) (qx_pi (qb (q 2 = 2 ∧ ¬ m < q 5)) (qL ρ 14 N u)) := by
  have e40 : qL ρ 14 N u 40 = q := (qL_hi14 hN (by omega)).trans hq
  have h := c_X3_isNumber l G (qL ρ 14 N u) m
  rw [e40] at h
  exact h
