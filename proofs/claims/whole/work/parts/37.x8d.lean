/-! the class reads into the trial library -/
noncomputable def c_tok (r : Nat → Int32) (t : Nat) (q : Nat → Int32) : Nat → Int32 := t_row q (t_tk r t (t_sp r t 121 (zn (q 4))) (q 5)).1 (nI (t_sp r t 121 (zn (q 4)))) (nI (t_tk r t (t_sp r t 121 (zn (q 4))) (q 5)).2.1) (t_tk r t (t_sp r t 121 (zn (q 4))) (q 5)).2.2
theorem qL_up {ρ : qx_Sg} {N k : Nat} {u x : Nat → Int32} (hN : N ≤ 8) (hk : 27 ≤ k) : va_up (qL ρ 14 N u) k x = qL (va_up ρ k x) 14 N u := by
  funext j
  by_cases e : j = k
  · subst e
    rw [qx_up_eq, qL_o (by omega) (by omega), qx_up_eq]
  · rw [qx_up_ne e]
    unfold qL
    rw [qx_up_ne e]
theorem c_rdT (l : Launch) (G : qx_G) (ρ : qx_Sg) (N : Nat) (hN : N ≤ 8) (u r q : Nat → Int32) (hr : ρ 41 = r) (hq : ρ 40 = q) (t : Nat) (ht : t ≤ 120) (et : q 1 = nI t) (p : Nat) (hp : p ≤ t) (ep : q 4 = nI p) : qx_Ct l G yX3_readToken cX3_readToken 1 none 1 21 [.ref (qx_ad G 40)] (qL ρ 14 N u) (qx_pv (qL (va_up ρ 40 (c_tok r t q)) 14 N u)) := by
  have h := c_X3_readToken l G (qL ρ 14 N u) q (q 2) (q 3) (q 5) t ht et p hp
  have e41 : qL ρ 14 N u 41 = r := (qL_hi14 hN (by omega)).trans hr
  have e40 : qL ρ 14 N u 40 = q := (qL_hi14 hN (by omega)).trans hq
  have e0 : va_up (qL ρ 14 N u) 40 (t_row q (q 2) (q 3) (nI p) (q 5)) = qL ρ 14 N u := by
    rw [← ep, t_row0, ← e40]
    exact m_upid
  rw [e0, qL_up hN (by omega), e41] at h
  rw [show c_tok r t q = t_row q (t_tk r t (t_sp r t 121 p) (q 5)).1 (nI (t_sp r t 121 p)) (nI (t_tk r t (t_sp r t 121 p) (q 5)).2.1) (t_tk r t (t_sp r t 121 p) (q 5)).2.2 from by unfold c_tok; rw [ep, zn_nI (by omega)]]
  exact h
