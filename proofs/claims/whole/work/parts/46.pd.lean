/-! a bust's date makes a difference only against the others' -/
theorem p_updc {v : Nat → Int32} {D i : Nat} {x y : Int32} (h : ¬ i = D) : upd (upd v D y) i x = upd (upd v i x) D y := by
  funext j
  unfold upd
  by_cases e : j = i
  · by_cases e2 : j = D
    · exact absurd (e.symm.trans e2) h
    · simp [e, h]
  · by_cases e2 : j = D
    · rw [if_neg e, if_pos e2, if_pos e2]
    · simp [e, e2]
theorem pd_row {u : Nat → Int32} {j b f : Nat} {y : Int32} (hf : f < 7) (h1 : ¬ f = 1) : upd u (32 + 7 * j + 1) y (32 + 7 * b + f) = u (32 + 7 * b + f) := upd_ne (by omega)
theorem pd_lo {u : Nat → Int32} {j i : Nat} {y : Int32} (hi : i < 32) : upd u (32 + 7 * j + 1) y i = u i := upd_ne (by omega)
theorem pd_selr {P : Prop} {a b : Nat → Int32} {D : Nat} {y : Int32} : upd (z_selr P a b) D y = z_selr P (upd a D y) (upd b D y) := by
  by_cases h : P
  · rw [z_selr_t h, z_selr_t h]
  · rw [z_selr_f h, z_selr_f h]
theorem pd_d1 {u : Nat → Int32} {j b : Nat} {y : Int32} : z_d1 (upd u (32 + 7 * j + 1) y) b = upd (z_d1 u b) (32 + 7 * j + 1) y := by
  unfold z_d1
  rw [pd_row (f := 4) (by omega) (by omega), pd_row (f := 0) (by omega) (by omega), pd_row (f := 2) (by omega) (by omega), p_updc (by omega)]
theorem pd_d2 {u : Nat → Int32} {j b : Nat} {y : Int32} : z_d2 (upd u (32 + 7 * j + 1) y) b = upd (z_d2 u b) (32 + 7 * j + 1) y := by
  unfold z_d2
  rw [pd_row (f := 3) (by omega) (by omega), pd_row (f := 0) (by omega) (by omega), pd_row (f := 2) (by omega) (by omega), p_updc (by omega)]
theorem pd_d3 {u : Nat → Int32} {j b : Nat} {y : Int32} : z_d3 (upd u (32 + 7 * j + 1) y) b = upd (z_d3 u b) (32 + 7 * j + 1) y := by
  unfold z_d3
  rw [p_updc (by omega)]
theorem pd_d4 {u : Nat → Int32} {j : Nat} {y : Int32} : z_d4 (upd u (32 + 7 * j + 1) y) = upd (z_d4 u) (32 + 7 * j + 1) y := by
  unfold z_d4
  rw [pd_lo (by omega), p_updc (by omega)]
theorem pd_ww {u : Nat → Int32} {j b : Nat} {y : Int32} : z_ww (z_row (upd u (32 + 7 * j + 1) y) b) = z_ww (z_row u b) := by
  show (¬ upd u (32 + 7 * j + 1) y (32 + 7 * b + 4) < z_lw (upd u (32 + 7 * j + 1) y (32 + 7 * b + 0)) ∧ z_hs (upd u (32 + 7 * j + 1) y (32 + 7 * b + 2)) 11 ∧ upd u (32 + 7 * j + 1) y (32 + 7 * b + 5) = 0 ∧ upd u (32 + 7 * j + 1) y (32 + 7 * b + 6) = 0) = _
  rw [pd_row (f := 4) (by omega) (by omega), pd_row (f := 0) (by omega) (by omega), pd_row (f := 2) (by omega) (by omega), pd_row (f := 5) (by omega) (by omega), pd_row (f := 6) (by omega) (by omega)]
  rfl
theorem pd_dB {u : Nat → Int32} {j b : Nat} {y : Int32} : z_dB (upd u (32 + 7 * j + 1) y) b = upd (z_dB u b) (32 + 7 * j + 1) y := by
  unfold z_dB
  rw [pd_d1, pd_ww, pd_d2, pd_row (f := 3) (by omega) (by omega), pd_d3, pd_d4, ← pd_selr, ← pd_selr]
theorem pd_dF {u : Nat → Int32} {j : Nat} {y : Int32} : ∀ n, z_dF (upd u (32 + 7 * j + 1) y) n = upd (z_dF u n) (32 + 7 * j + 1) y := by
  intro n
  induction n with
  | zero => rfl
  | succ n ih =>
    show z_selr (z_dF (upd u (32 + 7 * j + 1) y) n (32 + 7 * n + 6) = 0) (z_dB (z_dF (upd u (32 + 7 * j + 1) y) n) n) (z_dF (upd u (32 + 7 * j + 1) y) n) = upd (z_selr (z_dF u n (32 + 7 * n + 6) = 0) (z_dB (z_dF u n) n) (z_dF u n)) (32 + 7 * j + 1) y
    rw [ih, pd_row (f := 6) (by omega) (by omega), pd_dB, ← pd_selr]
theorem pd_bq {u : Nat → Int32} {j q : Nat} {y : Int32} {o : Option Nat} (hq : q < 12) : z_bq (upd u (32 + 7 * j + 1) y) q o = upd (z_bq u q o) (32 + 7 * j + 1) y := by
  cases o with
  | none =>
    show upd (upd u (32 + 7 * j + 1) y) (10 + q) (qx_mn 99 (upd u (32 + 7 * j + 1) y (10 + q) + 1)) = upd (upd u (10 + q) (qx_mn 99 (u (10 + q) + 1))) (32 + 7 * j + 1) y
    rw [pd_lo (by omega), p_updc (by omega)]
  | some b =>
    show upd (upd u (32 + 7 * j + 1) y) (32 + 7 * b + 2) (z_rc (upd u (32 + 7 * j + 1) y (32 + 7 * b + 2)) (nI q)) = upd (upd u (32 + 7 * b + 2) (z_rc (u (32 + 7 * b + 2)) (nI q))) (32 + 7 * j + 1) y
    rw [pd_row (f := 2) (by omega) (by omega), p_updc (by omega)]
/-- two dates that stand alike against all others' -/
def pd_al (u : Nat → Int32) (j N : Nat) (y : Int32) : Prop := ∀ b, b < N → ¬ b = j → ((u (32 + 7 * j + 1) ≤ u (32 + 7 * b + 1) ↔ y ≤ u (32 + 7 * b + 1)) ∧ (u (32 + 7 * b + 1) ≤ u (32 + 7 * j + 1) ↔ u (32 + 7 * b + 1) ≤ y))
theorem pd_hr {u : Nat → Int32} {j N : Nat} {y p : Int32} (h : pd_al u j N y) : ∀ n, n ≤ N → z_hr (upd u (32 + 7 * j + 1) y) p n = z_hr u p n := by
  intro n
  induction n with
  | zero => intro _; rfl
  | succ n ih =>
    intro hn
    have e := ih (by omega)
    show z_h1 (upd u (32 + 7 * j + 1) y) p n (z_hr (upd u (32 + 7 * j + 1) y) p n) = z_h1 u p n (z_hr u p n)
    rw [e]
    have key : (upd u (32 + 7 * j + 1) y (32 + 7 * n + 6) = 0 ∧ z_tk (upd u (32 + 7 * j + 1) y (32 + 7 * n + 0)) (upd u (32 + 7 * j + 1) y (32 + 7 * n + 2)) p ∧ ∀ h, z_hr u p n = some h → ¬ upd u (32 + 7 * j + 1) y (32 + 7 * h + 1) ≤ upd u (32 + 7 * j + 1) y (32 + 7 * n + 1)) ↔ (u (32 + 7 * n + 6) = 0 ∧ z_tk (u (32 + 7 * n + 0)) (u (32 + 7 * n + 2)) p ∧ ∀ h, z_hr u p n = some h → ¬ u (32 + 7 * h + 1) ≤ u (32 + 7 * n + 1)) := by
      rw [pd_row (f := 6) (by omega) (by omega), pd_row (f := 0) (by omega) (by omega), pd_row (f := 2) (by omega) (by omega)]
      refine and_congr Iff.rfl (and_congr Iff.rfl ?_)
      have hc : ∀ h, h < n → (upd u (32 + 7 * j + 1) y (32 + 7 * h + 1) ≤ upd u (32 + 7 * j + 1) y (32 + 7 * n + 1) ↔ u (32 + 7 * h + 1) ≤ u (32 + 7 * n + 1)) := by
        intro b hb
        by_cases e1 : b = j
        · subst e1
          rw [upd_eq, upd_ne (by omega)]
          exact ((h n (by omega) (by omega)).1).symm
        · by_cases e2 : n = j
          · subst e2
            rw [upd_eq, upd_ne (by omega)]
            exact ((h b (by omega) e1).2).symm
          · rw [upd_ne (by omega), upd_ne (by omega)]
      exact ⟨fun q b eb z => q b eb ((hc b (z_hr_lt eb)).mpr z), fun q b eb z => q b eb ((hc b (z_hr_lt eb)).mp z)⟩
    by_cases c : u (32 + 7 * n + 6) = 0 ∧ z_tk (u (32 + 7 * n + 0)) (u (32 + 7 * n + 2)) p ∧ ∀ h, z_hr u p n = some h → ¬ u (32 + 7 * h + 1) ≤ u (32 + 7 * n + 1)
    · rw [z_h1_t c, z_h1_t (key.mpr c)]
    · rw [z_h1_f c, z_h1_f (fun q => c (key.mp q))]
theorem pd_dd {u : Nat → Int32} {j : Nat} {y : Int32} : z_dd (upd u (32 + 7 * j + 1) y) = z_dd u := by
  unfold z_dd
  rw [pd_lo (by omega)]
theorem pd_dq {u : Nat → Int32} {j : Nat} {y : Int32} : z_dq (upd u (32 + 7 * j + 1) y) = z_dq u := by
  unfold z_dq
  have : z_dd u < 6 := Nat.mod_lt _ (by omega)
  rw [pd_dd, pd_lo (by omega)]
theorem pd_be {u : Nat → Int32} {j N q : Nat} {y : Int32} (h : pd_al u j N y) : z_be (upd u (32 + 7 * j + 1) y) N q = upd (z_be u N q) (32 + 7 * j + 1) y := by
  unfold z_be
  by_cases c : 12 ≤ q
  · rw [if_pos c, if_pos c]
  · rw [if_neg c, if_neg c, pd_hr h N (Nat.le_refl _), pd_bq (by omega)]
theorem pd_day {u : Nat → Int32} {j N : Nat} {y : Int32} (h : pd_al u j N y) : z_day (upd u (32 + 7 * j + 1) y) N = upd (z_day u N) (32 + 7 * j + 1) y := by
  unfold z_day
  rw [pd_dq, pd_be h, pd_dF]
  unfold z_d0
  rw [pd_lo (by omega), p_updc (by omega)]
/-- days leave the dates -/
theorem pe_dB {u : Nat → Int32} {j b : Nat} : z_dB u b (32 + 7 * j + 1) = u (32 + 7 * j + 1) := by
  have h1 : z_d1 u b (32 + 7 * j + 1) = u (32 + 7 * j + 1) := upd_ne (by omega)
  have h2 : z_d2 (z_d1 u b) b (32 + 7 * j + 1) = u (32 + 7 * j + 1) := (upd_ne (by omega)).trans h1
  have h4 : z_d4 (z_d3 (z_d2 (z_d1 u b) b) b) (32 + 7 * j + 1) = u (32 + 7 * j + 1) := (upd_ne (by omega)).trans ((upd_ne (by omega)).trans h2)
  exact z_selr_all (R := fun w => w (32 + 7 * j + 1) = u (32 + 7 * j + 1)) (z_selr_all (R := fun w => w (32 + 7 * j + 1) = u (32 + 7 * j + 1)) h4 h2) h1
theorem pe_dF {u : Nat → Int32} {j : Nat} : ∀ n, z_dF u n (32 + 7 * j + 1) = u (32 + 7 * j + 1) := by
  intro n
  induction n with
  | zero => rfl
  | succ n ih => exact z_selr_all (R := fun w => w (32 + 7 * j + 1) = u (32 + 7 * j + 1)) (pe_dB.trans ih) ih
theorem pe_be {u : Nat → Int32} {j N q : Nat} : z_be u N q (32 + 7 * j + 1) = u (32 + 7 * j + 1) := by
  unfold z_be
  by_cases c : 12 ≤ q
  · rw [if_pos c]
  · rw [if_neg c]
    cases z_hr u (nI q) N with
    | none => exact upd_ne (by omega)
    | some b => exact upd_ne (by omega)
theorem pe_day {u : Nat → Int32} {j N : Nat} : z_day u N (32 + 7 * j + 1) = u (32 + 7 * j + 1) := by
  unfold z_day z_d0
  rw [upd_ne (by omega), pe_dF, pe_be]
theorem pe_dn {u : Nat → Int32} {j N : Nat} : ∀ n, z_dn u N n (32 + 7 * j + 1) = u (32 + 7 * j + 1) := by
  intro n
  induction n with
  | zero => rfl
  | succ n ih => exact pe_day.trans ih
theorem pd_dn {u : Nat → Int32} {j N : Nat} {y : Int32} (h : pd_al u j N y) : ∀ n, z_dn (upd u (32 + 7 * j + 1) y) N n = upd (z_dn u N n) (32 + 7 * j + 1) y := by
  intro n
  induction n with
  | zero => rfl
  | succ n ih =>
    show z_day (z_dn (upd u (32 + 7 * j + 1) y) N n) N = upd (z_day (z_dn u N n) N) (32 + 7 * j + 1) y
    rw [ih]
    refine pd_day (fun b hb hj => ?_)
    rw [pe_dn, pe_dn]
    exact h b hb hj
theorem pd_cmp {k : Nat} {t : Int32} (hk : k < 1000) (h1 : ¬ t = nI k) (h2 : ¬ t = nI k + 1) : (nI k ≤ t ↔ nI (k + 1) ≤ t) ∧ (t ≤ nI k ↔ t ≤ nI (k + 1)) := by
  have a1 : ¬ t.toInt = (k : Int) := fun e => h1 (Int32.toInt_inj.mp (e.trans (nI_toInt (by omega)).symm))
  have a2 : ¬ t.toInt = ((k + 1 : Nat) : Int) := fun e => h2 ((Int32.toInt_inj.mp (e.trans (nI_toInt (by omega)).symm)).trans (nI_1 k).symm)
  rw [Int32.le_iff_toInt_le, Int32.le_iff_toInt_le, Int32.le_iff_toInt_le, Int32.le_iff_toInt_le, nI_toInt (by omega), nI_toInt (by omega)]
  omega
theorem pd_hd {w : Nat → Int32} {j N n k : Nat} {p : Int32} (hk : k < 1000) (hm : ¬ z_md w N j (nI k)) : z_hd N w j n p k ↔ z_hd N w j n p (k + 1) := by
  have hal : pd_al (upd w (32 + 7 * j + 1) (nI k)) j N (nI (k + 1)) := by
    intro b hb hbj
    rw [upd_eq, upd_ne (by omega)]
    exact pd_cmp hk (fun e => hm (Or.inr ⟨b, hb, hbj, Or.inl e⟩)) (fun e => hm (Or.inr ⟨b, hb, hbj, Or.inr e⟩))
  have e := pd_dn hal n
  rw [m_upu] at e
  unfold z_hd
  rw [e, upd_ne (by omega)]
theorem p_dateFor {N : Nat} {w : Nat → Int32} {b p n : Int32} : S_dateForX N w b p n = S_dateFor N w b p n := by
  unfold S_dateForX S_dateFor
  rw [p_gd_and (P := z_hd N w (zn b) (zn n) p) (M := fun d => z_md w N (zn b) (nI d)) (n := 1000) (fun k hk hP hN => Classical.byContradiction (fun hm => by
    by_cases h9 : k = 999
    · exact hm (Or.inl (by rw [h9]; rfl))
    · exact hN (k + 1) (by omega) (by omega) ((pd_hd hk hm).mp hP)))]
/-! the shortest way to a part: one part behind another -/
theorem q_tb_all : ((List.range 4096).all fun x => (List.range 12).all fun r => decide ((nI x >>> (nI r &&& 31)) &&& 1 = 1) == x.testBit r) = true := by decide +kernel
theorem q_tb {x r : Nat} (hx : x < 4096) (hr : r < 12) : z_hs (nI x) (nI r) ↔ x.testBit r = true := by
  have h := List.all_eq_true.mp (List.all_eq_true.mp q_tb_all x (List.mem_range.mpr hx)) r (List.mem_range.mpr hr)
  rw [beq_iff_eq] at h
  unfold z_hs
  rw [← h, decide_eq_true_eq]
theorem q_pl {x r : Nat} (hx : x < 4096) (hr : r < 12) : z_pl (nI x) (nI r) ↔ 0 < r ∧ x.testBit (r - 1) = true := by
  unfold z_pl
  rcases Nat.eq_zero_or_pos r with h | h
  · subst h
    exact ⟨fun q => absurd (by decide) q.1, fun q => absurd q.1 (by omega)⟩
  · have e : nI r - 1 = nI (r - 1) := pk_sub (a := r) (b := 1) h
    rw [e, q_tb hx (by omega)]
    exact and_congr ⟨fun _ => h, fun _ => nI_ge (a := 0) (b := r) h (by omega)⟩ Iff.rfl
/-- whether a part is taken hangs on it and the one before it -/
theorem q_loc {x y r : Nat} {k : Int32} (hx : x < 4096) (hy : y < 4096) (hr : r < 12) (h0 : x.testBit r = y.testBit r) (h1 : 0 < r → x.testBit (r - 1) = y.testBit (r - 1)) : z_tk k (nI x) (nI r) ↔ z_tk k (nI y) (nI r) := by
  have a : z_hs (nI x) (nI r) = z_hs (nI y) (nI r) := propext (by rw [q_tb hx hr, q_tb hy hr, h0])
  have b : z_pl (nI x) (nI r) = z_pl (nI y) (nI r) := propext (by
    rw [q_pl hx hr, q_pl hy hr]
    exact ⟨fun q => ⟨q.1, by rw [← h1 q.1]; exact q.2⟩, fun q => ⟨q.1, by rw [h1 q.1]; exact q.2⟩⟩)
  unfold z_tk z_lk
  rw [a, b]
theorem q_or {x r i : Nat} : (x ||| 2 ^ r).testBit i = (x.testBit i || decide (r = i)) := by
  rw [Nat.testBit_or, Nat.testBit_two_pow]
/-- what stands behind the first n parts of a set -/
theorem q_lt {k : Int32} {x s : Nat} (hx : x < 4096) (hs : s < 4096) : ∀ n, n ≤ 12 → ∃ a, a < 4096 ∧ m_lt k (nI s) n (nI x) = nI a ∧ (∀ i, n ≤ i → a.testBit i = x.testBit i) ∧ (∀ i, x.testBit i = true → a.testBit i = true) := by
  intro n
  induction n with
  | zero => intro _; exact ⟨x, hx, rfl, fun _ _ => rfl, fun _ h => h⟩
  | succ n ih =>
    intro hn
    obtain ⟨a, ha, ea, h1, h2⟩ := ih (by omega)
    have est : m_lt k (nI s) (n + 1) (nI x) = z_sel (z_hs (nI s) (nI n) ∧ z_tk k (m_lt k (nI s) n (nI x)) (nI n)) (z_rc (m_lt k (nI s) n (nI x)) (nI n)) (m_lt k (nI s) n (nI x)) := rfl
    rw [ea] at est
    by_cases c : z_hs (nI s) (nI n) ∧ z_tk k (nI a) (nI n)
    · rw [z_sel_t c, (z_rc_nI ha (by omega)).1] at est
      refine ⟨a ||| 2 ^ n, (z_rc_nI ha (by omega)).2, est, fun i hi => ?_, fun i hi => ?_⟩
      · rw [q_or, h1 i (by omega), decide_eq_false (by omega), Bool.or_false]
      · rw [q_or, h2 i hi, Bool.true_or]
    · rw [z_sel_f c] at est
      exact ⟨a, ha, est, fun i hi => h1 i (by omega), h2⟩
/-- bits below n stay as they are when further parts are tried -/
theorem q_st {k : Int32} {x s : Nat} (hx : x < 4096) (hs : s < 4096) {r : Nat} (hr : r < 12) : ∀ n, r < n → n ≤ 12 → (z_hs (m_lt k (nI s) n (nI x)) (nI r) ↔ z_hs (m_lt k (nI s) (r + 1) (nI x)) (nI r)) := by
  intro n
  induction n with
  | zero => intro h; omega
  | succ n ih =>
    intro h1 h2
    rcases Nat.lt_or_ge r n with h | h
    · rw [← ih h (by omega)]
      obtain ⟨a, ha, ea, -, -⟩ := q_lt (k := k) hx hs n (by omega)
      have est : m_lt k (nI s) (n + 1) (nI x) = z_sel (z_hs (nI s) (nI n) ∧ z_tk k (m_lt k (nI s) n (nI x)) (nI n)) (z_rc (m_lt k (nI s) n (nI x)) (nI n)) (m_lt k (nI s) n (nI x)) := rfl
      rw [est, ea]
      by_cases c : z_hs (nI s) (nI n) ∧ z_tk k (nI a) (nI n)
      · rw [z_sel_t c, (z_rc_nI ha (by omega)).1, q_tb (z_rc_nI ha (by omega)).2 hr, q_tb ha hr, q_or, decide_eq_false (by omega), Bool.or_false]
      · rw [z_sel_f c]
    · rw [show n = r by omega]
def q_ld (k : Int32) (x s r : Nat) : Prop := z_hs (m_lt k (nI s) 12 (nI x)) (nI r)
theorem q_ld1 {k : Int32} {x s r : Nat} (hx : x < 4096) (hs : s < 4096) (hr : r < 12) : q_ld k x s r ↔ z_hs (m_lt k (nI s) (r + 1) (nI x)) (nI r) := q_st hx hs hr 12 hr (by omega)
theorem q_sub {k : Int32} {x s s' : Nat} (hs : s < 4096) (hs' : s' < 4096) : ∀ n, n ≤ 12 → (∀ i, i < n → s.testBit i = s'.testBit i) → m_lt k (nI s) n (nI x) = m_lt k (nI s') n (nI x) := by
  intro n
  induction n with
  | zero => intro _ _; rfl
  | succ n ih =>
    intro h1 h2
    have e := ih (by omega) (fun i hi => h2 i (by omega))
    show z_sel (z_hs (nI s) (nI n) ∧ z_tk k (m_lt k (nI s) n (nI x)) (nI n)) (z_rc (m_lt k (nI s) n (nI x)) (nI n)) (m_lt k (nI s) n (nI x)) = z_sel (z_hs (nI s') (nI n) ∧ z_tk k (m_lt k (nI s') n (nI x)) (nI n)) (z_rc (m_lt k (nI s') n (nI x)) (nI n)) (m_lt k (nI s') n (nI x))
    rw [e, show z_hs (nI s) (nI n) = z_hs (nI s') (nI n) from propext (by rw [q_tb hs (by omega), q_tb hs' (by omega), h2 n (by omega)])]
/-- a set leads to a part that isn't there just if the part is of it and taken behind the parts before it -/
theorem q_in {k : Int32} {x s r : Nat} (hx : x < 4096) (hs : s < 4096) (hr : r < 12) (h0 : x.testBit r = false) : q_ld k x s r ↔ (s.testBit r = true ∧ z_tk k (m_lt k (nI s) r (nI x)) (nI r)) := by
  rw [q_ld1 hx hs hr]
  obtain ⟨a, ha, ea, h1, -⟩ := q_lt (k := k) hx hs r (by omega)
  have est : m_lt k (nI s) (r + 1) (nI x) = z_sel (z_hs (nI s) (nI r) ∧ z_tk k (m_lt k (nI s) r (nI x)) (nI r)) (z_rc (m_lt k (nI s) r (nI x)) (nI r)) (m_lt k (nI s) r (nI x)) := rfl
  rw [est, ea, ← q_tb hs hr]
  by_cases c : z_hs (nI s) (nI r) ∧ z_tk k (nI a) (nI r)
  · rw [z_sel_t c, (z_rc_nI ha hr).1, q_tb (z_rc_nI ha hr).2 hr, q_or, decide_eq_true rfl, Bool.or_true]
    exact ⟨fun _ => c, fun _ => rfl⟩
  · rw [z_sel_f c, q_tb ha hr, h1 r (Nat.le_refl _), h0]
    exact ⟨fun q => absurd q (by decide), fun q => absurd q c⟩
theorem q_one {r : Nat} (hr : r < 12) : 2 ^ r < 4096 := by
  have : ∀ r, r < 12 → 2 ^ r < 4096 := by decide
  exact this r hr
theorem q_prev {k : Int32} {x s r : Nat} (hx : x < 4096) (hs : s < 4096) (hr : r < 12) (hp : 0 < r) {a : Nat} (ha : a < 4096) (ea : m_lt k (nI s) r (nI x) = nI a) : q_ld k x s (r - 1) ↔ a.testBit (r - 1) = true := by
  rw [q_ld1 hx hs (by omega), show r - 1 + 1 = r by omega, ea, q_tb ha (by omega)]
/-- not taken at once: only behind the part before it -/
theorem q_back {k : Int32} {x s r : Nat} (hx : x < 4096) (hs : s < 4096) (hr : r < 12) (h0 : x.testBit r = false) (ht : ¬ z_tk k (nI x) (nI r)) : q_ld k x s r ↔ (s.testBit r = true ∧ 0 < r ∧ x.testBit (r - 1) = false ∧ q_ld k x s (r - 1) ∧ z_tk k (nI (x ||| 2 ^ (r - 1))) (nI r)) := by
  rw [q_in hx hs hr h0]
  obtain ⟨a, ha, ea, h1, h2⟩ := q_lt (k := k) hx hs r (by omega)
  rw [ea]
  refine and_congr Iff.rfl ?_
  have har : a.testBit r = x.testBit r := h1 r (Nat.le_refl _)
  have hxo : ∀ (hp : 0 < r), x ||| 2 ^ (r - 1) < 4096 := fun hp => (z_rc_nI hx (show r - 1 < 12 by omega)).2
  have hloc : ∀ (hp : 0 < r), a.testBit (r - 1) = true → (z_tk k (nI a) (nI r) ↔ z_tk k (nI (x ||| 2 ^ (r - 1))) (nI r)) := fun hp hb => q_loc ha (hxo hp) hr (by rw [q_or, har, decide_eq_false (by omega), Bool.or_false]) (fun _ => by rw [q_or, hb, decide_eq_true rfl, Bool.or_true])
  constructor
  · intro q
    have hp : 0 < r := Nat.pos_of_ne_zero (fun e => ht ((q_loc ha hx hr har (fun z => by omega)).mp q))
    have hb : a.testBit (r - 1) = true := by
      cases hab : a.testBit (r - 1) with
      | true => rfl
      | false =>
        refine absurd ((q_loc ha hx hr har (fun _ => ?_)).mp q) ht
        cases hxb : x.testBit (r - 1) with
        | true => rw [h2 _ hxb] at hab; cases hab
        | false => exact hab
    have hxb : x.testBit (r - 1) = false := by
      cases hxb : x.testBit (r - 1) with
      | false => rfl
      | true => exact absurd ((q_loc ha hx hr har (fun _ => by rw [hb, hxb])).mp q) ht
    exact ⟨hp, hxb, (q_prev hx hs hr hp ha ea).mpr hb, (hloc hp hb).mp q⟩
  · rintro ⟨hp, hxb, hl, hz⟩
    exact (hloc hp ((q_prev hx hs hr hp ha ea).mp hl)).mpr hz
/-- the class's way, and that every set that leads there holds it -/
theorem q_way {k : Int32} {x : Nat} (hx : x < 4096) : ∀ r, r < 12 → x.testBit r = false → ∀ A, A < 4096 → (z_pF k (nI x) r (nI A) = 0 ∧ ∀ s, s < 4096 → ¬ q_ld k x s r) ∨ ∃ g, g < 4096 ∧ z_pF k (nI x) r (nI A) = nI (A ||| g) ∧ g.testBit r = true ∧ (∀ i, r < i → g.testBit i = false) ∧ q_ld k x g r ∧ ∀ s, s < 4096 → q_ld k x s r → ∀ i, g.testBit i = true → s.testBit i = true := by
  intro r
  induction r with
  | zero =>
    intro hr h0 A hA
    by_cases ht : z_tk k (nI x) (nI 0)
    · refine Or.inr ⟨2 ^ 0, by decide, ?_, by decide, fun i hi => by rw [Nat.testBit_two_pow]; exact decide_eq_false (by omega), ?_, fun s hs hl i hi => ?_⟩
      · rw [z_pF_hit ht, (z_rc_nI hA hr).1]
      · exact (q_in hx (by decide) hr h0).mpr ⟨by decide, ht⟩
      · rw [Nat.testBit_two_pow, decide_eq_true_eq] at hi
        rw [← hi]
        exact ((q_in hx hs hr h0).mp hl).1
    · refine Or.inl ⟨z_pF_0 ht, fun s hs hl => ?_⟩
      have := ((q_back hx hs hr h0 ht).mp hl).2.1
      omega
  | succ r ih =>
    intro hr h0 A hA
    by_cases ht : z_tk k (nI x) (nI (r + 1))
    · refine Or.inr ⟨2 ^ (r + 1), q_one hr, ?_, by rw [Nat.testBit_two_pow]; exact decide_eq_true rfl, fun i hi => by rw [Nat.testBit_two_pow]; exact decide_eq_false (by omega), ?_, fun s hs hl i hi => ?_⟩
      · rw [z_pF_hit ht, (z_rc_nI hA hr).1]
      · refine (q_in hx (q_one hr) hr h0).mpr ⟨by rw [Nat.testBit_two_pow]; exact decide_eq_true rfl, ?_⟩
        have e := q_sub (k := k) (x := x) (q_one hr) (show 0 < 4096 by omega) (r + 1) (by omega) (fun i hi => by rw [Nat.testBit_two_pow, Nat.zero_testBit]; exact decide_eq_false (by omega))
        rw [e]
        have e0 : ∀ n, n ≤ 12 → m_lt k (nI 0) n (nI x) = nI x := by
          intro n
          induction n with
          | zero => intro _; rfl
          | succ n ih2 =>
            intro hn
            show z_sel (z_hs (nI 0) (nI n) ∧ _) _ (m_lt k (nI 0) n (nI x)) = nI x
            rw [z_sel_f (fun q => by rw [q_tb (by omega) (by omega), Nat.zero_testBit] at q; exact absurd q.1 (by decide)), ih2 (by omega)]
        rw [e0 (r + 1) (by omega)]
        exact ht
      · rw [Nat.testBit_two_pow, decide_eq_true_eq] at hi
        rw [← hi]
        exact ((q_in hx hs hr h0).mp hl).1
    · by_cases hb : z_tkb k (nI x) (nI (r + 1))
      · have etb : z_tkb k (nI x) (nI (r + 1)) = z_tk k (nI (x ||| 2 ^ r)) (nI (r + 1)) := by
          unfold z_tkb
          rw [show nI (r + 1) - 1 = nI r from pk_sub (a := r + 1) (b := 1) (by omega), (z_rc_nI hx (by omega)).1]
        rw [etb] at hb
        have hxr : x.testBit r = false := by
          cases hxb : x.testBit r with
          | false => rfl
          | true =>
            refine absurd ?_ ht
            exact (q_loc (z_rc_nI hx (show r < 12 by omega)).2 hx hr (by rw [q_or, decide_eq_false (by omega), Bool.or_false]) (fun _ => by rw [show r + 1 - 1 = r by omega, q_or, hxb, Bool.true_or])).mp hb
        have ego : z_pF k (nI x) (r + 1) (nI A) = z_pF k (nI x) r (nI (A ||| 2 ^ (r + 1))) := by
          rw [z_pF_go (by omega) ht (by rw [etb]; exact hb), (z_rc_nI hA hr).1]
          rfl
        rcases ih (by omega) hxr (A ||| 2 ^ (r + 1)) (z_rc_nI hA hr).2 with ⟨e, hn⟩ | ⟨g, hg, eg, gr, ghi, gl, gmin⟩
        · refine Or.inl ⟨ego.trans e, fun s hs hl => ?_⟩
          exact hn s hs ((q_back hx hs hr h0 ht).mp hl).2.2.2.1
        · have hg2 : g ||| 2 ^ (r + 1) < 4096 := (z_rc_nI hg hr).2
          refine Or.inr ⟨g ||| 2 ^ (r + 1), hg2, ?_, by rw [q_or, decide_eq_true rfl, Bool.or_true], fun i hi => by rw [q_or, ghi i (by omega), decide_eq_false (by omega)]; rfl, ?_, fun s hs hl i hi => ?_⟩
          · rw [ego, eg, Nat.or_assoc, Nat.or_comm (2 ^ (r + 1)) g]
          · refine (q_back hx hg2 hr h0 ht).mpr ⟨by rw [q_or, decide_eq_true rfl, Bool.or_true], by omega, hxr, ?_, hb⟩
            rw [show r + 1 - 1 = r by omega, q_ld1 hx hg2 (by omega)]
            rw [q_ld1 hx hg (by omega)] at gl
            rw [q_sub hg2 hg (r + 1) (by omega) (fun i hi => by rw [q_or, decide_eq_false (by omega), Bool.or_false])]
            exact gl
          · have hq := (q_back hx hs hr h0 ht).mp hl
            rw [q_or] at hi
            by_cases e : r + 1 = i
            · rw [← e]; exact hq.1
            · rw [decide_eq_false e, Bool.or_false] at hi
              exact gmin s hs hq.2.2.2.1 i hi
      · refine Or.inl ⟨z_pF_no (by omega) ht hb, fun s hs hl => ?_⟩
        have hq := ((q_back hx hs hr h0 ht).mp hl).2.2.2.2
        refine hb ?_
        unfold z_tkb
        rw [show nI (r + 1) - 1 = nI r from pk_sub (a := r + 1) (b := 1) (by omega), (z_rc_nI hx (by omega)).1]
        exact hq
theorem q_bc_all : ((List.range 4096).all fun x => z_bc (nI x) == nI ((List.range 12).countP fun i => x.testBit i)) = true := by decide +kernel
theorem q_bc {x : Nat} (hx : x < 4096) : z_bc (nI x) = nI ((List.range 12).countP fun i => x.testBit i) := by
  have h := List.all_eq_true.mp q_bc_all x (List.mem_range.mpr hx)
  exact beq_iff_eq.mp h
theorem q_mono {g s : Nat} (hg : g < 4096) (hs : s < 4096) (h : ∀ i, g.testBit i = true → s.testBit i = true) : ¬ z_bc (nI s) < z_bc (nI g) := by
  rw [q_bc hg, q_bc hs]
  have h1 : (List.range 12).countP (fun i => g.testBit i) ≤ (List.range 12).countP (fun i => s.testBit i) := List.countP_mono_left (fun i _ hi => h i hi)
  have h2 : (List.range 12).countP (fun i => s.testBit i) ≤ 12 := by
    have := List.countP_le_length (p := fun i => s.testBit i) (l := List.range 12)
    rw [List.length_range] at this
    exact this
  exact nI_nlt h1 (by omega)
theorem q_le {g s : Nat} (h : ∀ i, g.testBit i = true → s.testBit i = true) : g ≤ s := by
  have e : g &&& s = g := by
    apply Nat.eq_of_testBit_eq
    intro i
    rw [Nat.testBit_and]
    cases hg : g.testBit i with
    | false => rfl
    | true => rw [h i hg]; rfl
  have h2 : g &&& s ≤ s := Nat.and_le_right
  omega
theorem q_best {P : Nat → Prop} {g : Nat} (hg : g < 4096) (hP : P g) (h : ∀ s, s < 4096 → P s → ∀ i, g.testBit i = true → s.testBit i = true) : m_sb P 4096 4096 = some g := by
  rcases m_sb_spec (P := P) (M := 4096) (t := 4096) (Nat.le_refl _) with ⟨e, hn⟩ | ⟨s, e, h1, h2, h3, h4⟩
  · exact absurd hP (hn g (by omega) hg)
  · have hsub := h s h2 h3
    rcases h4 g (by omega) hg hP with q | ⟨-, q⟩
    · exact absurd q (q_mono hg h2 hsub)
    · have := q_le hsub
      rw [e, show s = g by omega]
theorem q_none {P : Nat → Prop} (h : ∀ s, s < 4096 → ¬ P s) : m_sb P 4096 4096 = none := by
  rcases m_sb_spec (P := P) (M := 4096) (t := 4096) (Nat.le_refl _) with ⟨e, -⟩ | ⟨s, -, -, h2, h3, -⟩
  · exact e
  · exact absurd h3 (h s h2)
theorem p_pathTo {N : Nat} {w : Nat → Int32} {b p : Int32} (hI : qv_ok w N) : S_pathTo N w b p = S_pathToM N w b p := by
  unfold S_pathTo S_pathToM
  by_cases c : z_ib N b ∧ z_in p 11
  · rw [zif_t c, zif_t c]
    obtain ⟨j, hj, rfl⟩ := z_ib_ex c.1 hI.1
    obtain ⟨r, hr, rfl⟩ := z_in_ex 11 rfl (by omega) c.2
    have hN := hI.1
    rw [zn_nI (show j < 2 ^ 31 by omega), zn_nI (show r < 2 ^ 31 by omega)]
    obtain ⟨x, hx, ex⟩ := (hI.2.2.2.2.1 j hj).2.1
    generalize w (32 + 7 * j + 0) = k
    rw [ex]
    have e0 : ∀ n, n ≤ 12 → m_lt k (nI 0) n (nI x) = nI x := by
      intro n
      induction n with
      | zero => intro _; rfl
      | succ n ih2 =>
        intro hn
        show z_sel (z_hs (nI 0) (nI n) ∧ _) _ (m_lt k (nI 0) n (nI x)) = nI x
        rw [z_sel_f (fun q => by rw [q_tb (by omega) (by omega), Nat.zero_testBit] at q; exact absurd q.1 (by decide)), ih2 (by omega)]
    by_cases h : z_hs (nI x) (nI r)
    · rw [zif_t h, q_best (P := fun s => z_hs (m_lt k (nI s) 12 (nI x)) (nI r)) (g := 0) (by omega) (by show z_hs (m_lt k (nI 0) 12 (nI x)) (nI r); rw [e0 12 (by omega)]; exact h) (fun s _ _ i hi => by rw [Nat.zero_testBit] at hi; cases hi)]
      rfl
    · rw [zif_f h]
      have h0 : x.testBit r = false := by
        cases hb : x.testBit r with
        | false => rfl
        | true => exact absurd ((q_tb hx (by omega)).mpr hb) h
      rcases q_way (k := k) hx r (by omega) h0 0 (by omega) with ⟨e, hn⟩ | ⟨g, hg, e, gr, -, gl, gmin⟩
      · rw [show z_pF k (nI x) r 0 = 0 from e, q_none (P := fun s => z_hs (m_lt k (nI s) 12 (nI x)) (nI r)) hn]
        exact if_pos rfl
      · rw [show z_pF k (nI x) r 0 = nI g from e.trans (by rw [Nat.zero_or]), q_best (P := fun s => z_hs (m_lt k (nI s) 12 (nI x)) (nI r)) hg gl gmin]
        have hne : ¬ nI g = 0 := fun z => by
          have := (nI_eq (a := g) (b := 0) (by omega) (by omega)).mp z
          rw [this, Nat.zero_testBit] at gr
          cases gr
        exact if_neg hne
  · rw [zif_f c, zif_f c]
