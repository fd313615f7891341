/-! the parser over places of the tape: p is the end of the token before the one that is looked at -/
noncomputable def tif {α : Type} (P : Prop) (a b : α) : α := @ite α P (Classical.propDecidable P) a b
theorem tif_t {α : Type} {P : Prop} {a b : α} (h : P) : tif P a b = a := if_pos h
theorem tif_f {α : Type} {P : Prop} {a b : α} (h : ¬ P) : tif P a b = b := if_neg h
noncomputable def tS (r : Nat → Int32) (t p : Nat) : Nat := t_sp r t 121 p
noncomputable def tK (r : Nat → Int32) (t p : Nat) : Int32 := (t_tk r t (tS r t p) 0).1
noncomputable def tE (r : Nat → Int32) (t p : Nat) : Nat := (t_tk r t (tS r t p) 0).2.1
noncomputable def tV (r : Nat → Int32) (t p : Nat) : Int32 := (t_tk r t (tS r t p) 0).2.2
theorem t_tk_d {r : Nat → Int32} {t s : Nat} (d : Int32) : (t_tk r t s d).1 = (t_tk r t s 0).1 ∧ (t_tk r t s d).2.1 = (t_tk r t s 0).2.1 ∧ ((t_tk r t s 0).1 = 2 → (t_tk r t s d).2.2 = (t_tk r t s 0).2.2) := by
  by_cases h0 : s < t
  · by_cases h1 : t_lt (r s)
    · rw [t_tk1 (d := d) h0 h1, t_tk1 (d := 0) h0 h1]; exact ⟨rfl, rfl, fun e => absurd e (show ¬ (1 : Int32) = 2 by decide)⟩
    · by_cases h2 : t_dg (r s)
      · rw [t_tk2 (d := d) h0 h1 h2, t_tk2 (d := 0) h0 h1 h2]; exact ⟨rfl, rfl, fun _ => rfl⟩
      · by_cases h3 : r s = 59
        · rw [t_tk3 (d := d) h0 h1 h2 h3, t_tk3 (d := 0) h0 h1 h2 h3]; exact ⟨rfl, rfl, fun e => absurd e (show ¬ (3 : Int32) = 2 by decide)⟩
        · rw [t_tk4 (d := d) h0 h1 h2 h3, t_tk4 (d := 0) h0 h1 h2 h3]; exact ⟨rfl, rfl, fun e => absurd e (show ¬ (4 : Int32) = 2 by decide)⟩
  · rw [t_tk0 (d := d) h0, t_tk0 (d := 0) h0]; exact ⟨rfl, rfl, fun e => absurd e (show ¬ (0 : Int32) = 2 by decide)⟩
theorem tS_le {r : Nat → Int32} {t p : Nat} (h : p ≤ t) : p ≤ tS r t p ∧ tS r t p ≤ t := t_sp_le h
theorem tE_le {r : Nat → Int32} {t p : Nat} (h : p ≤ t) : tS r t p ≤ tE r t p ∧ tE r t p ≤ t := t_tk_le (tS_le h).2
/-- of what kind a token is -/
theorem t_kinds {r : Nat → Int32} {t p : Nat} : (tK r t p = 0 ∧ ¬ tS r t p < t) ∨ (tS r t p < t ∧ tS r t p < tE r t p ∧ (tK r t p = 1 ∨ tK r t p = 2 ∨ (tK r t p = 3 ∧ r (tS r t p) = 59) ∨ (tK r t p = 4 ∧ ¬ r (tS r t p) = 59))) := by
  unfold tK tE
  generalize tS r t p = s
  by_cases h0 : s < t
  · refine Or.inr ⟨h0, ?_⟩
    by_cases h1 : t_lt (r s)
    · rw [t_tk1 h0 h1]
      refine ⟨?_, Or.inl rfl⟩
      show s < t_wd r t 121 s
      rw [t_wd_t (by omega) ⟨h0, h1⟩]
      have := (t_wd_le (r := r) (f := 121 - 1) (show s + 1 ≤ t by omega)).1
      omega
    · by_cases h2 : t_dg (r s)
      · rw [t_tk2 h0 h1 h2]
        refine ⟨?_, Or.inr (Or.inl rfl)⟩
        show s < (t_nm r t 121 s 0).1
        rw [t_nm_t (by omega) ⟨h0, h2⟩]
        have := (t_nm_le (r := r) (f := 121 - 1) (w := qx_mn 10000 (10 * 0 + r s - 48)) (show s + 1 ≤ t by omega)).1
        omega
      · by_cases h3 : r s = 59
        · rw [t_tk3 h0 h1 h2 h3]
          exact ⟨Nat.lt_succ_self _, Or.inr (Or.inr (Or.inl ⟨rfl, h3⟩))⟩
        · rw [t_tk4 h0 h1 h2 h3]
          exact ⟨Nat.lt_succ_self _, Or.inr (Or.inr (Or.inr ⟨rfl, h3⟩))⟩
  · rw [t_tk0 h0]
    exact Or.inl ⟨rfl, h0⟩
theorem tE_lt {r : Nat → Int32} {t p : Nat} (h : p ≤ t) (hk : ¬ tK r t p = 0) : p < tE r t p := by
  rcases t_kinds (r := r) (t := t) (p := p) with ⟨e, -⟩ | ⟨-, h2, -⟩
  · exact absurd e hk
  · have := (tS_le (r := r) h).1
    omega
/-- numbers -/
theorem t_dgN {x : Int32} (h : t_dg x) : ∃ c, c < 10 ∧ x = nI (48 + c) := by
  obtain ⟨h1, h2⟩ := h
  have h0 : ¬ x < 0 := by
    intro q
    apply h1
    rw [Int32.lt_iff_toInt_lt] at q ⊢
    rw [show (0 : Int32).toInt = 0 from rfl] at q
    rw [show (48 : Int32).toInt = 48 from rfl]
    omega
  obtain ⟨j, hj, rfl⟩ := nI_of h0
  have a1 : 48 ≤ j := Nat.not_lt.mp (fun q => h1 (show nI j < nI 48 from nI_lt q (by omega)))
  have a2 : j ≤ 57 := Nat.not_lt.mp (fun q => h2 (show nI 57 < nI j from nI_lt q hj))
  exact ⟨j - 48, by omega, by rw [show 48 + (j - 48) = j by omega]⟩
theorem t_10 {m : Nat} : (10 : Int32) * nI m = nI (10 * m) := by
  apply Int32.toBitVec_inj.mp
  show BitVec.ofNat 32 10 * BitVec.ofNat 32 m = BitVec.ofNat 32 (10 * m)
  rw [BitVec.ofNat_mul]
theorem t_nmv {r : Nat → Int32} {t f i : Nat} {w : Int32} (h : ∃ k, k ≤ 10000 ∧ w = nI k) : ∃ k, k ≤ 10000 ∧ (t_nm r t f i w).2 = nI k := by
  induction f generalizing i w with
  | zero => exact h
  | succ f ih =>
    by_cases c : i < t ∧ t_dg (r i)
    · rw [show t_nm r t (f + 1) i w = t_nm r t f (i + 1) (qx_mn 10000 (10 * w + r i - 48)) from t_nm_t (by omega) c]
      apply ih
      obtain ⟨k, hk, rfl⟩ := h
      obtain ⟨d, hd, e⟩ := t_dgN c.2
      rw [e, t_10, nI_add, show (48 : Int32) = nI 48 from rfl, pk_sub (by omega), show (10000 : Int32) = nI 10000 from rfl, qx_mn_nI (by omega) (by omega)]
      refine ⟨_, ?_, rfl⟩
      split <;> omega
    · rw [t_nm_f c]
      exact h
theorem tV_nn {r : Nat → Int32} {t p : Nat} (h : tK r t p = 2) : ¬ tV r t p < 0 := by
  unfold tK at h
  unfold tV
  revert h
  generalize tS r t p = s
  intro h
  by_cases h0 : s < t
  · by_cases h1 : t_lt (r s)
    · rw [t_tk1 h0 h1] at h; exact absurd h (show ¬ (1 : Int32) = 2 by decide)
    · by_cases h2 : t_dg (r s)
      · rw [t_tk2 h0 h1 h2]
        obtain ⟨k, hk, e⟩ := t_nmv (r := r) (t := t) (f := 121) (i := s) (w := 0) ⟨0, by omega, rfl⟩
        show ¬ (t_nm r t 121 s 0).2 < 0
        rw [e]
        exact nI_pos (by omega)
      · by_cases h3 : r s = 59
        · rw [t_tk3 h0 h1 h2 h3] at h; exact absurd h (show ¬ (3 : Int32) = 2 by decide)
        · rw [t_tk4 h0 h1 h2 h3] at h; exact absurd h (show ¬ (4 : Int32) = 2 by decide)
  · rw [t_tk0 h0] at h; exact absurd h (show ¬ (0 : Int32) = 2 by decide)
/-- a number of at most m stands there; the i-th text stands there; behind it, if b -/
def t_nu (r : Nat → Int32) (t : Nat) (m : Int32) (p : Nat) : Prop := tK r t p = 2 ∧ ¬ m < tV r t p
def t_w (r : Nat → Int32) (t i p : Nat) : Prop := t_iw r (tK r t p) (tS r t p) (tE r t p) i
noncomputable def t_av (r : Nat → Int32) (t : Nat) (b : Prop) (p : Nat) : Nat := tif b (tE r t p) p
theorem t_av_t {r : Nat → Int32} {t p : Nat} {b : Prop} (h : b) : t_av r t b p = tE r t p := tif_t h
theorem t_av_f {r : Nat → Int32} {t p : Nat} {b : Prop} (h : ¬ b) : t_av r t b p = p := tif_f h
theorem t_av_le {r : Nat → Int32} {t p : Nat} {b : Prop} (h : p ≤ t) : p ≤ t_av r t b p ∧ t_av r t b p ≤ t := by
  by_cases c : b
  · rw [t_av_t c]
    have h1 := tS_le (r := r) h
    have h2 := tE_le (r := r) h
    exact ⟨by omega, h2.2⟩
  · rw [t_av_f c]
    exact ⟨Nat.le_refl _, h⟩
theorem t_nu_ex {r : Nat → Int32} {t p : Nat} {m : Int32} (n : Nat) (hm : m = nI n) (hn : n < 2 ^ 31) (h : t_nu r t m p) : ∃ j, j ≤ n ∧ tV r t p = nI j :=
  z_in_ex n hm hn ⟨tV_nn h.1, h.2⟩
theorem t_w_k {r : Nat → Int32} {t i p : Nat} (h : t_w r t i p) : tK r t p = 1 := h.1
theorem t_words : ∀ i, i < 12 → ∀ j, j < 12 → qx_len.getD i 0 = qx_len.getD j 0 → (∀ c, c < qx_len.getD i 0 → (qx_byt.getD i []).getD c 0 = (qx_byt.getD j []).getD c 0) → i = j := by decide +kernel
theorem t_w_u {r : Nat → Int32} {t i j p : Nat} (hi : i < 12) (hj : j < 12) (h : t_w r t i p) (g : t_w r t j p) : i = j := by
  have e : qx_len.getD i 0 = qx_len.getD j 0 := h.2.1.symm.trans g.2.1
  exact t_words i hi j hj e (fun c hc => (h.2.2 c hc).symm.trans (g.2.2 c (by rw [← e]; exact hc)))
/-- two numbers behind the word at p: whether they stand there, and where the reading ends -/
noncomputable def t_2q (r : Nat → Int32) (t : Nat) (a : Int32) (p : Nat) : Nat := t_av r t (t_nu r t a (tE r t p)) (tE r t p)
def t_2P (r : Nat → Int32) (t : Nat) (a b : Int32) (p : Nat) : Prop := t_nu r t a (tE r t p) ∧ t_nu r t b (t_2q r t a p)
noncomputable def t_2p (r : Nat → Int32) (t : Nat) (a b : Int32) (p : Nat) : Nat := t_av r t (t_2P r t a b p) (t_2q r t a p)
/-- what may follow: the word i and a number of at most m; o: all was well before -/
def t_oO (r : Nat → Int32) (t i : Nat) (m : Int32) (p : Nat) (o : Prop) : Prop := o ∧ (t_w r t i p → t_nu r t m (tE r t p))
noncomputable def t_oP (r : Nat → Int32) (t i : Nat) (m : Int32) (p : Nat) (o : Prop) : Nat := t_av r t (o ∧ t_w r t i p ∧ t_nu r t m (tE r t p)) (t_av r t (o ∧ t_w r t i p) p)
noncomputable def t_oV (r : Nat → Int32) (t i : Nat) (d : Int32) (p : Nat) (o : Prop) : Int32 := tif (o ∧ t_w r t i p) (tV r t (tE r t p)) d
theorem t_oP_le {r : Nat → Int32} {t i p : Nat} {m : Int32} {o : Prop} (h : p ≤ t) : p ≤ t_oP r t i m p o ∧ t_oP r t i m p o ≤ t := by
  have h1 := t_av_le (r := r) (b := o ∧ t_w r t i p) h
  have h2 := t_av_le (r := r) (b := o ∧ t_w r t i p ∧ t_nu r t m (tE r t p)) h1.2
  exact ⟨Nat.le_trans h1.1 h2.1, h2.2⟩
theorem t_oF {r : Nat → Int32} {t i p : Nat} {m d : Int32} {o : Prop} (h : ¬ o) : ¬ t_oO r t i m p o ∧ t_oP r t i m p o = p ∧ t_oV r t i d p o = d := by
  refine ⟨fun q => h q.1, ?_, tif_f (fun q => h q.1)⟩
  unfold t_oP
  rw [t_av_f (fun q : o ∧ _ => h q.1), t_av_f (fun q : o ∧ _ => h q.1)]
theorem t_oN {r : Nat → Int32} {t i p : Nat} {m d : Int32} {o : Prop} (ho : o) (h : ¬ t_w r t i p) : t_oO r t i m p o ∧ t_oP r t i m p o = p ∧ t_oV r t i d p o = d := by
  refine ⟨⟨ho, fun q => absurd q h⟩, ?_, tif_f (fun q => h q.2)⟩
  unfold t_oP
  rw [t_av_f (fun q : o ∧ t_w r t i p => h q.2), t_av_f (fun q : o ∧ t_w r t i p ∧ _ => h q.2.1)]
theorem t_oX {r : Nat → Int32} {t i p : Nat} {m d : Int32} {o : Prop} (ho : o) (h : t_w r t i p) (hn : ¬ t_nu r t m (tE r t p)) : ¬ t_oO r t i m p o ∧ t_oP r t i m p o = tE r t p ∧ t_oV r t i d p o = tV r t (tE r t p) := by
  refine ⟨fun q => hn (q.2 h), ?_, tif_t ⟨ho, h⟩⟩
  unfold t_oP
  rw [t_av_t (b := o ∧ t_w r t i p) ⟨ho, h⟩, t_av_f (fun q : o ∧ t_w r t i p ∧ _ => hn q.2.2)]
theorem t_oY {r : Nat → Int32} {t i p : Nat} {m d : Int32} {o : Prop} (ho : o) (h : t_w r t i p) (hn : t_nu r t m (tE r t p)) : t_oO r t i m p o ∧ t_oP r t i m p o = tE r t (tE r t p) ∧ t_oV r t i d p o = tV r t (tE r t p) := by
  refine ⟨⟨ho, fun _ => hn⟩, ?_, tif_t ⟨ho, h⟩⟩
  unfold t_oP
  rw [t_av_t (b := o ∧ t_w r t i p) ⟨ho, h⟩, t_av_t (b := o ∧ t_w r t i p ∧ t_nu r t m (tE r t p)) ⟨ho, h, hn⟩]
/-- a bust, its word at p, N busts before it: the places and the truths of its reading, one behind another -/
noncomputable def t_b1p (r : Nat → Int32) (t N p : Nat) : Nat := t_av r t (N < 8) p
def t_b2 (r : Nat → Int32) (t N p : Nat) : Prop := N < 8 ∧ t_nu r t 999 (t_b1p r t N p)
noncomputable def t_b2p (r : Nat → Int32) (t N p : Nat) : Nat := t_av r t (t_b2 r t N p) (t_b1p r t N p)
def t_b4 (r : Nat → Int32) (t N p : Nat) : Prop := t_oO r t 7 4095 (t_b2p r t N p) (t_b2 r t N p)
noncomputable def t_b4p (r : Nat → Int32) (t N p : Nat) : Nat := t_oP r t 7 4095 (t_b2p r t N p) (t_b2 r t N p)
def t_b6 (r : Nat → Int32) (t N p : Nat) : Prop := t_oO r t 8 15 (t_b4p r t N p) (t_b4 r t N p)
noncomputable def t_b6p (r : Nat → Int32) (t N p : Nat) : Nat := t_oP r t 8 15 (t_b4p r t N p) (t_b4 r t N p)
noncomputable def t_b7p (r : Nat → Int32) (t N p : Nat) : Nat := t_av r t (t_b6 r t N p ∧ t_w r t 9 (t_b6p r t N p)) (t_b6p r t N p)
noncomputable def t_bd (r : Nat → Int32) (t N p : Nat) : Int32 := tV r t (t_b1p r t N p)
noncomputable def t_bh (r : Nat → Int32) (t N p : Nat) : Int32 := t_oV r t 7 3 (t_b2p r t N p) (t_b2 r t N p)
noncomputable def t_bA (r : Nat → Int32) (t N p : Nat) : Int32 := t_oV r t 8 0 (t_b4p r t N p) (t_b4 r t N p)
noncomputable def t_bs (r : Nat → Int32) (t N p : Nat) : Int32 := tif (t_b6 r t N p ∧ t_w r t 9 (t_b6p r t N p)) 1 0
/-- an item: five numbers; what it makes of how many busts there are and of the row -/
abbrev tI : Type := Int32 × Int32 × Int32 × Int32 × Int32
def t_ap (it : tI) (N : Nat) (w : Nat → Int32) : Nat × (Nat → Int32) :=
  if it.1 = 10 then (N, upd w (4 + zn it.2.1) it.2.2.1) else if it.1 = 11 then (N, upd w (10 + zn it.2.1) it.2.2.1) else (N + 1, upd (upd (upd (z_cm w N it.1 it.2.1) (32 + 7 * N + 2) it.2.2.1) (32 + 7 * N + 3) it.2.2.2.1) (32 + 7 * N + 5) it.2.2.2.2)
/-- the kind whose word stands at p (below 0: none) among the first n -/
noncomputable def t_kd (r : Nat → Int32) (t p : Nat) : Nat → Int32
  | 0 => -1
  | n + 1 => tif (t_w r t n p) (nI n) (t_kd r t p n)
theorem t_kd_f {r : Nat → Int32} {t p n : Nat} (h : ∀ k, k < n → ¬ t_w r t k p) : t_kd r t p n = -1 := by
  induction n with
  | zero => rfl
  | succ n ih =>
    show tif (t_w r t n p) (nI n) (t_kd r t p n) = -1
    rw [tif_f (h n (by omega)), ih (fun k hk => h k (by omega))]
theorem t_kd_t {r : Nat → Int32} {t p n k : Nat} (hn : n ≤ 12) (hk : k < n) (h : t_w r t k p) : t_kd r t p n = nI k := by
  induction n with
  | zero => omega
  | succ n ih =>
    show tif (t_w r t n p) (nI n) (t_kd r t p n) = nI k
    by_cases c : t_w r t n p
    · rw [tif_t c, t_w_u (by omega) (by omega) c h]
    · rw [tif_f c]
      have : ¬ k = n := fun e => c (e ▸ h)
      exact ih (by omega) (by omega)
def t_any (r : Nat → Int32) (t p : Nat) : Prop := ∃ k, k < 7 ∧ t_w r t k p
def t_iP (r : Nat → Int32) (t N p : Nat) : Prop := (t_w r t 10 p ∧ t_2P r t 5 12 p) ∨ (t_w r t 11 p ∧ t_2P r t 11 99 p) ∨ (t_any r t p ∧ t_b6 r t N p)
noncomputable def t_ip (r : Nat → Int32) (t N p : Nat) : Nat := tif (t_w r t 10 p) (t_2p r t 5 12 p) (tif (t_w r t 11 p) (t_2p r t 11 99 p) (tif (t_any r t p) (t_b7p r t N p) p))
noncomputable def t_it (r : Nat → Int32) (t N p : Nat) : tI := tif (t_w r t 10 p) (10, tV r t (tE r t p), tV r t (t_2q r t 5 p), 0, 0) (tif (t_w r t 11 p) (11, tV r t (tE r t p), tV r t (t_2q r t 11 p), 0, 0) (t_kd r t p 7, t_bd r t N p, t_bh r t N p, t_bA r t N p, t_bs r t N p))
theorem t_wne {r : Nat → Int32} {t i j p : Nat} (hi : i < 12) (hj : j < 12) (hij : ¬ i = j) (h : t_w r t i p) : ¬ t_w r t j p := fun g => hij (t_w_u hi hj h g)
theorem t_2_le {r : Nat → Int32} {t p : Nat} {a b : Int32} (h : p ≤ t) : p ≤ t_2p r t a b p ∧ t_2p r t a b p ≤ t := by
  have h1 := tS_le (r := r) h
  have h2 := tE_le (r := r) h
  have h3 := t_av_le (r := r) (b := t_nu r t a (tE r t p)) h2.2
  have h4 := t_av_le (r := r) (b := t_2P r t a b p) (p := t_2q r t a p) h3.2
  have h5 : t_2q r t a p = t_av r t (t_nu r t a (tE r t p)) (tE r t p) := rfl
  have h6 : t_2p r t a b p = t_av r t (t_2P r t a b p) (t_2q r t a p) := rfl
  rw [h6]
  exact ⟨by omega, h4.2⟩
theorem t_b_le {r : Nat → Int32} {t N p : Nat} (h : p ≤ t) : p ≤ t_b1p r t N p ∧ t_b1p r t N p ≤ t_b2p r t N p ∧ t_b2p r t N p ≤ t_b4p r t N p ∧ t_b4p r t N p ≤ t_b6p r t N p ∧ t_b6p r t N p ≤ t_b7p r t N p ∧ t_b7p r t N p ≤ t := by
  have h1 := t_av_le (r := r) (b := N < 8) h
  have h2 := t_av_le (r := r) (b := t_b2 r t N p) (p := t_b1p r t N p) h1.2
  have h3 := t_oP_le (r := r) (i := 7) (m := 4095) (o := t_b2 r t N p) (p := t_b2p r t N p) h2.2
  have h4 := t_oP_le (r := r) (i := 8) (m := 15) (o := t_b4 r t N p) (p := t_b4p r t N p) h3.2
  have h5 := t_av_le (r := r) (b := t_b6 r t N p ∧ t_w r t 9 (t_b6p r t N p)) (p := t_b6p r t N p) h4.2
  exact ⟨h1.1, h2.1, h3.1, h4.1, h5.1, h5.2⟩
theorem t_ip_le {r : Nat → Int32} {t N p : Nat} (h : p ≤ t) : p ≤ t_ip r t N p ∧ t_ip r t N p ≤ t := by
  unfold t_ip
  by_cases c : t_w r t 10 p
  · rw [tif_t c]; exact t_2_le h
  · rw [tif_f c]
    by_cases c2 : t_w r t 11 p
    · rw [tif_t c2]; exact t_2_le h
    · rw [tif_f c2]
      by_cases c3 : t_any r t p
      · rw [tif_t c3]
        have := t_b_le (r := r) (N := N) h
        exact ⟨by omega, by omega⟩
      · rw [tif_f c3]; exact ⟨Nat.le_refl _, h⟩
/-- an item takes a byte at least -/
theorem t_ip_lt {r : Nat → Int32} {t N p : Nat} (h : p ≤ t) (hI : t_iP r t N p) : p < t_ip r t N p := by
  unfold t_ip
  rcases hI with ⟨c, g⟩ | ⟨c, g⟩ | ⟨c, g⟩
  · rw [tif_t c]
    have h1 := tE_lt (r := r) h (by rw [t_w_k c]; decide)
    have h2 := (t_av_le (r := r) (b := t_nu r t 5 (tE r t p)) (tE_le (r := r) h).2)
    have h3 := (t_av_le (r := r) (b := t_2P r t 5 12 p) (p := t_2q r t 5 p) h2.2).1
    have h5 : t_2q r t 5 p = t_av r t (t_nu r t 5 (tE r t p)) (tE r t p) := rfl
    have h6 : t_2p r t 5 12 p = t_av r t (t_2P r t 5 12 p) (t_2q r t 5 p) := rfl
    rw [h6]
    omega
  · rw [tif_f (t_wne (by omega) (by omega) (by omega) c), tif_t c]
    have h1 := tE_lt (r := r) h (by rw [t_w_k c]; decide)
    have h2 := (t_av_le (r := r) (b := t_nu r t 11 (tE r t p)) (tE_le (r := r) h).2)
    have h3 := (t_av_le (r := r) (b := t_2P r t 11 99 p) (p := t_2q r t 11 p) h2.2).1
    have h5 : t_2q r t 11 p = t_av r t (t_nu r t 11 (tE r t p)) (tE r t p) := rfl
    have h6 : t_2p r t 11 99 p = t_av r t (t_2P r t 11 99 p) (t_2q r t 11 p) := rfl
    rw [h6]
    omega
  · obtain ⟨k, hk, ck⟩ := c
    rw [tif_f (t_wne (by omega) (by omega) (by omega) ck), tif_f (t_wne (by omega) (by omega) (by omega) ck), tif_t ⟨k, hk, ck⟩]
    have h1 := tE_lt (r := r) h (by rw [t_w_k ck]; decide)
    have h2 := t_b_le (r := r) (N := N) h
    have h3 : t_b1p r t N p = tE r t p := t_av_t g.1.1.1
    omega
/-- the text from p on, m items read, N busts, the row w: the answer, how many busts, the row -/
noncomputable def t_tx (r : Nat → Int32) (t N0 : Nat) (w0 : Nat → Int32) : Nat → Nat → Nat → (Nat → Int32) → Nat → Int32 × Nat × (Nat → Int32)
  | 0, _, _, _, p => (-1 - nI (tS r t p), N0, w0)
  | f + 1, m, N, w, p => tif (t_iP r t N p)
      (tif (tK r t (t_ip r t N p) = 0) (nI (m + 1), (t_ap (t_it r t N p) N w).1, (t_ap (t_it r t N p) N w).2)
        (tif (tK r t (t_ip r t N p) = 3) (t_tx r t N0 w0 f (m + 1) (t_ap (t_it r t N p) N w).1 (t_ap (t_it r t N p) N w).2 (tE r t (t_ip r t N p)))
          (-1 - nI (tS r t (t_ip r t N p)), N0, w0)))
      (-1 - nI (tS r t (t_ip r t N p)), N0, w0)
