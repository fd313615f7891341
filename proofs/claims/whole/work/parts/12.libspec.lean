/-! what a library's row becomes: the words of a day -/
theorem qv_upd {v : Nat → Int32} {N : Nat} (h : qv_ok v N) (i : Nat) (x : Int32) (h0 : i = 0 → ∃ d, d ≤ 99999 ∧ x = nI d) (h1 : ¬ i = 1) (h4 : ∀ j, j < 6 → i = 4 + j → ∃ q, q ≤ 12 ∧ x = nI q)
    (hk : ∀ b, b < N → i = 32 + 7 * b + 0 → ∃ q, q ≤ 6 ∧ x = nI q) (hh : ∀ b, b < N → i = 32 + 7 * b + 2 → ∃ q, q < 4096 ∧ x = nI q) (hg : ∀ b, b < N → i = 32 + 7 * b + 6 → x = 0 ∨ x = 1)
    (hs : ∀ j, j < 10 → i = 22 + j → x = -1 ∨ ∃ b, b < N ∧ x = nI b) : qv_ok (upd v i x) N := by
  obtain ⟨a1, a2, a3, a4, a5, a6⟩ := h
  refine ⟨a1, by rw [upd_ne (fun e => h1 e.symm)]; exact a2, ?_, fun j hj => ?_, fun b hb => ⟨?_, ?_, ?_⟩, fun j hj => ?_⟩
  · by_cases e : (0 : Nat) = i
    · rw [← e, upd_eq]; exact h0 e.symm
    · rw [upd_ne e]; exact a3
  · by_cases e : 4 + j = i
    · rw [e, upd_eq]; exact h4 j hj e.symm
    · rw [upd_ne e]; exact a4 j hj
  · by_cases e : 32 + 7 * b + 0 = i
    · rw [e, upd_eq]; exact hk b hb e.symm
    · rw [upd_ne e]; exact (a5 b hb).1
  · by_cases e : 32 + 7 * b + 2 = i
    · rw [e, upd_eq]; exact hh b hb e.symm
    · rw [upd_ne e]; exact (a5 b hb).2.1
  · by_cases e : 32 + 7 * b + 6 = i
    · rw [e, upd_eq]; exact hg b hb e.symm
    · rw [upd_ne e]; exact (a5 b hb).2.2
  · by_cases e : 22 + j = i
    · rw [e, upd_eq]; exact hs j hj e.symm
    · rw [upd_ne e]; exact a6 j hj
theorem qv_free {v : Nat → Int32} {N : Nat} (h : qv_ok v N) (i : Nat) (x : Int32) (hi : i = 2 ∨ i = 3 ∨ (10 ≤ i ∧ i < 22) ∨ ∃ b f, b < 8 ∧ (f = 1 ∨ f = 3 ∨ f = 4 ∨ f = 5) ∧ i = 32 + 7 * b + f) : qv_ok (upd v i x) N := by
  have hb : ∀ b c f g, b < 8 → f < 7 → g < 7 → (32 + 7 * b + f = 32 + 7 * c + g → f = g) := fun b c f g _ _ _ _ => by omega
  refine qv_upd h i x (fun e => ?_) ?_ (fun j hj e => ?_) (fun b hb e => ?_) (fun b hb e => ?_) (fun b hb e => ?_) (fun j hj e => ?_)
  all_goals (rcases hi with q | q | q | ⟨c, f, q1, q2, q3⟩ <;> (try omega))
theorem z_rc_nI {h p : Nat} (hh : h < 4096) (hp : p < 12) : z_rc (nI h) (nI p) = nI (h ||| 2 ^ p) ∧ (h ||| 2 ^ p) < 4096 := by
  have e1 : (1 : Int32) <<< (nI p &&& 31) = nI (2 ^ p) := by
    have : p = 0 ∨ p = 1 ∨ p = 2 ∨ p = 3 ∨ p = 4 ∨ p = 5 ∨ p = 6 ∨ p = 7 ∨ p = 8 ∨ p = 9 ∨ p = 10 ∨ p = 11 := by omega
    rcases this with rfl | rfl | rfl | rfl | rfl | rfl | rfl | rfl | rfl | rfl | rfl | rfl <;> decide
  refine ⟨?_, Nat.or_lt_two_pow (n := 12) hh (by have := Nat.pow_lt_pow_right (a := 2) (by omega) hp; omega)⟩
  unfold z_rc
  rw [e1]
  apply Int32.toBitVec_inj.mp
  show (BitVec.ofNat 32 h ||| BitVec.ofNat 32 (2 ^ p)) = BitVec.ofNat 32 (h ||| 2 ^ p)
  rw [BitVec.ofNat_or]
/-- who would get a part: among the first n -/
noncomputable def z_h1 (v : Nat → Int32) (p : Int32) (b : Nat) (o : Option Nat) : Option Nat := @ite _ (v (32 + 7 * b + 6) = 0 ∧ z_tk (v (32 + 7 * b + 0)) (v (32 + 7 * b + 2)) p ∧ ∀ h, o = some h → ¬ v (32 + 7 * h + 1) ≤ v (32 + 7 * b + 1)) (Classical.propDecidable _) (some b) o
noncomputable def z_hr (v : Nat → Int32) (p : Int32) : Nat → Option Nat
  | 0 => none
  | b + 1 => z_h1 v p b (z_hr v p b)
def z_oi : Option Nat → Int32
  | none => -1
  | some b => nI b
theorem z_h1_t {v : Nat → Int32} {p : Int32} {b : Nat} {o : Option Nat} (h : v (32 + 7 * b + 6) = 0 ∧ z_tk (v (32 + 7 * b + 0)) (v (32 + 7 * b + 2)) p ∧ ∀ h, o = some h → ¬ v (32 + 7 * h + 1) ≤ v (32 + 7 * b + 1)) : z_h1 v p b o = some b := if_pos h
theorem z_h1_f {v : Nat → Int32} {p : Int32} {b : Nat} {o : Option Nat} (h : ¬ (v (32 + 7 * b + 6) = 0 ∧ z_tk (v (32 + 7 * b + 0)) (v (32 + 7 * b + 2)) p ∧ ∀ h, o = some h → ¬ v (32 + 7 * h + 1) ≤ v (32 + 7 * b + 1))) : z_h1 v p b o = o := if_neg h
theorem z_hr_lt {v : Nat → Int32} {p : Int32} {n h : Nat} (e : z_hr v p n = some h) : h < n := by
  induction n with
  | zero => cases e
  | succ n ih =>
    by_cases c : v (32 + 7 * n + 6) = 0 ∧ z_tk (v (32 + 7 * n + 0)) (v (32 + 7 * n + 2)) p ∧ ∀ h, z_hr v p n = some h → ¬ v (32 + 7 * h + 1) ≤ v (32 + 7 * n + 1)
    · rw [show z_hr v p (n + 1) = some n from z_h1_t c] at e
      cases e
      omega
    · rw [show z_hr v p (n + 1) = z_hr v p n from z_h1_f c] at e
      have := ih e
      omega
noncomputable def z_selr (P : Prop) (a b : Nat → Int32) : Nat → Int32 := @ite _ P (Classical.propDecidable P) a b
theorem z_selr_t {P : Prop} {a b : Nat → Int32} (h : P) : z_selr P a b = a := if_pos h
theorem z_selr_f {P : Prop} {a b : Nat → Int32} (h : ¬ P) : z_selr P a b = b := if_neg h
theorem z_selr_all {P : Prop} {a b : Nat → Int32} {R : (Nat → Int32) → Prop} (ha : R a) (hb : R b) : R (z_selr P a b) := by
  by_cases h : P
  · rw [z_selr_t h]; exact ha
  · rw [z_selr_f h]; exact hb
noncomputable def z_d1 (v : Nat → Int32) (b : Nat) : Nat → Int32 := upd v (32 + 7 * b + 4) (qx_mn 99 (v (32 + 7 * b + 4) + z_yn (v (32 + 7 * b + 0)) (v (32 + 7 * b + 2))))
noncomputable def z_d2 (v : Nat → Int32) (b : Nat) : Nat → Int32 := upd v (32 + 7 * b + 3) (qx_mn 15 (v (32 + 7 * b + 3) + z_st (v (32 + 7 * b + 0)) (v (32 + 7 * b + 2))))
def z_d3 (v : Nat → Int32) (b : Nat) : Nat → Int32 := upd v (32 + 7 * b + 6) 1
def z_d4 (v : Nat → Int32) : Nat → Int32 := upd v 3 (qx_mn 9999 (v 3 + 1))
/-- a bust's day -/
noncomputable def z_dB (v : Nat → Int32) (b : Nat) : Nat → Int32 := z_selr (z_ww (z_row (z_d1 v b) b)) (z_selr (z_d2 (z_d1 v b) b (32 + 7 * b + 3) = 15) (z_d4 (z_d3 (z_d2 (z_d1 v b) b) b)) (z_d2 (z_d1 v b) b)) (z_d1 v b)
noncomputable def z_dF (v : Nat → Int32) : Nat → Nat → Int32
  | 0 => v
  | b + 1 => z_selr (z_dF v b (32 + 7 * b + 6) = 0) (z_dB (z_dF v b) b) (z_dF v b)
noncomputable def z_bq (v : Nat → Int32) (q : Nat) : Option Nat → Nat → Int32
  | some h => upd v (32 + 7 * h + 2) (z_rc (v (32 + 7 * h + 2)) (nI q))
  | none => upd v (10 + q) (qx_mn 99 (v (10 + q) + 1))
/-- the bequest q comes -/
noncomputable def z_be (v : Nat → Int32) (N q : Nat) : Nat → Int32 := if 12 ≤ q then v else z_bq v q (z_hr v (nI q) N)
def z_dd (v : Nat → Int32) : Nat := (v 0).toNatClampNeg % 6
def z_dq (v : Nat → Int32) : Nat := (v (4 + z_dd v)).toNatClampNeg
def z_d0 (v : Nat → Int32) : Nat → Int32 := upd v 0 (qx_mn 99999 (v 0 + 1))
noncomputable def z_day (v : Nat → Int32) (N : Nat) : Nat → Int32 := z_d0 (z_dF (z_be v N (z_dq v)) N)
noncomputable def z_dn (v : Nat → Int32) (N : Nat) : Nat → Nat → Int32
  | 0 => v
  | n + 1 => z_day (z_dn v N n) N
theorem qx_mn_nI {a b : Nat} (ha : a < 2 ^ 31) (hb : b < 2 ^ 31) : qx_mn (nI a) (nI b) = nI (if b < a then b else a) := by
  unfold qx_mn
  by_cases h : b < a
  · rw [if_pos h, if_pos ((nI_ltI hb ha).mpr h)]
  · rw [if_neg h, if_neg (fun q => h ((nI_ltI hb ha).mp q))]
theorem z_dd_of {v : Nat → Int32} {d : Nat} (h : v 0 = nI d) (hd : d ≤ 99999) : z_dd v = d % 6 := by
  unfold z_dd
  rw [h, nI_clamp (by omega)]
theorem z_dq_of {v : Nat → Int32} {d q : Nat} (h : v 0 = nI d) (hd : d ≤ 99999) (hq : v (4 + d % 6) = nI q) (hq2 : q ≤ 12) : z_dq v = q := by
  unfold z_dq
  rw [z_dd_of h hd, hq, nI_clamp (by omega)]
theorem qv_d1 {v : Nat → Int32} {N b : Nat} (h : qv_ok v N) (hb : b < N) : qv_ok (z_d1 v b) N := qv_free h _ _ (Or.inr (Or.inr (Or.inr ⟨b, 4, by have := h.1; omega, by omega, rfl⟩)))
theorem qv_d2 {v : Nat → Int32} {N b : Nat} (h : qv_ok v N) (hb : b < N) : qv_ok (z_d2 v b) N := qv_free h _ _ (Or.inr (Or.inr (Or.inr ⟨b, 3, by have := h.1; omega, by omega, rfl⟩)))
theorem qv_d3 {v : Nat → Int32} {N b : Nat} (h : qv_ok v N) (hb : b < N) : qv_ok (z_d3 v b) N :=
  qv_upd h _ _ (fun e => by omega) (by omega) (fun j hj e => by omega) (fun c hc e => by omega) (fun c hc e => by omega) (fun c hc e => Or.inr rfl) (fun j hj e => by omega)
theorem qv_d4 {v : Nat → Int32} {N : Nat} (h : qv_ok v N) : qv_ok (z_d4 v) N := qv_free h _ _ (Or.inr (Or.inl rfl))
theorem qv_dB {v : Nat → Int32} {N b : Nat} (h : qv_ok v N) (hb : b < N) : qv_ok (z_dB v b) N :=
  z_selr_all (R := fun w => qv_ok w N) (z_selr_all (R := fun w => qv_ok w N) (qv_d4 (qv_d3 (qv_d2 (qv_d1 h hb) hb) hb)) (qv_d2 (qv_d1 h hb) hb)) (qv_d1 h hb)
theorem qv_dF {v : Nat → Int32} {N : Nat} (h : qv_ok v N) : ∀ b, b ≤ N → qv_ok (z_dF v b) N := by
  intro b
  induction b with
  | zero => intro _; exact h
  | succ b ih => intro hb; exact z_selr_all (R := fun w => qv_ok w N) (qv_dB (ih (by omega)) (by omega)) (ih (by omega))
theorem qv_bq {v : Nat → Int32} {N q : Nat} {o : Option Nat} (h : qv_ok v N) (hq : q < 12) (ho : ∀ b, o = some b → b < N) : qv_ok (z_bq v q o) N := by
  cases o with
  | none => exact qv_free h _ _ (Or.inr (Or.inr (Or.inl ⟨by omega, by omega⟩)))
  | some b =>
    have hb := ho b rfl
    obtain ⟨x, hx, ex⟩ := (h.2.2.2.2.1 b hb).2.1
    refine qv_upd h _ _ (fun e => by omega) (by omega) (fun j hj e => by omega) (fun c hc e => by omega) (fun c hc e => ?_) (fun c hc e => by omega) (fun j hj e => by omega)
    rw [ex, (z_rc_nI hx hq).1]
    exact ⟨_, (z_rc_nI hx hq).2, rfl⟩
theorem qv_be {v : Nat → Int32} {N q : Nat} (h : qv_ok v N) : qv_ok (z_be v N q) N := by
  unfold z_be
  split
  · exact h
  · exact qv_bq h (by omega) (fun b e => z_hr_lt e)
theorem qv_d0 {v : Nat → Int32} {N : Nat} (h : qv_ok v N) : qv_ok (z_d0 v) N := by
  obtain ⟨d, hd, ed⟩ := h.2.2.1
  refine qv_upd h 0 _ (fun _ => ?_) (by omega) (fun j hj e => by omega) (fun b hb e => by omega) (fun b hb e => by omega) (fun b hb e => by omega) (fun j hj e => by omega)
  rw [ed, nI_1, show (99999 : Int32) = nI 99999 from rfl, qx_mn_nI (by omega) (by omega)]
  refine ⟨_, ?_, rfl⟩
  split <;> omega
theorem qv_day {v : Nat → Int32} {N : Nat} (h : qv_ok v N) : qv_ok (z_day v N) N := qv_d0 (qv_dF (qv_be h) N (Nat.le_refl _))
theorem qv_dn {v : Nat → Int32} {N : Nat} (h : qv_ok v N) : ∀ n, qv_ok (z_dn v N n) N := by
  intro n
  induction n with
  | zero => exact h
  | succ n ih => exact qv_day ih
/-- draws -/
def z_dr (v : Nat → Int32) : Nat → Int32 := upd v 2 (v 2 * 1103515245 + 12345)
def z_rn (z : Int32) : Nat := z.toBitVec.toNat / 256
theorem z_us8 (z : Int32) : z_us z 8 = nI (z_rn z) := by
  apply Int32.toBitVec_inj.mp
  apply BitVec.eq_of_toNat_eq
  have h := pk_ushr z 8 8 (by decide)
  unfold z_us
  rw [h]
  unfold z_rn
  have hz : z.toBitVec.toNat < 2 ^ 32 := z.toBitVec.isLt
  rw [pk_tn (by omega)]
theorem z_rn_lt (z : Int32) : z_rn z < 2 ^ 24 := by
  have hz : z.toBitVec.toNat < 2 ^ 32 := z.toBitVec.isLt
  unfold z_rn
  omega
def z_q1 (v : Nat → Int32) : Nat := z_rn (z_dr v 2) % 13
def z_q2 (v : Nat → Int32) : Nat := z_rn (z_dr (z_dr v) 2) % 8
def z_c3 (v : Nat → Int32) : Nat → Int32 := upd (z_dr (z_dr v)) (4 + z_dd v) (nI (z_q1 v))
def z_c4 (v : Nat → Int32) (N : Nat) : Nat → Int32 := if z_q2 v < N then upd (z_c3 v) (32 + 7 * z_q2 v + 4) (qx_mn 99 (z_c3 v (32 + 7 * z_q2 v + 4) + 10)) else z_c3 v
noncomputable def z_ch (v : Nat → Int32) (N : Nat) : Nat → Int32 := z_day (z_c4 v N) N
theorem qv_dr {v : Nat → Int32} {N : Nat} (h : qv_ok v N) : qv_ok (z_dr v) N := qv_free h _ _ (Or.inl rfl)
theorem qv_c3 {v : Nat → Int32} {N : Nat} (h : qv_ok v N) : qv_ok (z_c3 v) N := by
  have hd : z_dd v < 6 := Nat.mod_lt _ (by omega)
  refine qv_upd (qv_dr (qv_dr h)) _ _ (fun e => by omega) (by omega) (fun j hj e => ⟨_, ?_, rfl⟩) (fun b hb e => by omega) (fun b hb e => by omega) (fun b hb e => by omega) (fun j hj e => by omega)
  have : z_q1 v < 13 := Nat.mod_lt _ (by omega)
  omega
theorem qv_c4 {v : Nat → Int32} {N : Nat} (h : qv_ok v N) : qv_ok (z_c4 v N) N := by
  unfold z_c4
  split
  · exact qv_free (qv_c3 h) _ _ (Or.inr (Or.inr (Or.inr ⟨z_q2 v, 4, Nat.mod_lt _ (by omega), by omega, rfl⟩)))
  · exact qv_c3 h
theorem qv_ch {v : Nat → Int32} {N : Nat} (h : qv_ok v N) : qv_ok (z_ch v N) N := qv_day (qv_c4 h)
/-- sums and sets over the first n -/
def z_fo (F : Nat → Int32 → Int32) : Nat → Int32
  | 0 => 0
  | n + 1 => F n (z_fo F n)
def z_Fst (v : Nat → Int32) (n : Nat) (a : Int32) : Int32 := a + v (10 + n)
noncomputable def z_Fco (v : Nat → Int32) (b : Nat) (a : Int32) : Int32 := z_sel (v (32 + 7 * b + 6) = 0 ∧ v (32 + 7 * b + 2) = 4095) (z_rc a (nI b)) a
noncomputable def z_Fwa (v : Nat → Int32) (b : Nat) (a : Int32) : Int32 := z_sel (z_ww (z_row v b)) (z_rc a (nI b)) a
noncomputable def z_Fye (v : Nat → Int32) (b : Nat) (a : Int32) : Int32 := z_sel (v (32 + 7 * b + 6) = 0) (a + v (32 + 7 * b + 4)) a
noncomputable def z_Fgo (v : Nat → Int32) (b : Nat) (a : Int32) : Int32 := z_sel (v (32 + 7 * b + 6) = 1) (z_rc a (nI b)) a
noncomputable def z_Fsp (v : Nat → Int32) (i : Nat) (a : Int32) : Int32 := z_sel (v (22 + i) < 0) a (a + 1)
noncomputable def z_l1 (v : Nat → Int32) (b : Nat) (o : Option Nat) : Option Nat := @ite _ (v (32 + 7 * b + 6) = 0 ∧ ∀ h, o = some h → ¬ z_say (z_row v b) ≤ z_say (z_row v h)) (Classical.propDecidable _) (some b) o
noncomputable def z_lo (v : Nat → Int32) : Nat → Option Nat
  | 0 => none
  | b + 1 => z_l1 v b (z_lo v b)
theorem z_l1_t {v : Nat → Int32} {b : Nat} {o : Option Nat} (h : v (32 + 7 * b + 6) = 0 ∧ ∀ h, o = some h → ¬ z_say (z_row v b) ≤ z_say (z_row v h)) : z_l1 v b o = some b := if_pos h
theorem z_l1_f {v : Nat → Int32} {b : Nat} {o : Option Nat} (h : ¬ (v (32 + 7 * b + 6) = 0 ∧ ∀ h, o = some h → ¬ z_say (z_row v b) ≤ z_say (z_row v h))) : z_l1 v b o = o := if_neg h
theorem z_lo_lt {v : Nat → Int32} {n h : Nat} (e : z_lo v n = some h) : h < n := by
  induction n with
  | zero => cases e
  | succ n ih =>
    by_cases c : v (32 + 7 * n + 6) = 0 ∧ ∀ h, z_lo v n = some h → ¬ z_say (z_row v n) ≤ z_say (z_row v h)
    · rw [show z_lo v (n + 1) = some n from z_l1_t c] at e
      cases e
      omega
    · rw [show z_lo v (n + 1) = z_lo v n from z_l1_f c] at e
      have := ih e
      omega
def z_md (v : Nat → Int32) (N B : Nat) (dt : Int32) : Prop := dt = 999 ∨ ∃ b, b < N ∧ ¬ b = B ∧ (v (32 + 7 * b + 1) = dt ∨ v (32 + 7 * b + 1) = dt + 1)
/-- a new bust -/
def z_cm (v : Nat → Int32) (N : Nat) (kd dt : Int32) : Nat → Int32 := fun i => if i = 1 then nI (N + 1) else if 32 + 7 * N ≤ i ∧ i < 32 + 7 * N + 7 then z_bg kd dt (i - (32 + 7 * N)) else v i
