/-! what the calls answer and make of the row: the answer, the finding, how many busts, the row -/
abbrev qR : Type := Int32 × Option Nat × Nat × (Nat → Int32)
def zok (r : Int32) (N : Nat) (w : Nat → Int32) : qR := (r, none, N, w)
def zbad (k N : Nat) (w : Nat → Int32) : qR := (-1000001 - nI k, some k, N, w)
noncomputable def zif (P : Prop) (a b : qR) : qR := @ite _ P (Classical.propDecidable P) a b
theorem zif_t {P : Prop} {a b : qR} (h : P) : zif P a b = a := if_pos h
theorem zif_f {P : Prop} {a b : qR} (h : ¬ P) : zif P a b = b := if_neg h
def zn (x : Int32) : Nat := x.toNatClampNeg
theorem zn_nI {j : Nat} (h : j < 2 ^ 31) : zn (nI j) = j := nI_clamp h
def z_in (x m : Int32) : Prop := ¬ x < 0 ∧ ¬ m < x
def z_ib (N : Nat) (b : Int32) : Prop := ¬ b < 0 ∧ ¬ nI N ≤ b
theorem z_in_ex {x m : Int32} (n : Nat) (hm : m = nI n) (hn : n < 2 ^ 31) (h : z_in x m) : ∃ j, j ≤ n ∧ x = nI j := by
  subst hm
  obtain ⟨j, hj, rfl⟩ := nI_of h.1
  exact ⟨j, Nat.not_lt.mp (fun q => h.2 (nI_lt q hj)), rfl⟩
theorem z_ib_ex {b : Int32} {N : Nat} (h : z_ib N b) (hN : N ≤ 8) : ∃ j, j < N ∧ b = nI j := by
  obtain ⟨j, hj, rfl⟩ := nI_of h.1
  exact ⟨j, Nat.not_le.mp (fun q => h.2 (nI_le q hj)), rfl⟩
theorem z_in_nI {j n : Nat} (h : j ≤ n) (hn : n < 2 ^ 31) : z_in (nI j) (nI n) := ⟨nI_pos (by omega), nI_nlt h hn⟩
theorem z_ib_nI {j N : Nat} (h : j < N) (hN : N ≤ 8) : z_ib N (nI j) := ⟨nI_pos (by omega), nI_ge h (by omega)⟩
def z_on (o : Option Nat) (N : Nat) (w : Nat → Int32) : qR := match o with
  | none => zbad 3 N w
  | some h => zok (nI h) N w
noncomputable def S_bequest (N : Nat) (w : Nat → Int32) (i p : Int32) : qR := zif (z_in i 5 ∧ z_in p 12) (zok (w (4 + zn i)) N (upd w (4 + zn i) p)) (zbad 0 N w)
noncomputable def S_listed (N : Nat) (w : Nat → Int32) (i : Int32) : qR := zif (z_in i 5) (zok (w (4 + zn i)) N w) (zbad 0 N w)
noncomputable def S_stored (N : Nat) (w : Nat → Int32) (p : Int32) : qR := zif (z_in p 11) (zok (w (10 + zn p)) N w) (zbad 0 N w)
noncomputable def S_bust (N : Nat) (w : Nat → Int32) (k d : Int32) : qR := zif (z_in k 6 ∧ z_in d 999) (zif (8 ≤ N) (zbad 1 N w) (zok (nI N) (N + 1) (z_cm w N k d))) (zbad 0 N w)
noncomputable def S_of (N : Nat) (w : Nat → Int32) (b x : Int32) : qR := zif (z_ib N b ∧ z_in x 10) (zok (z_tell (z_row w (zn b)) x) N w) (zbad 0 N w)
noncomputable def S_change (N : Nat) (w : Nat → Int32) (b x v : Int32) : qR := zif (z_ib N b ∧ z_in x 6 ∧ z_in v (qx_most.getD (zn x) 0)) (zok (w (32 + 7 * zn b + zn x)) N (upd w (32 + 7 * zn b + zn x) v)) (zbad 0 N w)
noncomputable def S_accepts (N : Nat) (w : Nat → Int32) (b p : Int32) : qR := zif (z_ib N b ∧ z_in p 11) (zok (qb (z_tk (w (32 + 7 * zn b + 0)) (w (32 + 7 * zn b + 2)) p)) N w) (zbad 0 N w)
noncomputable def S_heir (N : Nat) (w : Nat → Int32) (p : Int32) : qR := zif (z_in p 11) (z_on (z_hr w p N) N w) (zbad 0 N w)
noncomputable def S_give (N : Nat) (w : Nat → Int32) (b p : Int32) : qR := zif (z_ib N b ∧ z_in p 11) (zif (z_hs (w (32 + 7 * zn b + 2)) p ∨ w (32 + 7 * zn b + 6) = 1 ∨ w (10 + zn p) = 0) (zbad 4 N w) (zok (z_rc (w (32 + 7 * zn b + 2)) p) N (upd (upd w (10 + zn p) (w (10 + zn p) - 1)) (32 + 7 * zn b + 2) (z_rc (w (32 + 7 * zn b + 2)) p)))) (zbad 0 N w)
noncomputable def S_go (N : Nat) (w : Nat → Int32) (n : Int32) : qR := zif (¬ n < 1 ∧ n ≤ 60) (zif (w 0 + n ≤ 99999) (zok (z_dn w N (zn n) 3) N (z_dn w N (zn n))) (zbad 4 N w)) (zbad 0 N w)
noncomputable def S_now (N : Nat) (w : Nat → Int32) (x : Int32) : qR := if x = 0 then zok (w 0) N w else if x = 1 then zok (w 3) N w else if x = 2 then zok (z_fo (z_Fst w) 12) N w else if x = 3 then zok (z_fo (z_Fco w) N) N w else if x = 4 then zok (z_fo (z_Fwa w) N) N w else if x = 5 then zok (z_oi (z_lo w N)) N w else if x = 6 then zok (z_fo (z_Fye w) N) N w else if x = 7 then zok (z_fo (z_Fgo w) N) N w else zbad 0 N w
def z_five (x : Int32) : Prop := x = 2 ∨ x = 3 ∨ x = 4 ∨ x = 6 ∨ x = 10
noncomputable def S_ahead (N : Nat) (w : Nat → Int32) (b x n : Int32) : qR := zif (z_five x ∧ z_ib N b ∧ z_in n 100) (zok (z_tell (z_row (z_dn w N (zn n)) (zn b)) x) N w) (zbad 0 N w)
noncomputable def S_left (N : Nat) (w : Nat → Int32) (n : Int32) : qR := zif (z_in n 100) (zok (z_dn w N (zn n) 3) N w) (zbad 0 N w)
/-- the first of f days from d on, by which P -/
noncomputable def z_ls (P : Nat → Prop) : Nat → Nat → Option Nat
  | 0, _ => none
  | f + 1, d => @ite _ (P d) (Classical.propDecidable _) (some d) (z_ls P f (d + 1))
theorem z_ls_t {P : Nat → Prop} {f d : Nat} (h : P d) : z_ls P (f + 1) d = some d := if_pos h
theorem z_ls_f {P : Nat → Prop} {f d : Nat} (h : ¬ P d) : z_ls P (f + 1) d = z_ls P f (d + 1) := if_neg h
noncomputable def S_when (N : Nat) (w : Nat → Int32) (b p : Int32) : qR := zif (z_ib N b ∧ z_in p 11) (z_on (z_ls (fun d => z_hs (z_dn w N d (32 + 7 * zn b + 2)) p) 201 0) N w) (zbad 0 N w)
noncomputable def z_du (N : Nat) (w : Nat → Int32) (j : Nat) (x v : Int32) : qR := z_on (z_ls (fun d => ¬ z_tell (z_row (z_dn w N d) j) x < v) 201 0) N w
noncomputable def S_leaves (N : Nat) (w : Nat → Int32) (b : Int32) : qR := zif (z_ib N b) (z_du N w (zn b) 6 1) (zbad 0 N w)
noncomputable def S_voice (N : Nat) (w : Nat → Int32) (b v : Int32) : qR := zif (z_ib N b ∧ z_in v 9999) (z_du N w (zn b) 10 v) (zbad 0 N w)
/-- the first k with the greatest f k -/
def z_bs (f : Nat → Int32) : Nat → Int32 × Int32
  | 0 => (0, -1)
  | k + 1 => if f k ≤ (z_bs f k).2 then z_bs f k else (nI k, f k)
noncomputable def z_of (N : Nat) (w : Nat → Int32) (i j n : Nat) (part : Nat) : Int32 := z_bc (z_dn (upd w (4 + i) (nI part)) N n (32 + 7 * j + 2))
noncomputable def S_orderFor (N : Nat) (w : Nat → Int32) (i b n : Int32) : qR := zif (z_in i 5 ∧ z_ib N b ∧ z_in n 60) (zok (z_bs (z_of N w (zn i) (zn b) (zn n)) 12).1 N w) (zbad 0 N w)
noncomputable def z_kf (N : Nat) (w : Nat → Int32) (j n : Nat) (kind : Nat) : Int32 := z_say (z_row (z_dn (upd w (32 + 7 * j + 0) (nI kind)) N n) j)
noncomputable def S_kindFor (N : Nat) (w : Nat → Int32) (b n : Int32) : qR := zif (z_ib N b ∧ z_in n 60) (zok (z_bs (z_kf N w (zn b) (zn n)) 7).1 N w) (zbad 0 N w)
/-- the last below k with P -/
noncomputable def z_gd (P : Nat → Prop) : Nat → Option Nat
  | 0 => none
  | k + 1 => @ite _ (P k) (Classical.propDecidable _) (some k) (z_gd P k)
theorem z_gd_t {P : Nat → Prop} {k : Nat} (h : P k) : z_gd P (k + 1) = some k := if_pos h
theorem z_gd_f {P : Nat → Prop} {k : Nat} (h : ¬ P k) : z_gd P (k + 1) = z_gd P k := if_neg h
def z_hd (N : Nat) (w : Nat → Int32) (j n : Nat) (p : Int32) (d : Nat) : Prop := z_hs (z_dn (upd w (32 + 7 * j + 1) (nI d)) N n (32 + 7 * j + 2)) p
noncomputable def S_dateFor (N : Nat) (w : Nat → Int32) (b p n : Int32) : qR := zif (z_ib N b ∧ z_in p 11 ∧ z_in n 12) (z_on (z_gd (z_hd N w (zn b) (zn n) p) 1000) N w) (zbad 0 N w)
noncomputable def S_dateForX (N : Nat) (w : Nat → Int32) (b p n : Int32) : qR := zif (z_ib N b ∧ z_in p 11 ∧ z_in n 12) (z_on (z_gd (fun d => z_md w N (zn b) (nI d) ∧ z_hd N w (zn b) (zn n) p d) 1000) N w) (zbad 0 N w)
noncomputable def z_pR (N : Nat) (w : Nat → Int32) (r : Int32) : qR := if r = 0 then zbad 3 N w else zok r N w
noncomputable def S_pathTo (N : Nat) (w : Nat → Int32) (b p : Int32) : qR := zif (z_ib N b ∧ z_in p 11) (zif (z_hs (w (32 + 7 * zn b + 2)) p) (zok 0 N w) (z_pR N w (z_pF (w (32 + 7 * zn b + 0)) (w (32 + 7 * zn b + 2)) (zn p) 0))) (zbad 0 N w)
/-- busts of a set are sealed, among the first n -/
noncomputable def z_sl (w : Nat → Int32) (set : Int32) : Nat → Nat → Int32
  | 0 => w
  | b + 1 => z_selr (z_hs set (nI b)) (upd (z_sl w set b) (32 + 7 * b + 5) 1) (z_sl w set b)
def z_ka (N : Nat) (w : Nat → Int32) (n : Nat) (set : Int32) : Prop := z_dn (z_sl w set N) N n 3 = w 3
/-- by size, then by number -/
noncomputable def z_sx (P : Int32 → Prop) (N : Nat) : Nat → Nat → Option Nat
  | 0, _ => none
  | f + 1, size => match z_ls (fun k => z_bc (nI k) = nI size ∧ P (nI k)) (2 ^ N) 0 with
    | some k => some k
    | none => z_sx P N f (size + 1)
noncomputable def S_sealX (N : Nat) (w : Nat → Int32) (n : Int32) : qR := zif (z_in n 20) (z_on (z_sx (z_ka N w (zn n)) N (N + 1) 0) N w) (zbad 0 N w)
noncomputable def z_cn (w : Nat → Int32) (N : Nat) : Nat → Nat → Int32
  | 0 => w
  | n + 1 => z_ch (z_cn w N n) N
theorem qv_cn {w : Nat → Int32} {N : Nat} (h : qv_ok w N) : ∀ n, qv_ok (z_cn w N n) N := by
  intro n
  induction n with
  | zero => exact h
  | succ n ih => exact qv_ch ih
noncomputable def S_chance (N : Nat) (w : Nat → Int32) (n : Int32) : qR := zif (¬ n < 1 ∧ n ≤ 20) (zif (w 0 + n ≤ 99999) (zok (z_cn w N (zn n) 3) N (z_cn w N (zn n))) (zbad 4 N w)) (zbad 0 N w)
def S_seed (N : Nat) (w : Nat → Int32) (v : Int32) : qR := zok (w 2) N (upd w 2 v)
noncomputable def S_hold (N : Nat) (w : Nat → Int32) (i b : Int32) : qR := zif (z_in i 9 ∧ (b = -1 ∨ z_ib N b)) (zok 1 N (upd w (22 + zn i) b)) (zbad 0 N w)
noncomputable def S_as (N : Nat) (w : Nat → Int32) (i k : Int32) : qR := zif (z_in i 9 ∧ z_in k 6) (zif (z_ib N (w (22 + zn i))) (zif (z_is (zn (w (32 + 7 * zn (w (22 + zn i)) + 0))) k) (zok (w (22 + zn i)) N w) (zbad 2 N w)) (zbad 5 N w)) (zbad 0 N w)
/-! the class's side: what a call makes of the world -/
def z_fx : Option Nat → (Nat → Int32) → Nat → Int32
  | none, r => r
  | some k, r => upd r k (r k + 1)
def qEx (σ : qx_Sg) (S : qR) (σ' : qx_Sg) : Prop := qH σ' 1 S.2.2.1 S.2.2.2 ∧ σ' 52 = z_fx S.2.1 (σ 52) ∧ ∀ k, k < 65 → ¬ (1 ≤ k ∧ k < 27) → ¬ k = 52 → σ' k = σ k
def qPx (σ : qx_Sg) (S : qR) : Option Value → qx_Sg → Prop := fun v σ' => v = some (.int S.1) ∧ qEx σ S σ'
def qTr (σ τ : qx_Sg) : Prop := ∀ k, k < 65 → ¬ (1 ≤ k ∧ k < 27) → τ k = σ k
theorem qTr.rf {σ : qx_Sg} : qTr σ σ := fun _ _ _ => rfl
theorem qTr.tr {σ τ : qx_Sg} {n : Nat} {v : Nat → Int32} (h : qTr σ τ) (hn : n ≤ 8) : qTr σ (qL τ 14 n v) := fun k hk h1 => by rw [qL_o (by omega) (by omega)]; exact h k hk h1
theorem qTr.li {σ τ : qx_Sg} {n : Nat} {v : Nat → Int32} (h : qTr σ τ) (hn : n ≤ 8) : qTr σ (qL τ 1 n v) := fun k hk h1 => by rw [qL_o (by omega) (by omega)]; exact h k hk h1
theorem qH_tr {τ : qx_Sg} {N n : Nat} {v w : Nat → Int32} (h : qH τ 1 N w) (hN : N ≤ 8) (hn : n ≤ 8) : qH (qL τ 14 n v) 1 N w := qH_ap (Or.inr (Or.inl rfl)) (Or.inl rfl) (by omega) hN hn h
theorem qPx_ok {σ τ : qx_Sg} {S : qR} {r r' : Int32} {N : Nat} {w : Nat → Int32} (hS : S = zok r N w) (hr : r' = r) (hT : qTr σ τ) (hH : qH τ 1 N w) : qPx σ S (some (.int r')) τ := by
  subst hS; subst hr
  exact ⟨rfl, hH, hT 52 (by omega) (by omega), fun k hk h1 _ => hT k hk h1⟩
theorem qPx_bad {σ τ : qx_Sg} {S : qR} (k : Nat) {r' : Int32} {N : Nat} {w : Nat → Int32} (hN8 : N ≤ 8) (hS : S = zbad k N w) (hr : r' = -1000001 - nI k) (hT : qTr σ τ) (hH : qH τ 1 N w) : qPx σ S (some (.int r')) (va_up τ 52 (upd (τ 52) k (τ 52 k + 1))) := by
  subst hS; subst hr
  have e52 := hT 52 (by omega) (by omega)
  refine ⟨rfl, ?_, ?_, fun j hj h1 h2 => ?_⟩
  · obtain ⟨h0, h1, h2, h3, h5⟩ := hH
    exact ⟨fun j hj => by rw [qx_up_ne (by omega)]; exact h0 j hj, fun j hj => by rw [qx_up_ne (by omega)]; exact h1 j hj, fun j hj => by rw [qx_up_ne (by omega)]; exact h2 j hj, fun j hj => by rw [qx_up_ne (by omega)]; exact h3 j hj, fun b hb f hf => by have hb' : b < N := hb; rw [qx_up_ne (by omega)]; exact h5 b hb f hf⟩
  · rw [qx_up_eq, e52]; rfl
  · rw [qx_up_ne h2]; exact hT j hj h1
theorem qH_w {G : qx_G} {σ : qx_Sg} {L N : Nat} {w : Nat → Int32} (h : qH σ L N w) (hL : qx_isL L) (hN : N ≤ 8) : ∀ k, k < 65 → qx_F G k (σ k) = qx_F G k (qL σ L N w k) :=
  qL_same hL hN h.1 h.2.1 h.2.2.1 h.2.2.2.1 h.2.2.2.2 (fun _ _ _ => rfl) (fun _ _ => rfl)
