/-! sheets, texts' bytes, images: worlds behind the calls -/
abbrev qT2 : Type := Int32 × qx_Sg
noncomputable def zw (P : Prop) (a b : qT2) : qT2 := @ite _ P (Classical.propDecidable P) a b
theorem zw_t {P : Prop} {a b : qT2} (h : P) : zw P a b = a := if_pos h
theorem zw_f {P : Prop} {a b : qT2} (h : ¬ P) : zw P a b = b := if_neg h
def z_fnd (σ : qx_Sg) (k : Nat) : qx_Sg := va_up σ 52 (upd (σ 52) k (σ 52 k + 1))
def z_bw (σ : qx_Sg) (k : Nat) : qT2 := (-1000001 - nI k, z_fnd σ k)
def qPt (T : qT2) : Option Value → qx_Sg → Prop := fun v σ' => v = some (.int T.1) ∧ σ' = T.2
theorem qPt_of {T : qT2} {r : Int32} {σ' : qx_Sg} (h : T = (r, σ')) : qPt T (some (.int r)) σ' := by subst h; exact ⟨rfl, rfl⟩
def z_sb (b n : Int32) : Nat → Int32 := fun j => if j = 0 then b else if j = 1 then (if b = 0 then 0 else n) else 0
def z_cut (b v : Int32) : Int32 := if b = 8 then v.toInt8.toInt32 else if b = 16 then v.toInt16.toInt32 else v
def z_sps (size f n : Int32) : Prop := ¬ f < 0 ∧ ¬ n < 0 ∧ ¬ size < n ∧ ¬ size - n < f
def z_bit (b : Int32) : Prop := b = 0 ∨ b = 8 ∨ b = 16 ∨ b = 32
noncomputable def T_sheet (σ : qx_Sg) (s b n : Int32) : qT2 := zw (z_in s 3 ∧ z_bit b) (zw (n < 0) (z_bw σ 6) (zw (40 < n) (z_bw σ 0) (z_sb b n 1, va_up (va_up σ (44 + zn s) (z_sb b n)) (44 + zn s + 4) (fun _ => 0)))) (z_bw σ 0)
noncomputable def z_fos (σ : qx_Sg) (s : Int32) : Int32 := z_sel (z_in s 3) (z_sel (σ (44 + zn s) 0 = 0) (-1000006) 0) (-1000001)
theorem z_fos_cases (σ : qx_Sg) (s : Int32) : (¬ z_in s 3 ∧ z_fos σ s = -1000001) ∨ (z_in s 3 ∧ σ (44 + zn s) 0 = 0 ∧ z_fos σ s = -1000006) ∨ (z_in s 3 ∧ ¬ σ (44 + zn s) 0 = 0 ∧ z_fos σ s = 0) := by
  by_cases h : z_in s 3
  · by_cases h2 : σ (44 + zn s) 0 = 0
    · exact Or.inr (Or.inl ⟨h, h2, (z_sel_t h).trans (z_sel_t h2)⟩)
    · exact Or.inr (Or.inr ⟨h, h2, (z_sel_t h).trans (z_sel_f h2)⟩)
  · exact Or.inl ⟨h, z_sel_f h⟩
noncomputable def T_write (σ : qx_Sg) (s i v : Int32) : qT2 := zw (z_in s 3) (zw (σ (44 + zn s) 0 = 0) (z_bw σ 5) (zw (z_in i (σ (44 + zn s) 1 - 1)) (1, va_up σ (44 + zn s + 4) (upd (σ (44 + zn s + 4)) (zn i) (z_cut (σ (44 + zn s) 0) v))) (z_bw σ 0))) (z_bw σ 0)
noncomputable def T_copy (σ : qx_Sg) (s f t g n : Int32) : qT2 := zw (z_in s 3 ∧ z_in t 3) (zw (σ (44 + zn s) 0 = 0 ∨ σ (44 + zn t) 0 = 0) (z_bw σ 5) (zw (σ (44 + zn s) 0 = σ (44 + zn t) 0) (zw (z_sps (σ (44 + zn s) 1) f n ∧ z_sps (σ (44 + zn t) 1) g n) (n, va_up σ (44 + zn t + 4) (va_cpy (σ (44 + zn s + 4)) (σ (44 + zn t + 4)) (zn f) (zn g) (zn n))) (z_bw σ 0)) (z_bw σ 2))) (z_bw σ 0)
noncomputable def z_ld (nums : Nat → Int32) : Nat → Nat → (Nat → Int32) → Int32 × (Nat → Int32)
  | 0, i, w => (nI i, w)
  | f + 1, i, w => @ite _ (z_in (nums i) 12) (Classical.propDecidable _) (z_ld nums f (i + 1) (upd w (4 + i) (nums i))) (nI i, w)
theorem z_ld_t {nums : Nat → Int32} {f i : Nat} {w : Nat → Int32} (h : z_in (nums i) 12) : z_ld nums (f + 1) i w = z_ld nums f (i + 1) (upd w (4 + i) (nums i)) := if_pos h
theorem z_ld_f {nums : Nat → Int32} {f i : Nat} {w : Nat → Int32} (h : ¬ z_in (nums i) 12) : z_ld nums (f + 1) i w = (nI i, w) := if_neg h
noncomputable def S_sh (N : Nat) (w : Nat → Int32) (σ : qx_Sg) (s : Int32) (S : qR) : qR := zif (z_in s 3) (zif (σ (44 + zn s) 0 = 0) (zbad 5 N w) S) (zbad 0 N w)
noncomputable def z_ldS (N : Nat) (w : Nat → Int32) (nums : Nat → Int32) (m : Nat) : qR := zok (z_ld nums m 0 w).1 N (z_ld nums m 0 w).2
noncomputable def z_m6 (n : Nat) : Nat := if 6 < n then 6 else n
noncomputable def S_load (N : Nat) (w : Nat → Int32) (σ : qx_Sg) (s : Int32) : qR := S_sh N w σ s (z_ldS N w (σ (44 + zn s + 4)) (z_m6 (zn (σ (44 + zn s) 1))))
noncomputable def z_jd (N : Nat) (w nums : Nat → Int32) : Nat → Nat → Int32
  | 0, _ => 0
  | f + 1, i => z_sel (z_ib N (nI i) ∧ z_say (z_row w i) = nums i) (z_jd N w nums f (i + 1)) (1 + nI i)
noncomputable def S_judge (N : Nat) (w : Nat → Int32) (σ : qx_Sg) (s : Int32) : qR := S_sh N w σ s (zok (z_jd N w (σ (44 + zn s + 4)) (zn (σ (44 + zn s) 1)) 0) N w)
def z_vs (N : Nat) (w nums : Nat → Int32) (n j : Nat) : Prop := ∀ i, i < n → nums i = -1 ∨ nums i = z_say (z_row (z_dn w N i) j)
noncomputable def z_fF (N : Nat) (w nums : Nat → Int32) (n j : Nat) (t : Nat) (a : Int32) : Int32 := z_sel (z_vs N (upd w (4 + z_dd w) (nI t)) nums n j) (a + 1) a
noncomputable def z_kF (N : Nat) (w nums : Nat → Int32) (n j : Nat) (t : Nat) (a : Int32) : Int32 := z_sel (z_vs N (upd w (32 + 7 * j + 0) (nI t)) nums n j) (z_rc a (nI t)) a
noncomputable def S_fits (N : Nat) (w : Nat → Int32) (σ : qx_Sg) (s b : Int32) : qR := S_sh N w σ s (zif (z_ib N b) (zok (z_fo (z_fF N w (σ (44 + zn s + 4)) (zn (σ (44 + zn s) 1)) (zn b)) 13) N w) (zbad 0 N w))
noncomputable def S_kinds (N : Nat) (w : Nat → Int32) (σ : qx_Sg) (s b : Int32) : qR := S_sh N w σ s (zif (z_ib N b) (zok (z_fo (z_kF N w (σ (44 + zn s + 4)) (zn (σ (44 + zn s) 1)) (zn b)) 7) N w) (zbad 0 N w))
noncomputable def S_count (N : Nat) (w : Nat → Int32) (tl x : Int32) : qR := if x = 0 then zok (w 0) N w else if x = 1 then zok (nI N) N w else if x = 2 then zok (w 3) N w else if x = 3 then zok (z_fo (z_Fst w) 12) N w else if x = 4 then zok (z_bc (z_fo (z_Fgo w) N)) N w else if x = 5 then zok tl N w else if x = 6 then zok (w 2) N w else if x = 7 then zok (z_fo (z_Fsp w) 10) N w else zbad 0 N w
def z_Fsu (r : Nat → Int32) (i : Nat) (a : Int32) : Int32 := a + r i
noncomputable def T_status (σ : qx_Sg) (x : Int32) : qT2 := zw (¬ x < -1 ∧ x < 7) (zw (x < 0) (z_fo (z_Fsu (σ 52)) 7, σ) (σ 52 (zn x), σ)) (z_bw σ 0)
/-- k bytes of x, the highest first, come behind t bytes of r -/
def z_fd (x : Int32) : Nat → Nat → (Nat → Int32) → Nat → Int32
  | 0, _, r => r
  | k + 1, t, r => z_fd x k (t + 1) (upd r t (z_us x (8 * nI k) &&& 255))
noncomputable def T_feed (σ : qx_Sg) (x n : Int32) : qT2 := zw (¬ n < 1 ∧ n ≤ 4) (zw (σ 40 1 + n ≤ 120) (σ 40 1 + n, va_up (va_up σ 41 (z_fd x (zn n) (zn (σ 40 1)) (σ 41))) 40 (upd (σ 40) 1 (σ 40 1 + n))) (z_bw σ 1)) (z_bw σ 0)
/-! odds -/
def z_od : Nat → Int32 → Int32 → Int32 × Int32
  | 0, a, b => (a, b)
  | d + 1, a, b => if nI (d + 1) ≤ 1 then (a, b) else if a - a / nI (d + 1) * nI (d + 1) = 0 ∧ b - b / nI (d + 1) * nI (d + 1) = 0 then z_od d (a / nI (d + 1)) (b / nI (d + 1)) else z_od d a b
def z_pw (x : Int64) : Nat → Int64
  | 0 => 1
  | n + 1 => z_pw x n * x
def qPl (σ : qx_Sg) (S : qR) (r : Int64) : Option Value → qx_Sg → Prop := fun v σ' => v = some (.long r) ∧ qEx σ S σ'
noncomputable def S_odds (N : Nat) (w : Nat → Int32) (b n x : Int32) : qR := zif (z_ib N b ∧ z_in n 17 ∧ z_in x 1) (zok 0 N w) (zbad 0 N w)
noncomputable def z_or (w : Nat → Int32) (j : Nat) (n : Nat) (x : Int32) : Int64 := z_pw (if x = 0 then (z_od 12 (z_bc (w (32 + 7 * j + 2))) 12).1 else (z_od 12 (z_bc (w (32 + 7 * j + 2))) 12).2).toInt64 n
noncomputable def z_ors (N : Nat) (w : Nat → Int32) (b n x : Int32) : Int64 := @ite _ (z_ib N b ∧ z_in n 17 ∧ z_in x 1) (Classical.propDecidable _) (z_or w (zn b) (zn n) x) ((-1000001 : Int32).toInt64)
/-- the sheets hold so many numbers -/
def qS_ok (σ : qx_Sg) : Prop := ∀ s, s < 4 → z_bit (σ (44 + s) 0) ∧ ∃ n, n ≤ 40 ∧ σ (44 + s) 1 = nI n
