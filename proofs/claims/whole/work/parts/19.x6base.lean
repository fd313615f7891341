/-! the model's row lies in cell 54 -/
theorem m_uu {σ : qx_Sg} {k : Nat} {a b : Nat → Int32} : va_up (va_up σ k a) k b = va_up σ k b := by
  funext j
  unfold va_up
  by_cases e : j = k
  · simp [e]
  · simp [e]
theorem m_w {σ : qx_Sg} {v : Nat → Int32} {i : Nat} {x : Int32} : va_up (va_up σ 54 v) 54 (upd (va_up σ 54 v 54) i x) = va_up σ 54 (upd v i x) := by
  rw [m_uu, show va_up σ 54 v 54 = v from qx_up_eq]
def m_fx : Option Nat → (Nat → Int32) → Nat → Int32
  | none, r => r
  | some k, r => upd (upd r (k + 1) (r (k + 1) + 1)) 0 (r 0 + 1)
def m_fnd (σ : qx_Sg) (k : Nat) : qx_Sg := va_up σ 57 (m_fx (some k) (σ 57))
theorem m_fnd_w {σ : qx_Sg} {k : Nat} : va_up (va_up σ 57 (upd (σ 57) (k + 1) (σ 57 (k + 1) + 1))) 57 (upd (va_up σ 57 (upd (σ 57) (k + 1) (σ 57 (k + 1) + 1)) 57) 0 (va_up σ 57 (upd (σ 57) (k + 1) (σ 57 (k + 1) + 1)) 57 0 + 1)) = m_fnd σ k := by
  rw [m_uu, show va_up σ 57 (upd (σ 57) (k + 1) (σ 57 (k + 1) + 1)) 57 = upd (σ 57) (k + 1) (σ 57 (k + 1) + 1) from qx_up_eq, show upd (σ 57) (k + 1) (σ 57 (k + 1) + 1) 0 = σ 57 0 from upd_ne (by omega)]
  rfl
def qEm (σ : qx_Sg) (S : qR) (σ' : qx_Sg) : Prop := σ' 54 = S.2.2.2 ∧ σ' 57 = m_fx S.2.1 (σ 57) ∧ ∀ k, k < 65 → ¬ k = 54 → ¬ k = 56 → ¬ k = 57 → σ' k = σ k
def qMx (σ : qx_Sg) (S : qR) : Option Value → qx_Sg → Prop := fun v σ' => v = some (.int S.1) ∧ qEm σ S σ'
def mTr (σ τ : qx_Sg) : Prop := ∀ k, k < 65 → ¬ k = 54 → ¬ k = 56 → τ k = σ k
theorem mTr.up {σ τ : qx_Sg} {v : Nat → Int32} (h : mTr σ τ) : mTr σ (va_up τ 54 v) := fun k hk h1 h2 => by rw [qx_up_ne h1]; exact h k hk h1 h2
theorem mTr.ua {σ τ : qx_Sg} {v : Nat → Int32} (h : mTr σ τ) : mTr σ (va_up τ 56 v) := fun k hk h1 h2 => by rw [qx_up_ne h2]; exact h k hk h1 h2
theorem mTr.rf {σ : qx_Sg} : mTr σ σ := fun _ _ _ _ => rfl
theorem mTr.tr {σ τ ρ : qx_Sg} (h : mTr σ τ) (g : mTr τ ρ) : mTr σ ρ := fun k hk h1 h2 => (g k hk h1 h2).trans (h k hk h1 h2)
theorem qMx_ok {σ τ : qx_Sg} {S : qR} {r r' : Int32} {N : Nat} {w : Nat → Int32} (hS : S = zok r N w) (hr : r' = r) (hT : mTr σ τ) (hw : τ 54 = w) : qMx σ S (some (.int r')) τ := by
  subst hS; subst hr
  exact ⟨rfl, hw, hT 57 (by omega) (by omega) (by omega), fun k hk h1 h2 _ => hT k hk h1 h2⟩
theorem qMx_bad {σ τ : qx_Sg} {S : qR} (k : Nat) {r' : Int32} {N : Nat} {w : Nat → Int32} (hS : S = zbad k N w) (hr : r' = -1000001 - nI k) (hT : mTr σ τ) (hw : τ 54 = w) : qMx σ S (some (.int r')) (m_fnd τ k) := by
  subst hS; subst hr
  have e57 := hT 57 (by omega) (by omega) (by omega)
  refine ⟨rfl, ?_, ?_, fun j hj h1 h2 h3 => ?_⟩
  · unfold m_fnd; rw [qx_up_ne (by omega)]; exact hw
  · unfold m_fnd; rw [qx_up_eq, e57]; rfl
  · unfold m_fnd; rw [qx_up_ne h3]; exact hT j hj h1 h2
def m_oi : Option Nat → Int32
  | none => -1000004
  | some b => nI b
def m_ow (σ : qx_Sg) : Option Nat → qx_Sg
  | none => m_fnd σ 3
  | some _ => σ
theorem qMx_on {σ τ : qx_Sg} {S : qR} {o : Option Nat} {r' : Int32} {N : Nat} {w : Nat → Int32} (hS : S = z_on o N w) (hr : r' = m_oi o) (hT : mTr σ τ) (hw : τ 54 = w) : qMx σ S (some (.int r')) (m_ow τ o) := by
  cases o with
  | none => exact qMx_bad 3 hS hr hT hw
  | some b => exact qMx_ok hS hr hT hw
theorem z_ib_m1 {N : Nat} (hN : N ≤ 8) {b : Int32} : (¬ b < 0 ∧ ¬ nI N - 1 < b) ↔ z_ib N b := by
  unfold z_ib
  refine and_congr Iff.rfl (not_congr ?_)
  rw [Int32.lt_iff_toInt_lt, Int32.le_iff_toInt_le]
  have : N = 0 ∨ N = 1 ∨ N = 2 ∨ N = 3 ∨ N = 4 ∨ N = 5 ∨ N = 6 ∨ N = 7 ∨ N = 8 := by omega
  rcases this with rfl | rfl | rfl | rfl | rfl | rfl | rfl | rfl | rfl <;> (first | rw [show (nI 0 - 1).toInt = -1 from rfl, show (nI 0).toInt = 0 from rfl] | rw [show (nI 1 - 1).toInt = 0 from rfl, show (nI 1).toInt = 1 from rfl] | rw [show (nI 2 - 1).toInt = 1 from rfl, show (nI 2).toInt = 2 from rfl] | rw [show (nI 3 - 1).toInt = 2 from rfl, show (nI 3).toInt = 3 from rfl] | rw [show (nI 4 - 1).toInt = 3 from rfl, show (nI 4).toInt = 4 from rfl] | rw [show (nI 5 - 1).toInt = 4 from rfl, show (nI 5).toInt = 5 from rfl] | rw [show (nI 6 - 1).toInt = 5 from rfl, show (nI 6).toInt = 6 from rfl] | rw [show (nI 7 - 1).toInt = 6 from rfl, show (nI 7).toInt = 7 from rfl] | rw [show (nI 8 - 1).toInt = 7 from rfl, show (nI 8).toInt = 8 from rfl]) <;> omega
theorem m_at {i f : Nat} (hi : i < 10) (hf : f < 7) : (32 : Int32) + 7 * nI i + nI f = nI (32 + 7 * i + f) := by
  have e1 : (7 : Int32) * nI i = nI (7 * i) := by
    have : i = 0 ∨ i = 1 ∨ i = 2 ∨ i = 3 ∨ i = 4 ∨ i = 5 ∨ i = 6 ∨ i = 7 ∨ i = 8 ∨ i = 9 := by omega
    rcases this with rfl | rfl | rfl | rfl | rfl | rfl | rfl | rfl | rfl | rfl <;> rfl
  rw [e1, show (32 : Int32) = nI 32 from rfl, nI_add, nI_add]
/-! the ones of a word are counted -/
def m_bt : Nat → Int32 → Int32
  | 0, _ => 0
  | f + 1, x => if x = 0 then 0 else 1 + m_bt f (x &&& (x - 1))
def m_bk : Nat → Int32 → Bool
  | 0, x => x == 0
  | f + 1, x => if x = 0 then true else m_bk f (x &&& (x - 1))
theorem m_bits_all : ((List.range 8192).all fun n => m_bk 13 (nI n) && (m_bt 13 (nI n) == z_bc (nI n))) = true := by decide +kernel
theorem m_arms_all : ((List.range 4096).all fun n => z_bc (nI n &&& 24) == (if (nI n >>> (3 &&& 31)) &&& 1 = 1 then 1 else 0) + (if (nI n >>> (4 &&& 31)) &&& 1 = 1 then 1 else 0)) = true := by decide +kernel
theorem m_bits {n : Nat} (h : n < 8192) : m_bk 13 (nI n) = true ∧ m_bt 13 (nI n) = z_bc (nI n) := by
  have := List.all_eq_true.mp m_bits_all n (List.mem_range.mpr h)
  simp only [Bool.and_eq_true, beq_iff_eq] at this
  exact this
theorem m_bc_all : ((List.range 13).all fun t => (List.range (2 ^ t)).all fun s => z_bc (nI (s ||| 2 ^ t)) == z_bc (nI s) + 1) = true := by decide +kernel
theorem m_bc_s {t s : Nat} (ht : t < 13) (hs : s < 2 ^ t) : z_bc (nI (s ||| 2 ^ t)) = z_bc (nI s) + 1 := by
  have := List.all_eq_true.mp (List.all_eq_true.mp m_bc_all t (List.mem_range.mpr ht)) s (List.mem_range.mpr hs)
  simpa using this
theorem m_4k {x : Int32} (h : ∃ n, n < 4096 ∧ x = nI n) : ∃ n, n < 8192 ∧ x = nI n := by
  obtain ⟨n, hn, e⟩ := h
  exact ⟨n, by omega, e⟩
theorem m_40 {s : Nat} (h : s < 4) : (40 : Int32) * nI s = nI (40 * s) := by
  have : s = 0 ∨ s = 1 ∨ s = 2 ∨ s = 3 := by omega
  rcases this with rfl | rfl | rfl | rfl <;> rfl
theorem m_bt_0 {f : Nat} : m_bt f 0 = 0 := by cases f <;> rfl
theorem m_arms {x : Int32} (h : ∃ n, n < 4096 ∧ x = nI n) : z_bc (x &&& 24) = qb (z_hs x 3) + qb (z_hs x 4) := by
  obtain ⟨n, hn, rfl⟩ := h
  have q : ∀ (P : Prop) [Decidable P], (if P then (1 : Int32) else 0) = qb P := fun P _ => by
    by_cases h : P
    · rw [if_pos h, qb_t h]
    · rw [if_neg h, qb_f h]
  have := List.all_eq_true.mp m_arms_all n (List.mem_range.mpr hn)
  rw [beq_iff_eq] at this
  rw [this, q, q]
  rfl
