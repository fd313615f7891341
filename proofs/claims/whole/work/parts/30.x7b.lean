/-! tokens -/
def t_lt (x : Int32) : Prop := ¬ x < 97 ∧ ¬ 122 < x
def t_dg (x : Int32) : Prop := ¬ x < 48 ∧ ¬ 57 < x
noncomputable def t_sp (r : Nat → Int32) (t : Nat) : Nat → Nat → Nat
  | 0, i => i
  | f + 1, i => @ite _ (i < t ∧ r i = 32) (Classical.propDecidable _) (t_sp r t f (i + 1)) i
noncomputable def t_wd (r : Nat → Int32) (t : Nat) : Nat → Nat → Nat
  | 0, i => i
  | f + 1, i => @ite _ (i < t ∧ t_lt (r i)) (Classical.propDecidable _) (t_wd r t f (i + 1)) i
noncomputable def t_nm (r : Nat → Int32) (t : Nat) : Nat → Nat → Int32 → Nat × Int32
  | 0, i, w => (i, w)
  | f + 1, i, w => @ite _ (i < t ∧ t_dg (r i)) (Classical.propDecidable _) (t_nm r t f (i + 1) (qx_mn 10000 (10 * w + r i - 48))) (i, w)
theorem t_sp_t {r : Nat → Int32} {t f i : Nat} (hf : 0 < f) (h : i < t ∧ r i = 32) : t_sp r t f i = t_sp r t (f - 1) (i + 1) := by
  obtain ⟨g, rfl⟩ : ∃ g, f = g + 1 := ⟨f - 1, by omega⟩
  exact if_pos h
theorem t_sp_f {r : Nat → Int32} {t f i : Nat} (h : ¬ (i < t ∧ r i = 32)) : t_sp r t f i = i := by
  cases f with
  | zero => rfl
  | succ f => exact if_neg h
theorem t_wd_t {r : Nat → Int32} {t f i : Nat} (hf : 0 < f) (h : i < t ∧ t_lt (r i)) : t_wd r t f i = t_wd r t (f - 1) (i + 1) := by
  obtain ⟨g, rfl⟩ : ∃ g, f = g + 1 := ⟨f - 1, by omega⟩
  exact if_pos h
theorem t_wd_f {r : Nat → Int32} {t f i : Nat} (h : ¬ (i < t ∧ t_lt (r i))) : t_wd r t f i = i := by
  cases f with
  | zero => rfl
  | succ f => exact if_neg h
theorem t_nm_t {r : Nat → Int32} {t f i : Nat} {w : Int32} (hf : 0 < f) (h : i < t ∧ t_dg (r i)) : t_nm r t f i w = t_nm r t (f - 1) (i + 1) (qx_mn 10000 (10 * w + r i - 48)) := by
  obtain ⟨g, rfl⟩ : ∃ g, f = g + 1 := ⟨f - 1, by omega⟩
  exact if_pos h
theorem t_nm_f {r : Nat → Int32} {t f i : Nat} {w : Int32} (h : ¬ (i < t ∧ t_dg (r i))) : t_nm r t f i w = (i, w) := by
  cases f with
  | zero => rfl
  | succ f => exact if_neg h
theorem t_sp_le {r : Nat → Int32} {t f i : Nat} (h : i ≤ t) : i ≤ t_sp r t f i ∧ t_sp r t f i ≤ t := by
  induction f generalizing i with
  | zero => exact ⟨Nat.le_refl _, h⟩
  | succ f ih =>
    by_cases c : i < t ∧ r i = 32
    · rw [show t_sp r t (f + 1) i = t_sp r t f (i + 1) from t_sp_t (by omega) c]
      have := ih (i := i + 1) (by omega)
      exact ⟨by have := this.1; omega, this.2⟩
    · rw [t_sp_f c]
      exact ⟨Nat.le_refl _, h⟩
theorem t_wd_le {r : Nat → Int32} {t f i : Nat} (h : i ≤ t) : i ≤ t_wd r t f i ∧ t_wd r t f i ≤ t := by
  induction f generalizing i with
  | zero => exact ⟨Nat.le_refl _, h⟩
  | succ f ih =>
    by_cases c : i < t ∧ t_lt (r i)
    · rw [show t_wd r t (f + 1) i = t_wd r t f (i + 1) from t_wd_t (by omega) c]
      have := ih (i := i + 1) (by omega)
      exact ⟨by have := this.1; omega, this.2⟩
    · rw [t_wd_f c]
      exact ⟨Nat.le_refl _, h⟩
theorem t_nm_le {r : Nat → Int32} {t f i : Nat} {w : Int32} (h : i ≤ t) : i ≤ (t_nm r t f i w).1 ∧ (t_nm r t f i w).1 ≤ t := by
  induction f generalizing i w with
  | zero => exact ⟨Nat.le_refl _, h⟩
  | succ f ih =>
    by_cases c : i < t ∧ t_dg (r i)
    · rw [show t_nm r t (f + 1) i w = t_nm r t f (i + 1) (qx_mn 10000 (10 * w + r i - 48)) from t_nm_t (by omega) c]
      have := ih (i := i + 1) (w := qx_mn 10000 (10 * w + r i - 48)) (by omega)
      exact ⟨by have := this.1; omega, this.2⟩
    · rw [t_nm_f c]
      exact ⟨Nat.le_refl _, h⟩
/-- the token that starts at s: its kind, its end, its number -/
noncomputable def t_tk (r : Nat → Int32) (t s : Nat) (d : Int32) : Int32 × Nat × Int32 :=
  @ite _ (s < t) (Classical.propDecidable _) (@ite _ (t_lt (r s)) (Classical.propDecidable _) (1, t_wd r t 121 s, d) (@ite _ (t_dg (r s)) (Classical.propDecidable _) (2, (t_nm r t 121 s 0).1, (t_nm r t 121 s 0).2) (@ite _ (r s = 59) (Classical.propDecidable _) (3, s + 1, d) (4, s + 1, d)))) (0, s, d)
theorem t_tk0 {r : Nat → Int32} {t s : Nat} {d : Int32} (h : ¬ s < t) : t_tk r t s d = (0, s, d) := if_neg h
theorem t_tk1 {r : Nat → Int32} {t s : Nat} {d : Int32} (h : s < t) (h1 : t_lt (r s)) : t_tk r t s d = (1, t_wd r t 121 s, d) := (if_pos h).trans (if_pos h1)
theorem t_tk2 {r : Nat → Int32} {t s : Nat} {d : Int32} (h : s < t) (h1 : ¬ t_lt (r s)) (h2 : t_dg (r s)) : t_tk r t s d = (2, (t_nm r t 121 s 0).1, (t_nm r t 121 s 0).2) := (if_pos h).trans ((if_neg h1).trans (if_pos h2))
theorem t_tk3 {r : Nat → Int32} {t s : Nat} {d : Int32} (h : s < t) (h1 : ¬ t_lt (r s)) (h2 : ¬ t_dg (r s)) (h3 : r s = 59) : t_tk r t s d = (3, s + 1, d) := (if_pos h).trans ((if_neg h1).trans ((if_neg h2).trans (if_pos h3)))
theorem t_tk4 {r : Nat → Int32} {t s : Nat} {d : Int32} (h : s < t) (h1 : ¬ t_lt (r s)) (h2 : ¬ t_dg (r s)) (h3 : ¬ r s = 59) : t_tk r t s d = (4, s + 1, d) := (if_pos h).trans ((if_neg h1).trans ((if_neg h2).trans (if_neg h3)))
theorem t_tk_le {r : Nat → Int32} {t s : Nat} {d : Int32} (h : s ≤ t) : s ≤ (t_tk r t s d).2.1 ∧ (t_tk r t s d).2.1 ≤ t := by
  by_cases h0 : s < t
  · by_cases h1 : t_lt (r s)
    · rw [t_tk1 h0 h1]; exact t_wd_le h
    · by_cases h2 : t_dg (r s)
      · rw [t_tk2 h0 h1 h2]; exact t_nm_le h
      · by_cases h3 : r s = 59
        · rw [t_tk3 h0 h1 h2 h3]; exact ⟨Nat.le_succ _, h0⟩
        · rw [t_tk4 h0 h1 h2 h3]; exact ⟨Nat.le_succ _, h0⟩
  · rw [t_tk0 h0]; exact ⟨Nat.le_refl _, h⟩
/-- the tape's row: kind, start, stop, number -/
def t_row (q : Nat → Int32) (a b c d : Int32) : Nat → Int32 := fun j => if j = 2 then a else if j = 3 then b else if j = 4 then c else if j = 5 then d else q j
theorem t_row0 {q : Nat → Int32} : t_row q (q 2) (q 3) (q 4) (q 5) = q := by
  funext j
  unfold t_row
  by_cases h2 : j = 2
  · simp [h2]
  · by_cases h3 : j = 3
    · simp [h3]
    · by_cases h4 : j = 4
      · simp [h4]
      · by_cases h5 : j = 5
        · simp [h5]
        · simp [h2, h3, h4, h5]
theorem t_p2 {σ : qx_Sg} {q : Nat → Int32} {a b c d x : Int32} : va_up (va_up σ 40 (t_row q a b c d)) 40 (upd (va_up σ 40 (t_row q a b c d) 40) 2 x) = va_up σ 40 (t_row q x b c d) := by
  rw [m_uu, qx_up_eq]
  congr 1
  funext i
  unfold upd t_row
  by_cases e : i = 2
  · subst e; simp
  · simp [e]
theorem t_p3 {σ : qx_Sg} {q : Nat → Int32} {a b c d x : Int32} : va_up (va_up σ 40 (t_row q a b c d)) 40 (upd (va_up σ 40 (t_row q a b c d) 40) 3 x) = va_up σ 40 (t_row q a x c d) := by
  rw [m_uu, qx_up_eq]
  congr 1
  funext i
  unfold upd t_row
  by_cases e : i = 3
  · subst e; simp
  · simp [e]
theorem t_p4 {σ : qx_Sg} {q : Nat → Int32} {a b c d x : Int32} : va_up (va_up σ 40 (t_row q a b c d)) 40 (upd (va_up σ 40 (t_row q a b c d) 40) 4 x) = va_up σ 40 (t_row q a b x d) := by
  rw [m_uu, qx_up_eq]
  congr 1
  funext i
  unfold upd t_row
  by_cases e : i = 4
  · subst e; simp
  · simp [e]
theorem t_p5 {σ : qx_Sg} {q : Nat → Int32} {a b c d x : Int32} : va_up (va_up σ 40 (t_row q a b c d)) 40 (upd (va_up σ 40 (t_row q a b c d) 40) 5 x) = va_up σ 40 (t_row q a b c x) := by
  rw [m_uu, qx_up_eq]
  congr 1
  funext i
  unfold upd t_row
  by_cases e : i = 5
  · subst e; simp
  · simp [e]
theorem c_X3_isLetter (l : Launch) (G : qx_G) (σ : qx_Sg) (i : Nat) (hi : i < 120) : qx_Ct l G yX3_isLetter cX3_isLetter 2 (some .boolean) 0 0 [.ref (qx_ad G 40), .int (nI i)] (σ) (qx_pi (qb (t_lt (σ 41 i))) (σ)) := by
  refine qx_of .boolean (lo := [(0, .ref (qx_ad G 40)), (1, .int (nI i))]) (by decide +kernel) (Nat.le_of_ble_eq_true rfl) rfl (fun Δ (C : qx_C G Δ cX3_isLetter RX3 2 0 0) hret => ?_)
  refine qk_aloadn C dX3_isLetter_0 1 rfl rfl 0 rfl ?_
  refine qk_get C dX3_isLetter_1 4 rfl qf_X3_9 40 (by decide) rfl rfl ?_
  refine qk_iloadn C dX3_isLetter_4 5 rfl rfl 1 rfl ?_
  refine qk_iald C dX3_isLetter_5 6 rfl 41 (by decide) (fun _ => rfl) (i) rfl (by omega) (by decide) ?_
  refine qk_cast (show _ = σ 41 (i) from rfl) ?_
  refine qk_bipush C (97) dX3_isLetter_6 8 rfl rfl ?_
  refine qk_icmp_lt C dX3_isLetter_8 26 rfl 11 rfl (fun c_8 => ?_) (fun c_8 => ?_)
  · refine qk_iconst C (0) dX3_isLetter_26 27 rfl rfl ?_
    exact hret _ _ _ _ dX3_isLetter_27 ⟨congrArg (fun x => some (Value.int x)) ((qb_f (by first | exact ⟨c_8, c_19⟩ | exact fun q => q.1 c_8 | exact fun q => q.2 c_19)).symm), rfl⟩ rfl
  · refine qk_aloadn C dX3_isLetter_11 12 rfl rfl 0 rfl ?_
    refine qk_get C dX3_isLetter_12 15 rfl qf_X3_9 40 (by decide) rfl rfl ?_
    refine qk_iloadn C dX3_isLetter_15 16 rfl rfl 1 rfl ?_
    refine qk_iald C dX3_isLetter_16 17 rfl 41 (by decide) (fun _ => rfl) (i) rfl (by omega) (by decide) ?_
    refine qk_cast (show _ = σ 41 (i) from rfl) ?_
    refine qk_bipush C (122) dX3_isLetter_17 19 rfl rfl ?_
    refine qk_icmp_gt C dX3_isLetter_19 26 rfl 22 rfl (fun c_19 => ?_) (fun c_19 => ?_)
    · refine qk_iconst C (0) dX3_isLetter_26 27 rfl rfl ?_
      exact hret _ _ _ _ dX3_isLetter_27 ⟨congrArg (fun x => some (Value.int x)) ((qb_f (by first | exact ⟨c_8, c_19⟩ | exact fun q => q.1 c_8 | exact fun q => q.2 c_19)).symm), rfl⟩ rfl
    · refine qk_iconst C (1) dX3_isLetter_22 23 rfl rfl ?_
      refine qk_goto C dX3_isLetter_23 27 rfl ?_
      exact hret _ _ _ _ dX3_isLetter_27 ⟨congrArg (fun x => some (Value.int x)) ((qb_t (by first | exact ⟨c_8, c_19⟩ | exact fun q => q.1 c_8 | exact fun q => q.2 c_19)).symm), rfl⟩ rfl

theorem c_X3_isDigit (l : Launch) (G : qx_G) (σ : qx_Sg) (i : Nat) (hi : i < 120) : qx_Ct l G yX3_isDigit cX3_isDigit 2 (some .boolean) 0 0 [.ref (qx_ad G 40), .int (nI i)] (σ) (qx_pi (qb (t_dg (σ 41 i))) (σ)) := by
  refine qx_of .boolean (lo := [(0, .ref (qx_ad G 40)), (1, .int (nI i))]) (by decide +kernel) (Nat.le_of_ble_eq_true rfl) rfl (fun Δ (C : qx_C G Δ cX3_isDigit RX3 2 0 0) hret => ?_)
  refine qk_aloadn C dX3_isDigit_0 1 rfl rfl 0 rfl ?_
  refine qk_get C dX3_isDigit_1 4 rfl qf_X3_9 40 (by decide) rfl rfl ?_
  refine qk_iloadn C dX3_isDigit_4 5 rfl rfl 1 rfl ?_
  refine qk_iald C dX3_isDigit_5 6 rfl 41 (by decide) (fun _ => rfl) (i) rfl (by omega) (by decide) ?_
  refine qk_cast (show _ = σ 41 (i) from rfl) ?_
  refine qk_bipush C (48) dX3_isDigit_6 8 rfl rfl ?_
  refine qk_icmp_lt C dX3_isDigit_8 26 rfl 11 rfl (fun c_8 => ?_) (fun c_8 => ?_)
  · refine qk_iconst C (0) dX3_isDigit_26 27 rfl rfl ?_
    exact hret _ _ _ _ dX3_isDigit_27 ⟨congrArg (fun x => some (Value.int x)) ((qb_f (by first | exact ⟨c_8, c_19⟩ | exact fun q => q.1 c_8 | exact fun q => q.2 c_19)).symm), rfl⟩ rfl
  · refine qk_aloadn C dX3_isDigit_11 12 rfl rfl 0 rfl ?_
    refine qk_get C dX3_isDigit_12 15 rfl qf_X3_9 40 (by decide) rfl rfl ?_
    refine qk_iloadn C dX3_isDigit_15 16 rfl rfl 1 rfl ?_
    refine qk_iald C dX3_isDigit_16 17 rfl 41 (by decide) (fun _ => rfl) (i) rfl (by omega) (by decide) ?_
    refine qk_cast (show _ = σ 41 (i) from rfl) ?_
    refine qk_bipush C (57) dX3_isDigit_17 19 rfl rfl ?_
    refine qk_icmp_gt C dX3_isDigit_19 26 rfl 22 rfl (fun c_19 => ?_) (fun c_19 => ?_)
    · refine qk_iconst C (0) dX3_isDigit_26 27 rfl rfl ?_
      exact hret _ _ _ _ dX3_isDigit_27 ⟨congrArg (fun x => some (Value.int x)) ((qb_f (by first | exact ⟨c_8, c_19⟩ | exact fun q => q.1 c_8 | exact fun q => q.2 c_19)).symm), rfl⟩ rfl
    · refine qk_iconst C (1) dX3_isDigit_22 23 rfl rfl ?_
      refine qk_goto C dX3_isDigit_23 27 rfl ?_
      exact hret _ _ _ _ dX3_isDigit_27 ⟨congrArg (fun x => some (Value.int x)) ((qb_t (by first | exact ⟨c_8, c_19⟩ | exact fun q => q.1 c_8 | exact fun q => q.2 c_19)).symm), rfl⟩ rfl

theorem c_X3_isNumber (l : Launch) (G : qx_G) (σ : qx_Sg) (m : Int32) : qx_Ct l G yX3_isNumber cX3_isNumber 2 (some .boolean) 0 0 [.ref (qx_ad G 40), .int m] (σ) (qx_pi (qb (σ 40 2 = 2 ∧ ¬ m < σ 40 5)) (σ)) := by
  refine qx_of .boolean (lo := [(0, .ref (qx_ad G 40)), (1, .int m)]) (by decide +kernel) (Nat.le_of_ble_eq_true rfl) rfl (fun Δ (C : qx_C G Δ cX3_isNumber RX3 2 0 0) hret => ?_)
  refine qk_aloadn C dX3_isNumber_0 1 rfl rfl 0 rfl ?_
  refine qk_get C dX3_isNumber_1 4 rfl qf_X3_19 40 (by decide) rfl rfl ?_
  refine qk_iconst C (2) dX3_isNumber_4 5 rfl rfl ?_
  refine qk_icmp_ne C dX3_isNumber_5 20 rfl 8 rfl (fun c_5 => ?_) (fun c_5 => ?_)
  · refine qk_iconst C (0) dX3_isNumber_20 21 rfl rfl ?_
    exact hret _ _ _ _ dX3_isNumber_21 ⟨congrArg (fun x => some (Value.int x)) ((qb_f (by first | exact ⟨c_5, c_13⟩ | exact fun q => c_5 q.1 | exact fun q => q.2 c_13)).symm), rfl⟩ rfl
  · refine qk_aloadn C dX3_isNumber_8 9 rfl rfl 0 rfl ?_
    refine qk_get C dX3_isNumber_9 12 rfl qf_X3_28 40 (by decide) rfl rfl ?_
    refine qk_iloadn C dX3_isNumber_12 13 rfl rfl 1 rfl ?_
    refine qk_icmp_gt C dX3_isNumber_13 20 rfl 16 rfl (fun c_13 => ?_) (fun c_13 => ?_)
    · refine qk_iconst C (0) dX3_isNumber_20 21 rfl rfl ?_
      exact hret _ _ _ _ dX3_isNumber_21 ⟨congrArg (fun x => some (Value.int x)) ((qb_f (by first | exact ⟨c_5, c_13⟩ | exact fun q => c_5 q.1 | exact fun q => q.2 c_13)).symm), rfl⟩ rfl
    · refine qk_iconst C (1) dX3_isNumber_16 17 rfl rfl ?_
      refine qk_goto C dX3_isNumber_17 21 rfl ?_
      exact hret _ _ _ _ dX3_isNumber_21 ⟨congrArg (fun x => some (Value.int x)) ((qb_t (by first | exact ⟨c_5, c_13⟩ | exact fun q => c_5 q.1 | exact fun q => q.2 c_13)).symm), rfl⟩ rfl

theorem c_X3_readToken (l : Launch) (G : qx_G) (σ : qx_Sg) (q : Nat → Int32) (a b d : Int32) (t : Nat) (ht : t ≤ 120) (et : q 1 = nI t) (p : Nat) (hp : p ≤ t) : qx_Ct l G yX3_readToken cX3_readToken 1 none 1 21 [.ref (qx_ad G 40)] (va_up σ 40 (t_row q a b (nI p) d)) (qx_pv (va_up σ 40 (t_row q (t_tk (σ 41) t (t_sp (σ 41) t 121 p) d).1 (nI (t_sp (σ 41) t 121 p)) (nI (t_tk (σ 41) t (t_sp (σ 41) t 121 p) d).2.1) (t_tk (σ 41) t (t_sp (σ 41) t 121 p) d).2.2))) := by
  refine qx_ofV (lo := [(0, .ref (qx_ad G 40))]) (by decide +kernel) (Nat.le_of_ble_eq_true rfl) rfl (fun Δ (C : qx_C G Δ cX3_readToken RX3 1 1 21) hret => ?_)
  refine qk_aloadn C dX3_readToken_0 1 rfl rfl 0 rfl ?_
  refine qk_aloadn C dX3_readToken_1 2 rfl rfl 0 rfl ?_
  refine qk_get C dX3_readToken_2 5 rfl qf_X3_25 40 (by decide) rfl rfl ?_
  refine qk_cast (show _ = nI p from rfl) ?_
  refine qk_put C .int dX3_readToken_5 8 rfl qf_X3_22 40 (by decide) rfl (fun q hq => by cases hq; rfl) rfl rfl (Nat.le_of_ble_eq_true rfl) rfl ?_
  refine qk_sg _ (t_p3) ?_
  have lp_8 : ∀ (n_8 : Nat) (f i : Nat), (i ≤ t ∧ t < i + f ∧ (t_sp (σ 41) t 121 p) = t_sp (σ 41) t f i) → t - i < n_8 → qx_K l G Δ (va_up σ 40 (t_row q a (nI i) (nI p) d)) 8 [(0, .ref (qx_ad G 40))] [] := by
    intro n_8
    induction n_8 with
    | zero => intro _ _ _ h9; exact absurd h9 (Nat.not_lt_zero _)
    | succ n_8 ih_8 =>
      intro f i hi hm_8
      refine qk_aloadn C dX3_readToken_8 9 rfl rfl 0 rfl ?_
      refine qk_get C dX3_readToken_9 12 rfl qf_X3_22 40 (by decide) rfl rfl ?_
      refine qk_cast (show _ = nI i from rfl) ?_
      refine qk_aloadn C dX3_readToken_12 13 rfl rfl 0 rfl ?_
      refine qk_get C dX3_readToken_13 16 rfl qf_X3_15 40 (by decide) rfl rfl ?_
      refine qk_cast (et) ?_
      refine qk_icmp_ge C dX3_readToken_16 46 rfl 19 rfl (fun c_16 => ?_) (fun c_16 => ?_)
      · have hit : t ≤ i := (nI_leI (by omega) (by omega)).mp c_16
        have hS : (t_sp (σ 41) t 121 p) = i := hi.2.2.trans (t_sp_f (by first | exact fun q => c_30 q.2 | exact fun q => absurd q.1 (Nat.not_lt.mpr hit)))
        refine qk_aloadn C dX3_readToken_46 47 rfl rfl 0 rfl ?_
        refine qk_aloadn C dX3_readToken_47 48 rfl rfl 0 rfl ?_
        refine qk_get C dX3_readToken_48 51 rfl qf_X3_22 40 (by decide) rfl rfl ?_
        refine qk_cast (show _ = nI i from rfl) ?_
        refine qk_put C .int dX3_readToken_51 54 rfl qf_X3_25 40 (by decide) rfl (fun q hq => by cases hq; rfl) rfl rfl (Nat.le_of_ble_eq_true rfl) rfl ?_
        refine qk_sg _ (t_p4) ?_
        refine qk_aloadn C dX3_readToken_54 55 rfl rfl 0 rfl ?_
        refine qk_get C dX3_readToken_55 58 rfl qf_X3_22 40 (by decide) rfl rfl ?_
        refine qk_cast (show _ = nI i from rfl) ?_
        refine qk_aloadn C dX3_readToken_58 59 rfl rfl 0 rfl ?_
        refine qk_get C dX3_readToken_59 62 rfl qf_X3_15 40 (by decide) rfl rfl ?_
        refine qk_cast (et) ?_
        refine qk_icmp_lt C dX3_readToken_62 73 rfl 65 rfl (fun c_62 => ?_) (fun c_62 => ?_)
        · have hit2 : i < t := (nI_ltI (by omega) (by omega)).mp c_62
          refine qk_aloadn C dX3_readToken_73 74 rfl rfl 0 rfl ?_
          refine qk_aloadn C dX3_readToken_74 75 rfl rfl 0 rfl ?_
          refine qk_get C dX3_readToken_75 78 rfl qf_X3_22 40 (by decide) rfl rfl ?_
          refine qk_cast (show _ = nI i from rfl) ?_
          refine qk_callV C dX3_readToken_78 81 rfl ql_X3_34 qc_X3_isLetter 40 (by decide) rfl rfl (c_X3_isLetter l G _ i (by omega)) rfl rfl (Nat.le_of_ble_eq_true rfl) ⟨(Nat.le_of_ble_eq_true rfl), (Nat.le_of_ble_eq_true rfl)⟩ (qx_Ki ?_)
          refine qk_if_eqB C dX3_readToken_81 124 rfl 84 rfl (fun c_81 => ?_) (fun c_81 => ?_)
          · refine qk_aloadn C dX3_readToken_124 125 rfl rfl 0 rfl ?_
            refine qk_aloadn C dX3_readToken_125 126 rfl rfl 0 rfl ?_
            refine qk_get C dX3_readToken_126 129 rfl qf_X3_22 40 (by decide) rfl rfl ?_
            refine qk_cast (show _ = nI i from rfl) ?_
            refine qk_callV C dX3_readToken_129 132 rfl ql_X3_38 qc_X3_isDigit 40 (by decide) rfl rfl (c_X3_isDigit l G _ i (by omega)) rfl rfl (Nat.le_of_ble_eq_true rfl) ⟨(Nat.le_of_ble_eq_true rfl), (Nat.le_of_ble_eq_true rfl)⟩ (qx_Ki ?_)
            refine qk_if_eqB C dX3_readToken_132 210 rfl 135 rfl (fun c_132 => ?_) (fun c_132 => ?_)
            · refine qk_aloadn C dX3_readToken_210 211 rfl rfl 0 rfl ?_
              refine qk_aloadn C dX3_readToken_211 212 rfl rfl 0 rfl ?_
              refine qk_get C dX3_readToken_212 215 rfl qf_X3_9 40 (by decide) rfl rfl ?_
              refine qk_aloadn C dX3_readToken_215 216 rfl rfl 0 rfl ?_
              refine qk_get C dX3_readToken_216 219 rfl qf_X3_22 40 (by decide) rfl rfl ?_
              refine qk_cast (show _ = nI i from rfl) ?_
              refine qk_iald C dX3_readToken_219 220 rfl 41 (by decide) (fun _ => rfl) (i) rfl (by omega) (by decide) ?_
              refine qk_cast (show _ = σ 41 (i) from rfl) ?_
              refine qk_bipush C (59) dX3_readToken_220 222 rfl rfl ?_
              refine qk_icmp_ne C dX3_readToken_222 229 rfl 225 rfl (fun c_222 => ?_) (fun c_222 => ?_)
              · refine qk_iconst C (4) dX3_readToken_229 230 rfl rfl ?_
                refine qk_put C .int dX3_readToken_230 233 rfl qf_X3_19 40 (by decide) rfl (fun q hq => by cases hq; rfl) rfl rfl (Nat.le_of_ble_eq_true rfl) rfl ?_
                refine qk_sg _ (t_p2) ?_
                refine qk_aloadn C dX3_readToken_233 234 rfl rfl 0 rfl ?_
                refine qk_aloadn C dX3_readToken_234 235 rfl rfl 0 rfl ?_
                refine qk_get C dX3_readToken_235 238 rfl qf_X3_22 40 (by decide) rfl rfl ?_
                refine qk_cast (show _ = nI i from rfl) ?_
                refine qk_iconst C (1) dX3_readToken_238 239 rfl rfl ?_
                refine qk_iadd C dX3_readToken_239 240 rfl ?_
                refine qk_cast (nI_1 _) ?_
                refine qk_put C .int dX3_readToken_240 243 rfl qf_X3_25 40 (by decide) rfl (fun q hq => by cases hq; rfl) rfl rfl (Nat.le_of_ble_eq_true rfl) rfl ?_
                refine qk_sg _ (t_p4) ?_
                exact hret _ _ _ dX3_readToken_243 ⟨rfl, by rw [hS, t_tk4 (r := σ 41) hit2 c_81 c_132 c_222]⟩
              · refine qk_iconst C (3) dX3_readToken_225 226 rfl rfl ?_
                refine qk_goto C dX3_readToken_226 230 rfl ?_
                refine qk_put C .int dX3_readToken_230 233 rfl qf_X3_19 40 (by decide) rfl (fun q hq => by cases hq; rfl) rfl rfl (Nat.le_of_ble_eq_true rfl) rfl ?_
                refine qk_sg _ (t_p2) ?_
                refine qk_aloadn C dX3_readToken_233 234 rfl rfl 0 rfl ?_
                refine qk_aloadn C dX3_readToken_234 235 rfl rfl 0 rfl ?_
                refine qk_get C dX3_readToken_235 238 rfl qf_X3_22 40 (by decide) rfl rfl ?_
                refine qk_cast (show _ = nI i from rfl) ?_
                refine qk_iconst C (1) dX3_readToken_238 239 rfl rfl ?_
                refine qk_iadd C dX3_readToken_239 240 rfl ?_
                refine qk_cast (nI_1 _) ?_
                refine qk_put C .int dX3_readToken_240 243 rfl qf_X3_25 40 (by decide) rfl (fun q hq => by cases hq; rfl) rfl rfl (Nat.le_of_ble_eq_true rfl) rfl ?_
                refine qk_sg _ (t_p4) ?_
                exact hret _ _ _ dX3_readToken_243 ⟨rfl, by rw [hS, t_tk3 (r := σ 41) hit2 c_81 c_132 c_222]⟩
            · refine qk_aloadn C dX3_readToken_135 136 rfl rfl 0 rfl ?_
              refine qk_iconst C (2) dX3_readToken_136 137 rfl rfl ?_
              refine qk_put C .int dX3_readToken_137 140 rfl qf_X3_19 40 (by decide) rfl (fun q hq => by cases hq; rfl) rfl rfl (Nat.le_of_ble_eq_true rfl) rfl ?_
              refine qk_sg _ (t_p2) ?_
              refine qk_aloadn C dX3_readToken_140 141 rfl rfl 0 rfl ?_
              refine qk_iconst C (0) dX3_readToken_141 142 rfl rfl ?_
              refine qk_put C .int dX3_readToken_142 145 rfl qf_X3_28 40 (by decide) rfl (fun q hq => by cases hq; rfl) rfl rfl (Nat.le_of_ble_eq_true rfl) rfl ?_
              refine qk_sg _ (t_p5) ?_
              have lp_145 : ∀ (n_145 : Nat) (f j : Nat) (w : Int32), (i ≤ j ∧ j ≤ t ∧ t < j + f ∧ t_nm (σ 41) t 121 i 0 = t_nm (σ 41) t f j w) → t - j < n_145 → qx_K l G Δ (va_up σ 40 (t_row q 2 (nI i) (nI j) w)) 145 [(0, .ref (qx_ad G 40))] [] := by
                intro n_145
                induction n_145 with
                | zero => intro _ _ _ _ h9; exact absurd h9 (Nat.not_lt_zero _)
                | succ n_145 ih_145 =>
                  intro f j w hj hm_145
                  refine qk_aloadn C dX3_readToken_145 146 rfl rfl 0 rfl ?_
                  refine qk_get C dX3_readToken_146 149 rfl qf_X3_25 40 (by decide) rfl rfl ?_
                  refine qk_cast (show _ = nI j from rfl) ?_
                  refine qk_aloadn C dX3_readToken_149 150 rfl rfl 0 rfl ?_
                  refine qk_get C dX3_readToken_150 153 rfl qf_X3_15 40 (by decide) rfl rfl ?_
                  refine qk_cast (et) ?_
                  refine qk_icmp_ge C dX3_readToken_153 243 rfl 156 rfl (fun c_153 => ?_) (fun c_153 => ?_)
                  · have hjt : t ≤ j := (nI_leI (by omega) (by omega)).mp c_153
                    exact hret _ _ _ dX3_readToken_243 ⟨rfl, by rw [hS, t_tk2 (r := σ 41) hit2 c_81 c_132, hj.2.2.2, t_nm_f (by exact fun q => absurd q.1 (Nat.not_lt.mpr hjt))]⟩
                  · have hjt : j < t := Nat.not_le.mp (fun q => c_153 (nI_le q (by omega)))
                    refine qk_aloadn C dX3_readToken_156 157 rfl rfl 0 rfl ?_
                    refine qk_aloadn C dX3_readToken_157 158 rfl rfl 0 rfl ?_
                    refine qk_get C dX3_readToken_158 161 rfl qf_X3_25 40 (by decide) rfl rfl ?_
                    refine qk_cast (show _ = nI j from rfl) ?_
                    refine qk_callV C dX3_readToken_161 164 rfl ql_X3_38 qc_X3_isDigit 40 (by decide) rfl rfl (c_X3_isDigit l G _ j (by omega)) rfl rfl (Nat.le_of_ble_eq_true rfl) ⟨(Nat.le_of_ble_eq_true rfl), (Nat.le_of_ble_eq_true rfl)⟩ (qx_Ki ?_)
                    refine qk_if_eqB C dX3_readToken_164 243 rfl 167 rfl (fun c_164 => ?_) (fun c_164 => ?_)
                    · exact hret _ _ _ dX3_readToken_243 ⟨rfl, by rw [hS, t_tk2 (r := σ 41) hit2 c_81 c_132, hj.2.2.2, t_nm_f (by exact fun q => c_164 q.2)]⟩
                    · refine qk_aloadn C dX3_readToken_167 168 rfl rfl 0 rfl ?_
                      refine qk_sipush C (10000) dX3_readToken_168 171 rfl rfl ?_
                      refine qk_bipush C (10) dX3_readToken_171 173 rfl rfl ?_
                      refine qk_aloadn C dX3_readToken_173 174 rfl rfl 0 rfl ?_
                      refine qk_get C dX3_readToken_174 177 rfl qf_X3_28 40 (by decide) rfl rfl ?_
                      refine qk_cast (show _ = w from rfl) ?_
                      refine qk_imul C dX3_readToken_177 178 rfl ?_
                      refine qk_aloadn C dX3_readToken_178 179 rfl rfl 0 rfl ?_
                      refine qk_get C dX3_readToken_179 182 rfl qf_X3_9 40 (by decide) rfl rfl ?_
                      refine qk_aloadn C dX3_readToken_182 183 rfl rfl 0 rfl ?_
                      refine qk_get C dX3_readToken_183 186 rfl qf_X3_25 40 (by decide) rfl rfl ?_
                      refine qk_cast (show _ = nI j from rfl) ?_
                      refine qk_iald C dX3_readToken_186 187 rfl 41 (by decide) (fun _ => rfl) (j) rfl (by omega) (by decide) ?_
                      refine qk_cast (show _ = σ 41 (j) from rfl) ?_
                      refine qk_iadd C dX3_readToken_187 188 rfl ?_
                      refine qk_bipush C (48) dX3_readToken_188 190 rfl rfl ?_
                      refine qk_isub C dX3_readToken_190 191 rfl ?_
                      refine qk_min C dX3_readToken_191 194 rfl ql_X3_41 ⟨(Nat.le_of_ble_eq_true rfl), (Nat.le_of_ble_eq_true rfl)⟩ ?_
                      refine qk_put C .int dX3_readToken_194 197 rfl qf_X3_28 40 (by decide) rfl (fun q hq => by cases hq; rfl) rfl rfl (Nat.le_of_ble_eq_true rfl) rfl ?_
                      refine qk_sg _ (t_p5) ?_
                      refine qk_aloadn C dX3_readToken_197 198 rfl rfl 0 rfl ?_
                      refine qk_dup C dX3_readToken_198 199 rfl rfl ?_
                      refine qk_get C dX3_readToken_199 202 rfl qf_X3_25 40 (by decide) rfl rfl ?_
                      refine qk_cast (show _ = nI j from rfl) ?_
                      refine qk_iconst C (1) dX3_readToken_202 203 rfl rfl ?_
                      refine qk_iadd C dX3_readToken_203 204 rfl ?_
                      refine qk_cast (nI_1 _) ?_
                      refine qk_put C .int dX3_readToken_204 207 rfl qf_X3_25 40 (by decide) rfl (fun q hq => by cases hq; rfl) rfl rfl (Nat.le_of_ble_eq_true rfl) rfl ?_
                      refine qk_sg _ (t_p4) ?_
                      refine qk_goto C dX3_readToken_207 145 rfl ?_
                      exact ih_145 (f - 1) (j + 1) _ ⟨by omega, by omega, by omega, hj.2.2.2.trans (t_nm_t (by omega) ⟨hjt, c_164⟩)⟩ (by omega)
              exact lp_145 _ 121 i 0 ⟨by omega, by omega, by omega, rfl⟩ (Nat.lt_succ_self _)
          · refine qk_aloadn C dX3_readToken_84 85 rfl rfl 0 rfl ?_
            refine qk_iconst C (1) dX3_readToken_85 86 rfl rfl ?_
            refine qk_put C .int dX3_readToken_86 89 rfl qf_X3_19 40 (by decide) rfl (fun q hq => by cases hq; rfl) rfl rfl (Nat.le_of_ble_eq_true rfl) rfl ?_
            refine qk_sg _ (t_p2) ?_
            have lp_89 : ∀ (n_89 : Nat) (f j : Nat), (i ≤ j ∧ j ≤ t ∧ t < j + f ∧ t_wd (σ 41) t 121 i = t_wd (σ 41) t f j) → t - j < n_89 → qx_K l G Δ (va_up σ 40 (t_row q 1 (nI i) (nI j) d)) 89 [(0, .ref (qx_ad G 40))] [] := by
              intro n_89
              induction n_89 with
              | zero => intro _ _ _ h9; exact absurd h9 (Nat.not_lt_zero _)
              | succ n_89 ih_89 =>
                intro f j hj hm_89
                refine qk_aloadn C dX3_readToken_89 90 rfl rfl 0 rfl ?_
                refine qk_get C dX3_readToken_90 93 rfl qf_X3_25 40 (by decide) rfl rfl ?_
                refine qk_cast (show _ = nI j from rfl) ?_
                refine qk_aloadn C dX3_readToken_93 94 rfl rfl 0 rfl ?_
                refine qk_get C dX3_readToken_94 97 rfl qf_X3_15 40 (by decide) rfl rfl ?_
                refine qk_cast (et) ?_
                refine qk_icmp_ge C dX3_readToken_97 243 rfl 100 rfl (fun c_97 => ?_) (fun c_97 => ?_)
                · have hjt : t ≤ j := (nI_leI (by omega) (by omega)).mp c_97
                  exact hret _ _ _ dX3_readToken_243 ⟨rfl, by rw [hS, t_tk1 (r := σ 41) hit2 c_81, hj.2.2.2, t_wd_f (by exact fun q => absurd q.1 (Nat.not_lt.mpr hjt))]⟩
                · have hjt : j < t := Nat.not_le.mp (fun q => c_97 (nI_le q (by omega)))
                  refine qk_aloadn C dX3_readToken_100 101 rfl rfl 0 rfl ?_
                  refine qk_aloadn C dX3_readToken_101 102 rfl rfl 0 rfl ?_
                  refine qk_get C dX3_readToken_102 105 rfl qf_X3_25 40 (by decide) rfl rfl ?_
                  refine qk_cast (show _ = nI j from rfl) ?_
                  refine qk_callV C dX3_readToken_105 108 rfl ql_X3_34 qc_X3_isLetter 40 (by decide) rfl rfl (c_X3_isLetter l G _ j (by omega)) rfl rfl (Nat.le_of_ble_eq_true rfl) ⟨(Nat.le_of_ble_eq_true rfl), (Nat.le_of_ble_eq_true rfl)⟩ (qx_Ki ?_)
                  refine qk_if_eqB C dX3_readToken_108 243 rfl 111 rfl (fun c_108 => ?_) (fun c_108 => ?_)
                  · exact hret _ _ _ dX3_readToken_243 ⟨rfl, by rw [hS, t_tk1 (r := σ 41) hit2 c_81, hj.2.2.2, t_wd_f (by exact fun q => c_108 q.2)]⟩
                  · refine qk_aloadn C dX3_readToken_111 112 rfl rfl 0 rfl ?_
                    refine qk_dup C dX3_readToken_112 113 rfl rfl ?_
                    refine qk_get C dX3_readToken_113 116 rfl qf_X3_25 40 (by decide) rfl rfl ?_
                    refine qk_cast (show _ = nI j from rfl) ?_
                    refine qk_iconst C (1) dX3_readToken_116 117 rfl rfl ?_
                    refine qk_iadd C dX3_readToken_117 118 rfl ?_
                    refine qk_cast (nI_1 _) ?_
                    refine qk_put C .int dX3_readToken_118 121 rfl qf_X3_25 40 (by decide) rfl (fun q hq => by cases hq; rfl) rfl rfl (Nat.le_of_ble_eq_true rfl) rfl ?_
                    refine qk_sg _ (t_p4) ?_
                    refine qk_goto C dX3_readToken_121 89 rfl ?_
                    exact ih_89 (f - 1) (j + 1) ⟨by omega, by omega, by omega, hj.2.2.2.trans (t_wd_t (by omega) ⟨hjt, c_108⟩)⟩ (by omega)
            exact lp_89 _ 121 i ⟨by omega, by omega, by omega, rfl⟩ (Nat.lt_succ_self _)
        · have hit2 : ¬ i < t := fun q => c_62 (nI_lt q (by omega))
          refine qk_aloadn C dX3_readToken_65 66 rfl rfl 0 rfl ?_
          refine qk_iconst C (0) dX3_readToken_66 67 rfl rfl ?_
          refine qk_put C .int dX3_readToken_67 70 rfl qf_X3_19 40 (by decide) rfl (fun q hq => by cases hq; rfl) rfl rfl (Nat.le_of_ble_eq_true rfl) rfl ?_
          refine qk_sg _ (t_p2) ?_
          refine qk_goto C dX3_readToken_70 243 rfl ?_
          exact hret _ _ _ dX3_readToken_243 ⟨rfl, by rw [hS, t_tk0 hit2]⟩
      · have hit : i < t := Nat.not_le.mp (fun q => c_16 (nI_le q (by omega)))
        refine qk_aloadn C dX3_readToken_19 20 rfl rfl 0 rfl ?_
        refine qk_get C dX3_readToken_20 23 rfl qf_X3_9 40 (by decide) rfl rfl ?_
        refine qk_aloadn C dX3_readToken_23 24 rfl rfl 0 rfl ?_
        refine qk_get C dX3_readToken_24 27 rfl qf_X3_22 40 (by decide) rfl rfl ?_
        refine qk_cast (show _ = nI i from rfl) ?_
        refine qk_iald C dX3_readToken_27 28 rfl 41 (by decide) (fun _ => rfl) (i) rfl (by omega) (by decide) ?_
        refine qk_cast (show _ = σ 41 (i) from rfl) ?_
        refine qk_bipush C (32) dX3_readToken_28 30 rfl rfl ?_
        refine qk_icmp_ne C dX3_readToken_30 46 rfl 33 rfl (fun c_30 => ?_) (fun c_30 => ?_)
        · have hS : (t_sp (σ 41) t 121 p) = i := hi.2.2.trans (t_sp_f (by first | exact fun q => c_30 q.2 | exact fun q => absurd q.1 (Nat.not_lt.mpr hit)))
          refine qk_aloadn C dX3_readToken_46 47 rfl rfl 0 rfl ?_
          refine qk_aloadn C dX3_readToken_47 48 rfl rfl 0 rfl ?_
          refine qk_get C dX3_readToken_48 51 rfl qf_X3_22 40 (by decide) rfl rfl ?_
          refine qk_cast (show _ = nI i from rfl) ?_
          refine qk_put C .int dX3_readToken_51 54 rfl qf_X3_25 40 (by decide) rfl (fun q hq => by cases hq; rfl) rfl rfl (Nat.le_of_ble_eq_true rfl) rfl ?_
          refine qk_sg _ (t_p4) ?_
          refine qk_aloadn C dX3_readToken_54 55 rfl rfl 0 rfl ?_
          refine qk_get C dX3_readToken_55 58 rfl qf_X3_22 40 (by decide) rfl rfl ?_
          refine qk_cast (show _ = nI i from rfl) ?_
          refine qk_aloadn C dX3_readToken_58 59 rfl rfl 0 rfl ?_
          refine qk_get C dX3_readToken_59 62 rfl qf_X3_15 40 (by decide) rfl rfl ?_
          refine qk_cast (et) ?_
          refine qk_icmp_lt C dX3_readToken_62 73 rfl 65 rfl (fun c_62 => ?_) (fun c_62 => ?_)
          · have hit2 : i < t := (nI_ltI (by omega) (by omega)).mp c_62
            refine qk_aloadn C dX3_readToken_73 74 rfl rfl 0 rfl ?_
            refine qk_aloadn C dX3_readToken_74 75 rfl rfl 0 rfl ?_
            refine qk_get C dX3_readToken_75 78 rfl qf_X3_22 40 (by decide) rfl rfl ?_
            refine qk_cast (show _ = nI i from rfl) ?_
            refine qk_callV C dX3_readToken_78 81 rfl ql_X3_34 qc_X3_isLetter 40 (by decide) rfl rfl (c_X3_isLetter l G _ i (by omega)) rfl rfl (Nat.le_of_ble_eq_true rfl) ⟨(Nat.le_of_ble_eq_true rfl), (Nat.le_of_ble_eq_true rfl)⟩ (qx_Ki ?_)
            refine qk_if_eqB C dX3_readToken_81 124 rfl 84 rfl (fun c_81 => ?_) (fun c_81 => ?_)
            · refine qk_aloadn C dX3_readToken_124 125 rfl rfl 0 rfl ?_
              refine qk_aloadn C dX3_readToken_125 126 rfl rfl 0 rfl ?_
              refine qk_get C dX3_readToken_126 129 rfl qf_X3_22 40 (by decide) rfl rfl ?_
              refine qk_cast (show _ = nI i from rfl) ?_
              refine qk_callV C dX3_readToken_129 132 rfl ql_X3_38 qc_X3_isDigit 40 (by decide) rfl rfl (c_X3_isDigit l G _ i (by omega)) rfl rfl (Nat.le_of_ble_eq_true rfl) ⟨(Nat.le_of_ble_eq_true rfl), (Nat.le_of_ble_eq_true rfl)⟩ (qx_Ki ?_)
              refine qk_if_eqB C dX3_readToken_132 210 rfl 135 rfl (fun c_132 => ?_) (fun c_132 => ?_)
              · refine qk_aloadn C dX3_readToken_210 211 rfl rfl 0 rfl ?_
                refine qk_aloadn C dX3_readToken_211 212 rfl rfl 0 rfl ?_
                refine qk_get C dX3_readToken_212 215 rfl qf_X3_9 40 (by decide) rfl rfl ?_
                refine qk_aloadn C dX3_readToken_215 216 rfl rfl 0 rfl ?_
                refine qk_get C dX3_readToken_216 219 rfl qf_X3_22 40 (by decide) rfl rfl ?_
                refine qk_cast (show _ = nI i from rfl) ?_
                refine qk_iald C dX3_readToken_219 220 rfl 41 (by decide) (fun _ => rfl) (i) rfl (by omega) (by decide) ?_
                refine qk_cast (show _ = σ 41 (i) from rfl) ?_
                refine qk_bipush C (59) dX3_readToken_220 222 rfl rfl ?_
                refine qk_icmp_ne C dX3_readToken_222 229 rfl 225 rfl (fun c_222 => ?_) (fun c_222 => ?_)
                · refine qk_iconst C (4) dX3_readToken_229 230 rfl rfl ?_
                  refine qk_put C .int dX3_readToken_230 233 rfl qf_X3_19 40 (by decide) rfl (fun q hq => by cases hq; rfl) rfl rfl (Nat.le_of_ble_eq_true rfl) rfl ?_
                  refine qk_sg _ (t_p2) ?_
                  refine qk_aloadn C dX3_readToken_233 234 rfl rfl 0 rfl ?_
                  refine qk_aloadn C dX3_readToken_234 235 rfl rfl 0 rfl ?_
                  refine qk_get C dX3_readToken_235 238 rfl qf_X3_22 40 (by decide) rfl rfl ?_
                  refine qk_cast (show _ = nI i from rfl) ?_
                  refine qk_iconst C (1) dX3_readToken_238 239 rfl rfl ?_
                  refine qk_iadd C dX3_readToken_239 240 rfl ?_
                  refine qk_cast (nI_1 _) ?_
                  refine qk_put C .int dX3_readToken_240 243 rfl qf_X3_25 40 (by decide) rfl (fun q hq => by cases hq; rfl) rfl rfl (Nat.le_of_ble_eq_true rfl) rfl ?_
                  refine qk_sg _ (t_p4) ?_
                  exact hret _ _ _ dX3_readToken_243 ⟨rfl, by rw [hS, t_tk4 (r := σ 41) hit2 c_81 c_132 c_222]⟩
                · refine qk_iconst C (3) dX3_readToken_225 226 rfl rfl ?_
                  refine qk_goto C dX3_readToken_226 230 rfl ?_
                  refine qk_put C .int dX3_readToken_230 233 rfl qf_X3_19 40 (by decide) rfl (fun q hq => by cases hq; rfl) rfl rfl (Nat.le_of_ble_eq_true rfl) rfl ?_
                  refine qk_sg _ (t_p2) ?_
                  refine qk_aloadn C dX3_readToken_233 234 rfl rfl 0 rfl ?_
                  refine qk_aloadn C dX3_readToken_234 235 rfl rfl 0 rfl ?_
                  refine qk_get C dX3_readToken_235 238 rfl qf_X3_22 40 (by decide) rfl rfl ?_
                  refine qk_cast (show _ = nI i from rfl) ?_
                  refine qk_iconst C (1) dX3_readToken_238 239 rfl rfl ?_
                  refine qk_iadd C dX3_readToken_239 240 rfl ?_
                  refine qk_cast (nI_1 _) ?_
                  refine qk_put C .int dX3_readToken_240 243 rfl qf_X3_25 40 (by decide) rfl (fun q hq => by cases hq; rfl) rfl rfl (Nat.le_of_ble_eq_true rfl) rfl ?_
                  refine qk_sg _ (t_p4) ?_
                  exact hret _ _ _ dX3_readToken_243 ⟨rfl, by rw [hS, t_tk3 (r := σ 41) hit2 c_81 c_132 c_222]⟩
              · refine qk_aloadn C dX3_readToken_135 136 rfl rfl 0 rfl ?_
                refine qk_iconst C (2) dX3_readToken_136 137 rfl rfl ?_
                refine qk_put C .int dX3_readToken_137 140 rfl qf_X3_19 40 (by decide) rfl (fun q hq => by cases hq; rfl) rfl rfl (Nat.le_of_ble_eq_true rfl) rfl ?_
                refine qk_sg _ (t_p2) ?_
                refine qk_aloadn C dX3_readToken_140 141 rfl rfl 0 rfl ?_
                refine qk_iconst C (0) dX3_readToken_141 142 rfl rfl ?_
                refine qk_put C .int dX3_readToken_142 145 rfl qf_X3_28 40 (by decide) rfl (fun q hq => by cases hq; rfl) rfl rfl (Nat.le_of_ble_eq_true rfl) rfl ?_
                refine qk_sg _ (t_p5) ?_
                have lp_145 : ∀ (n_145 : Nat) (f j : Nat) (w : Int32), (i ≤ j ∧ j ≤ t ∧ t < j + f ∧ t_nm (σ 41) t 121 i 0 = t_nm (σ 41) t f j w) → t - j < n_145 → qx_K l G Δ (va_up σ 40 (t_row q 2 (nI i) (nI j) w)) 145 [(0, .ref (qx_ad G 40))] [] := by
                  intro n_145
                  induction n_145 with
                  | zero => intro _ _ _ _ h9; exact absurd h9 (Nat.not_lt_zero _)
                  | succ n_145 ih_145 =>
                    intro f j w hj hm_145
                    refine qk_aloadn C dX3_readToken_145 146 rfl rfl 0 rfl ?_
                    refine qk_get C dX3_readToken_146 149 rfl qf_X3_25 40 (by decide) rfl rfl ?_
                    refine qk_cast (show _ = nI j from rfl) ?_
                    refine qk_aloadn C dX3_readToken_149 150 rfl rfl 0 rfl ?_
                    refine qk_get C dX3_readToken_150 153 rfl qf_X3_15 40 (by decide) rfl rfl ?_
                    refine qk_cast (et) ?_
                    refine qk_icmp_ge C dX3_readToken_153 243 rfl 156 rfl (fun c_153 => ?_) (fun c_153 => ?_)
                    · have hjt : t ≤ j := (nI_leI (by omega) (by omega)).mp c_153
                      exact hret _ _ _ dX3_readToken_243 ⟨rfl, by rw [hS, t_tk2 (r := σ 41) hit2 c_81 c_132, hj.2.2.2, t_nm_f (by exact fun q => absurd q.1 (Nat.not_lt.mpr hjt))]⟩
                    · have hjt : j < t := Nat.not_le.mp (fun q => c_153 (nI_le q (by omega)))
                      refine qk_aloadn C dX3_readToken_156 157 rfl rfl 0 rfl ?_
                      refine qk_aloadn C dX3_readToken_157 158 rfl rfl 0 rfl ?_
                      refine qk_get C dX3_readToken_158 161 rfl qf_X3_25 40 (by decide) rfl rfl ?_
                      refine qk_cast (show _ = nI j from rfl) ?_
                      refine qk_callV C dX3_readToken_161 164 rfl ql_X3_38 qc_X3_isDigit 40 (by decide) rfl rfl (c_X3_isDigit l G _ j (by omega)) rfl rfl (Nat.le_of_ble_eq_true rfl) ⟨(Nat.le_of_ble_eq_true rfl), (Nat.le_of_ble_eq_true rfl)⟩ (qx_Ki ?_)
                      refine qk_if_eqB C dX3_readToken_164 243 rfl 167 rfl (fun c_164 => ?_) (fun c_164 => ?_)
                      · exact hret _ _ _ dX3_readToken_243 ⟨rfl, by rw [hS, t_tk2 (r := σ 41) hit2 c_81 c_132, hj.2.2.2, t_nm_f (by exact fun q => c_164 q.2)]⟩
                      · refine qk_aloadn C dX3_readToken_167 168 rfl rfl 0 rfl ?_
                        refine qk_sipush C (10000) dX3_readToken_168 171 rfl rfl ?_
                        refine qk_bipush C (10) dX3_readToken_171 173 rfl rfl ?_
                        refine qk_aloadn C dX3_readToken_173 174 rfl rfl 0 rfl ?_
                        refine qk_get C dX3_readToken_174 177 rfl qf_X3_28 40 (by decide) rfl rfl ?_
                        refine qk_cast (show _ = w from rfl) ?_
                        refine qk_imul C dX3_readToken_177 178 rfl ?_
                        refine qk_aloadn C dX3_readToken_178 179 rfl rfl 0 rfl ?_
                        refine qk_get C dX3_readToken_179 182 rfl qf_X3_9 40 (by decide) rfl rfl ?_
                        refine qk_aloadn C dX3_readToken_182 183 rfl rfl 0 rfl ?_
                        refine qk_get C dX3_readToken_183 186 rfl qf_X3_25 40 (by decide) rfl rfl ?_
                        refine qk_cast (show _ = nI j from rfl) ?_
                        refine qk_iald C dX3_readToken_186 187 rfl 41 (by decide) (fun _ => rfl) (j) rfl (by omega) (by decide) ?_
                        refine qk_cast (show _ = σ 41 (j) from rfl) ?_
                        refine qk_iadd C dX3_readToken_187 188 rfl ?_
                        refine qk_bipush C (48) dX3_readToken_188 190 rfl rfl ?_
                        refine qk_isub C dX3_readToken_190 191 rfl ?_
                        refine qk_min C dX3_readToken_191 194 rfl ql_X3_41 ⟨(Nat.le_of_ble_eq_true rfl), (Nat.le_of_ble_eq_true rfl)⟩ ?_
                        refine qk_put C .int dX3_readToken_194 197 rfl qf_X3_28 40 (by decide) rfl (fun q hq => by cases hq; rfl) rfl rfl (Nat.le_of_ble_eq_true rfl) rfl ?_
                        refine qk_sg _ (t_p5) ?_
                        refine qk_aloadn C dX3_readToken_197 198 rfl rfl 0 rfl ?_
                        refine qk_dup C dX3_readToken_198 199 rfl rfl ?_
                        refine qk_get C dX3_readToken_199 202 rfl qf_X3_25 40 (by decide) rfl rfl ?_
                        refine qk_cast (show _ = nI j from rfl) ?_
                        refine qk_iconst C (1) dX3_readToken_202 203 rfl rfl ?_
                        refine qk_iadd C dX3_readToken_203 204 rfl ?_
                        refine qk_cast (nI_1 _) ?_
                        refine qk_put C .int dX3_readToken_204 207 rfl qf_X3_25 40 (by decide) rfl (fun q hq => by cases hq; rfl) rfl rfl (Nat.le_of_ble_eq_true rfl) rfl ?_
                        refine qk_sg _ (t_p4) ?_
                        refine qk_goto C dX3_readToken_207 145 rfl ?_
                        exact ih_145 (f - 1) (j + 1) _ ⟨by omega, by omega, by omega, hj.2.2.2.trans (t_nm_t (by omega) ⟨hjt, c_164⟩)⟩ (by omega)
                exact lp_145 _ 121 i 0 ⟨by omega, by omega, by omega, rfl⟩ (Nat.lt_succ_self _)
            · refine qk_aloadn C dX3_readToken_84 85 rfl rfl 0 rfl ?_
              refine qk_iconst C (1) dX3_readToken_85 86 rfl rfl ?_
              refine qk_put C .int dX3_readToken_86 89 rfl qf_X3_19 40 (by decide) rfl (fun q hq => by cases hq; rfl) rfl rfl (Nat.le_of_ble_eq_true rfl) rfl ?_
              refine qk_sg _ (t_p2) ?_
              have lp_89 : ∀ (n_89 : Nat) (f j : Nat), (i ≤ j ∧ j ≤ t ∧ t < j + f ∧ t_wd (σ 41) t 121 i = t_wd (σ 41) t f j) → t - j < n_89 → qx_K l G Δ (va_up σ 40 (t_row q 1 (nI i) (nI j) d)) 89 [(0, .ref (qx_ad G 40))] [] := by
                intro n_89
                induction n_89 with
                | zero => intro _ _ _ h9; exact absurd h9 (Nat.not_lt_zero _)
                | succ n_89 ih_89 =>
                  intro f j hj hm_89
                  refine qk_aloadn C dX3_readToken_89 90 rfl rfl 0 rfl ?_
                  refine qk_get C dX3_readToken_90 93 rfl qf_X3_25 40 (by decide) rfl rfl ?_
                  refine qk_cast (show _ = nI j from rfl) ?_
                  refine qk_aloadn C dX3_readToken_93 94 rfl rfl 0 rfl ?_
                  refine qk_get C dX3_readToken_94 97 rfl qf_X3_15 40 (by decide) rfl rfl ?_
                  refine qk_cast (et) ?_
                  refine qk_icmp_ge C dX3_readToken_97 243 rfl 100 rfl (fun c_97 => ?_) (fun c_97 => ?_)
                  · have hjt : t ≤ j := (nI_leI (by omega) (by omega)).mp c_97
                    exact hret _ _ _ dX3_readToken_243 ⟨rfl, by rw [hS, t_tk1 (r := σ 41) hit2 c_81, hj.2.2.2, t_wd_f (by exact fun q => absurd q.1 (Nat.not_lt.mpr hjt))]⟩
                  · have hjt : j < t := Nat.not_le.mp (fun q => c_97 (nI_le q (by omega)))
                    refine qk_aloadn C dX3_readToken_100 101 rfl rfl 0 rfl ?_
                    refine qk_aloadn C dX3_readToken_101 102 rfl rfl 0 rfl ?_
                    refine qk_get C dX3_readToken_102 105 rfl qf_X3_25 40 (by decide) rfl rfl ?_
                    refine qk_cast (show _ = nI j from rfl) ?_
                    refine qk_callV C dX3_readToken_105 108 rfl ql_X3_34 qc_X3_isLetter 40 (by decide) rfl rfl (c_X3_isLetter l G _ j (by omega)) rfl rfl (Nat.le_of_ble_eq_true rfl) ⟨(Nat.le_of_ble_eq_true rfl), (Nat.le_of_ble_eq_true rfl)⟩ (qx_Ki ?_)
                    refine qk_if_eqB C dX3_readToken_108 243 rfl 111 rfl (fun c_108 => ?_) (fun c_108 => ?_)
                    · exact hret _ _ _ dX3_readToken_243 ⟨rfl, by rw [hS, t_tk1 (r := σ 41) hit2 c_81, hj.2.2.2, t_wd_f (by exact fun q => c_108 q.2)]⟩
                    · refine qk_aloadn C dX3_readToken_111 112 rfl rfl 0 rfl ?_
                      refine qk_dup C dX3_readToken_112 113 rfl rfl ?_
                      refine qk_get C dX3_readToken_113 116 rfl qf_X3_25 40 (by decide) rfl rfl ?_
                      refine qk_cast (show _ = nI j from rfl) ?_
                      refine qk_iconst C (1) dX3_readToken_116 117 rfl rfl ?_
                      refine qk_iadd C dX3_readToken_117 118 rfl ?_
                      refine qk_cast (nI_1 _) ?_
                      refine qk_put C .int dX3_readToken_118 121 rfl qf_X3_25 40 (by decide) rfl (fun q hq => by cases hq; rfl) rfl rfl (Nat.le_of_ble_eq_true rfl) rfl ?_
                      refine qk_sg _ (t_p4) ?_
                      refine qk_goto C dX3_readToken_121 89 rfl ?_
                      exact ih_89 (f - 1) (j + 1) ⟨by omega, by omega, by omega, hj.2.2.2.trans (t_wd_t (by omega) ⟨hjt, c_108⟩)⟩ (by omega)
              exact lp_89 _ 121 i ⟨by omega, by omega, by omega, rfl⟩ (Nat.lt_succ_self _)
          · have hit2 : ¬ i < t := fun q => c_62 (nI_lt q (by omega))
            refine qk_aloadn C dX3_readToken_65 66 rfl rfl 0 rfl ?_
            refine qk_iconst C (0) dX3_readToken_66 67 rfl rfl ?_
            refine qk_put C .int dX3_readToken_67 70 rfl qf_X3_19 40 (by decide) rfl (fun q hq => by cases hq; rfl) rfl rfl (Nat.le_of_ble_eq_true rfl) rfl ?_
            refine qk_sg _ (t_p2) ?_
            refine qk_goto C dX3_readToken_70 243 rfl ?_
            exact hret _ _ _ dX3_readToken_243 ⟨rfl, by rw [hS, t_tk0 hit2]⟩
        · refine qk_aloadn C dX3_readToken_33 34 rfl rfl 0 rfl ?_
          refine qk_dup C dX3_readToken_34 35 rfl rfl ?_
          refine qk_get C dX3_readToken_35 38 rfl qf_X3_22 40 (by decide) rfl rfl ?_
          refine qk_cast (show _ = nI i from rfl) ?_
          refine qk_iconst C (1) dX3_readToken_38 39 rfl rfl ?_
          refine qk_iadd C dX3_readToken_39 40 rfl ?_
          refine qk_cast (nI_1 _) ?_
          refine qk_put C .int dX3_readToken_40 43 rfl qf_X3_22 40 (by decide) rfl (fun q hq => by cases hq; rfl) rfl rfl (Nat.le_of_ble_eq_true rfl) rfl ?_
          refine qk_sg _ (t_p3) ?_
          refine qk_goto C dX3_readToken_43 8 rfl ?_
          exact ih_8 (f - 1) (i + 1) ⟨by omega, by omega, hi.2.2.trans (t_sp_t (by omega) ⟨hit, c_30⟩)⟩ (by omega)
  exact lp_8 _ 121 p ⟨hp, by omega, rfl⟩ (Nat.lt_succ_self _)

