/-! the model: words of a bust -/
theorem c_X6_finding (l : Launch) (G : qx_G) (σ : qx_Sg) (x : Int32) (k : Nat) (hk : k < 7) (hx : -1000001 - x = nI k) : qx_Ct l G yX6_finding cX6_finding 2 (some .int) 0 0 [.ref (qx_ad G 53), .int x] (σ) (qx_pi (x) (m_fnd σ k)) := by
  refine qx_of .int (lo := [(0, .ref (qx_ad G 53)), (1, .int x)]) (by decide +kernel) (Nat.le_of_ble_eq_true rfl) rfl (fun Δ (C : qx_C G Δ cX6_finding RX6 2 0 0) hret => ?_)
  refine qk_aloadn C dX6_finding_0 1 rfl rfl 0 rfl ?_
  refine qk_get C dX6_finding_1 4 rfl qf_X6_19 53 (by decide) rfl rfl ?_
  refine qk_ldc C dX6_finding_4 6 rfl qw_947 ?_
  refine qk_iloadn C dX6_finding_6 7 rfl rfl 1 rfl ?_
  refine qk_isub C dX6_finding_7 8 rfl ?_
  refine qk_cast (hx) ?_
  refine qk_iconst C (1) dX6_finding_8 9 rfl rfl ?_
  refine qk_iadd C dX6_finding_9 10 rfl ?_
  refine qk_cast (nI_1 k) ?_
  refine qk_dup2 C dX6_finding_10 11 rfl rfl rfl ?_
  refine qk_iald C dX6_finding_11 12 rfl 57 (by decide) (fun _ => rfl) (k + 1) rfl (by omega) (by decide) ?_
  refine qk_iconst C (1) dX6_finding_12 13 rfl rfl ?_
  refine qk_iadd C dX6_finding_13 14 rfl ?_
  refine qk_iast C dX6_finding_14 15 rfl 57 (by decide) (fun _ => rfl) (k + 1) rfl (by omega) (by decide) ?_
  refine qk_aloadn C dX6_finding_15 16 rfl rfl 0 rfl ?_
  refine qk_get C dX6_finding_16 19 rfl qf_X6_19 53 (by decide) rfl rfl ?_
  refine qk_iconst C (0) dX6_finding_19 20 rfl rfl ?_
  refine qk_dup2 C dX6_finding_20 21 rfl rfl rfl ?_
  refine qk_iald C dX6_finding_21 22 rfl 57 (by decide) (fun _ => rfl) 0 rfl (by omega) (by decide) ?_
  refine qk_iconst C (1) dX6_finding_22 23 rfl rfl ?_
  refine qk_iadd C dX6_finding_23 24 rfl ?_
  refine qk_iast C dX6_finding_24 25 rfl 57 (by decide) (fun _ => rfl) 0 rfl (by omega) (by decide) ?_
  refine qk_sg _ (m_fnd_w) ?_
  refine qk_iloadn C dX6_finding_25 26 rfl rfl 1 rfl ?_
  exact hret _ _ _ _ dX6_finding_26 ⟨congrArg (fun x => some (Value.int x)) (by first | rfl | (simp []; done) | (simp []; decide) | (simp []; rfl) | (simp_all []; done)), rfl⟩ rfl

theorem c_X6_within (l : Launch) (G : qx_G) (σ : qx_Sg) (x a b : Int32) : qx_Ct l G yX6_within cX6_within 3 (some .boolean) 0 0 [.int x, .int a, .int b] (σ) (qx_pi (qb (¬ x < a ∧ ¬ b < x)) (σ)) := by
  refine qx_of .boolean (lo := [(0, .int x), (1, .int a), (2, .int b)]) (by decide +kernel) (Nat.le_of_ble_eq_true rfl) rfl (fun Δ (C : qx_C G Δ cX6_within RX6 3 0 0) hret => ?_)
  refine qk_iloadn C dX6_within_0 1 rfl rfl 0 rfl ?_
  refine qk_iloadn C dX6_within_1 2 rfl rfl 1 rfl ?_
  refine qk_icmp_lt C dX6_within_2 14 rfl 5 rfl (fun c_2 => ?_) (fun c_2 => ?_)
  · refine qk_iconst C (0) dX6_within_14 15 rfl rfl ?_
    exact hret _ _ _ _ dX6_within_15 ⟨congrArg (fun x => some (Value.int x)) ((qb_f (by first | exact ⟨c_2, c_7⟩ | exact fun q => q.1 c_2 | exact fun q => q.2 c_7)).symm), rfl⟩ rfl
  · refine qk_iloadn C dX6_within_5 6 rfl rfl 0 rfl ?_
    refine qk_iloadn C dX6_within_6 7 rfl rfl 2 rfl ?_
    refine qk_icmp_gt C dX6_within_7 14 rfl 10 rfl (fun c_7 => ?_) (fun c_7 => ?_)
    · refine qk_iconst C (0) dX6_within_14 15 rfl rfl ?_
      exact hret _ _ _ _ dX6_within_15 ⟨congrArg (fun x => some (Value.int x)) ((qb_f (by first | exact ⟨c_2, c_7⟩ | exact fun q => q.1 c_2 | exact fun q => q.2 c_7)).symm), rfl⟩ rfl
    · refine qk_iconst C (1) dX6_within_10 11 rfl rfl ?_
      refine qk_goto C dX6_within_11 15 rfl ?_
      exact hret _ _ _ _ dX6_within_15 ⟨congrArg (fun x => some (Value.int x)) ((qb_t (by first | exact ⟨c_2, c_7⟩ | exact fun q => q.1 c_2 | exact fun q => q.2 c_7)).symm), rfl⟩ rfl

theorem c_X6_become (l : Launch) (G : qx_G) (σ : qx_Sg) (v : Nat → Int32) (j : Nat) (hj : j < 88) (x : Int32) : qx_Ct l G yX6_become cX6_become 4 (some .int) 0 0 [.ref (qx_ad G 53), .int (nI j), .int x] (va_up σ 54 v) (qx_pi (v j) (va_up σ 54 (upd v j x))) := by
  refine qx_of .int (lo := [(0, .ref (qx_ad G 53)), (1, .int (nI j)), (2, .int x)]) (by decide +kernel) (Nat.le_of_ble_eq_true rfl) rfl (fun Δ (C : qx_C G Δ cX6_become RX6 4 0 0) hret => ?_)
  refine qk_aloadn C dX6_become_0 1 rfl rfl 0 rfl ?_
  refine qk_get C dX6_become_1 4 rfl qf_X6_9 53 (by decide) rfl rfl ?_
  refine qk_iloadn C dX6_become_4 5 rfl rfl 1 rfl ?_
  refine qk_iald C dX6_become_5 6 rfl 54 (by decide) (fun _ => rfl) (j) rfl (by omega) (by decide) ?_
  refine qk_cast (show _ = v (j) from rfl) ?_
  refine qk_istoren C dX6_become_6 7 rfl rfl (by decide) rfl ?_
  refine qk_aloadn C dX6_become_7 8 rfl rfl 1 rfl ?_
  refine qk_get C dX6_become_8 11 rfl qf_X6_9 53 (by decide) rfl rfl ?_
  refine qk_iloadn C dX6_become_11 12 rfl rfl 2 rfl ?_
  refine qk_iloadn C dX6_become_12 13 rfl rfl 3 rfl ?_
  refine qk_iast C dX6_become_13 14 rfl 54 (by decide) (fun _ => rfl) (j) rfl (by omega) (by decide) ?_
  refine qk_sg _ (m_w) ?_
  refine qk_iloadn C dX6_become_14 15 rfl rfl 0 rfl ?_
  exact hret _ _ _ _ dX6_become_15 ⟨congrArg (fun x => some (Value.int x)) (by first | rfl | (simp []; done) | (simp []; decide) | (simp []; rfl) | (simp_all []; done)), rfl⟩ rfl

theorem m_cp54 {σ : qx_Sg} {i : Nat} {a b : Nat → Int32} {k : Nat} : va_up (va_up σ k (fun j => if j < i then a j else b j)) k (upd (va_up σ k (fun j => if j < i then a j else b j) k) i (a i)) = va_up σ k (fun j => if j < i + 1 then a j else b j) := by
  rw [m_uu, qx_up_eq]
  congr 1
  funext j
  unfold upd
  by_cases e : j = i
  · simp [e]
  · rw [if_neg e]
    show (if j < i then a j else b j) = _
    by_cases h : j < i
    · rw [if_pos h, if_pos (by omega)]
    · rw [if_neg h, if_neg (by omega)]
theorem m_F88 {G : qx_G} {k : Nat} (h : k = 54 ∨ k = 55 ∨ k = 56) (r : Nat → Int32) : qx_F G k r = qx_ia G 88 r := by rcases h with rfl | rfl | rfl <;> rfl
theorem m_k65 {k : Nat} (h : k = 54 ∨ k = 55 ∨ k = 56) : k < 65 := by omega
theorem c_X6_copyRow (l : Launch) (G : qx_G) (σ : qx_Sg) (ka kb : Nat) (hka : ka = 54 ∨ ka = 55 ∨ ka = 56) (hkb : kb = 54 ∨ kb = 55 ∨ kb = 56) (hne : ¬ ka = kb) : qx_Ct l G yX6_copyRow cX6_copyRow 3 none 0 0 [.ref (qx_ad G ka), .ref (qx_ad G kb)] (σ) (qx_pv (va_up σ kb (σ ka))) := by
  refine qx_ofV (lo := [(0, .ref (qx_ad G ka)), (1, .ref (qx_ad G kb))]) (by decide +kernel) (Nat.le_of_ble_eq_true rfl) rfl (fun Δ (C : qx_C G Δ cX6_copyRow RX6 3 0 0) hret => ?_)
  refine qk_iconst C (nI 0) dX6_copyRow_0 1 rfl rfl ?_
  refine qk_istoren C dX6_copyRow_1 2 rfl rfl (by decide) rfl ?_
  have lp_2 : ∀ (n_2 : Nat) (i : Nat), i ≤ 88 → 88 - i < n_2 → qx_K l G Δ (va_up σ kb (fun j => if j < i then σ ka j else σ kb j)) 2 [(2, .int (nI i)), (0, .ref (qx_ad G ka)), (1, .ref (qx_ad G kb))] [] := by
    intro n_2
    induction n_2 with
    | zero => intro _ _ h9; exact absurd h9 (Nat.not_lt_zero _)
    | succ n_2 ih_2 =>
      intro i hi hm_2
      refine qk_iloadn C dX6_copyRow_2 3 rfl rfl 0 rfl ?_
      refine qk_bipush C (nI 88) dX6_copyRow_3 5 rfl rfl ?_
      refine qk_icmp_ge C dX6_copyRow_5 20 rfl 8 rfl (fun c_5 => ?_) (fun c_5 => ?_)
      · have h88 : 88 ≤ i := (nI_leI (by omega) (by omega)).mp c_5
        refine qk_cg (va_up σ kb (σ ka)) (fun k hk => by
          by_cases e : k = kb
          · subst e; rw [qx_up_eq, qx_up_eq, m_F88 hkb, m_F88 hkb]; exact qx_ia_ext (fun j hj => if_pos (by omega))
          · rw [qx_up_ne e, qx_up_ne e]) ?_
        exact hret _ _ _ dX6_copyRow_20 ⟨rfl, rfl⟩
      · have h88 : i < 88 := Nat.not_le.mp (fun q => c_5 (nI_le q (by omega)))
        refine qk_aloadn C dX6_copyRow_8 9 rfl rfl 2 rfl ?_
        refine qk_iloadn C dX6_copyRow_9 10 rfl rfl 0 rfl ?_
        refine qk_aloadn C dX6_copyRow_10 11 rfl rfl 1 rfl ?_
        refine qk_iloadn C dX6_copyRow_11 12 rfl rfl 0 rfl ?_
        refine qk_iald C dX6_copyRow_12 13 rfl ka (m_k65 hka) (m_F88 hka) i rfl h88 (by decide) ?_
        refine qk_cast (show _ = σ ka i from by rw [qx_up_ne hne]) ?_
        refine qk_iast C dX6_copyRow_13 14 rfl kb (m_k65 hkb) (m_F88 hkb) i rfl h88 (by decide) ?_
        refine qk_sg _ (m_cp54) ?_
        refine qk_iinc C (nI (i + 1)) dX6_copyRow_14 17 rfl 0 rfl (nI_1 i) (by decide) rfl ?_
        refine qk_goto C dX6_copyRow_17 2 rfl ?_
        exact ih_2 (i + 1) (by omega) (by omega)
  refine qk_sg (va_up σ kb (fun j => if j < 0 then σ ka j else σ kb j)) (by funext k j; unfold va_up; by_cases e : k = kb <;> simp [e]) ?_
  exact lp_2 _ 0 (by omega) (Nat.lt_succ_self _)

theorem c_X6_putBack (l : Launch) (G : qx_G) (σ : qx_Sg) (x : Int32) : qx_Ct l G yX6_putBack cX6_putBack 2 (some .int) 1 22 [.ref (qx_ad G 53), .int x] (σ) (qx_pi (x) (va_up σ 54 (σ 56))) := by
  refine qx_of .int (lo := [(0, .ref (qx_ad G 53)), (1, .int x)]) (by decide +kernel) (Nat.le_of_ble_eq_true rfl) rfl (fun Δ (C : qx_C G Δ cX6_putBack RX6 2 1 22) hret => ?_)
  refine qk_aloadn C dX6_putBack_0 1 rfl rfl 0 rfl ?_
  refine qk_get C dX6_putBack_1 4 rfl qf_X6_16 53 (by decide) rfl rfl ?_
  refine qk_aloadn C dX6_putBack_4 5 rfl rfl 0 rfl ?_
  refine qk_get C dX6_putBack_5 8 rfl qf_X6_9 53 (by decide) rfl rfl ?_
  refine qk_callS C dX6_putBack_8 11 rfl ql_X6_61 qc_X6_copyRow (c_X6_copyRow l G _ 56 54 (Or.inr (Or.inr rfl)) (Or.inl rfl) (by decide)) rfl rfl (Nat.le_of_ble_eq_true rfl) ⟨(Nat.le_of_ble_eq_true rfl), (Nat.le_of_ble_eq_true rfl)⟩ (qx_Kv ?_)
  refine qk_iloadn C dX6_putBack_11 12 rfl rfl 1 rfl ?_
  exact hret _ _ _ _ dX6_putBack_12 ⟨congrArg (fun x => some (Value.int x)) (by first | rfl | (simp []; done) | (simp []; decide) | (simp []; rfl) | (simp_all []; done)), rfl⟩ rfl

theorem c_X6_orNone (l : Launch) (G : qx_G) (σ : qx_Sg) (o : Option Nat) (ho : ∀ b, o = some b → b < 2 ^ 31) : qx_Ct l G yX6_orNone cX6_orNone 2 (some .int) 1 21 [.ref (qx_ad G 53), .int (z_oi o)] (σ) (qx_pi (m_oi o) (m_ow σ o)) := by
  refine qx_of .int (lo := [(0, .ref (qx_ad G 53)), (1, .int (z_oi o))]) (by decide +kernel) (Nat.le_of_ble_eq_true rfl) rfl (fun Δ (C : qx_C G Δ cX6_orNone RX6 2 1 21) hret => ?_)
  refine qk_iloadn C dX6_orNone_0 1 rfl rfl 1 rfl ?_
  rcases o with _ | b
  · refine qk_if_ge C dX6_orNone_1 13 rfl 4 rfl (fun c => absurd c (by decide)) (fun _ => ?_)
    refine qk_aloadn C dX6_orNone_4 5 rfl rfl 0 rfl ?_
    refine qk_ldc C dX6_orNone_5 7 rfl qw_1064 ?_
    refine qk_callV C dX6_orNone_7 10 rfl ql_X6_66 qc_X6_finding 53 (by decide) rfl rfl (c_X6_finding l G _ _ 3 (by decide) (by decide)) rfl rfl (Nat.le_of_ble_eq_true rfl) ⟨(Nat.le_of_ble_eq_true rfl), (Nat.le_of_ble_eq_true rfl)⟩ (qx_Ki ?_)
    refine qk_goto C dX6_orNone_10 14 rfl ?_
    exact hret _ _ _ _ dX6_orNone_14 ⟨congrArg (fun x => some (Value.int x)) (by first | rfl | (simp []; done) | (simp []; decide) | (simp []; rfl) | (simp_all []; done)), rfl⟩ rfl
  · have hb := ho b rfl
    refine qk_if_ge C dX6_orNone_1 13 rfl 4 rfl (fun c_1 => ?_) (fun c_1 => absurd (nI_pos' hb) c_1)
    refine qk_iloadn C dX6_orNone_13 14 rfl rfl 1 rfl ?_
    exact hret _ _ _ _ dX6_orNone_14 ⟨congrArg (fun x => some (Value.int x)) (by first | rfl | (simp [c_1]; done) | (simp [c_1]; decide) | (simp [c_1]; rfl) | (simp_all []; done)), rfl⟩ rfl

theorem c_X6_bits (l : Launch) (G : qx_G) (σ : qx_Sg) (x : Int32) (hx : ∃ n, n < 8192 ∧ x = nI n) : qx_Ct l G yX6_bits cX6_bits 3 (some .int) 0 0 [.int x] (σ) (qx_pi (z_bc x) (σ)) := by
  refine qx_of .int (lo := [(0, .int x)]) (by decide +kernel) (Nat.le_of_ble_eq_true rfl) rfl (fun Δ (C : qx_C G Δ cX6_bits RX6 3 0 0) hret => ?_)
  obtain ⟨n, hn, rfl⟩ := hx
  have hB := m_bits hn
  refine qk_iconst C (0) dX6_bits_0 1 rfl rfl ?_
  refine qk_istoren C dX6_bits_1 2 rfl rfl (by decide) rfl ?_
  refine qk_iloadn C dX6_bits_2 3 rfl rfl 1 rfl ?_
  refine qk_istoren C dX6_bits_3 4 rfl rfl (by decide) rfl ?_
  have lp_4 : ∀ (n_4 : Nat) (f : Nat) (y a : Int32), (m_bk f y = true ∧ a + m_bt f y = z_bc (nI n)) → f < n_4 → qx_K l G Δ (σ) 4 [(2, .int y), (1, .int a), (0, .int (nI n))] [] := by
    intro n_4
    induction n_4 with
    | zero => intro _ _ _ _ h9; exact absurd h9 (Nat.not_lt_zero _)
    | succ n_4 ih_4 =>
      intro f y a hi hm_4
      refine qk_iloadn C dX6_bits_4 5 rfl rfl 0 rfl ?_
      refine qk_if_eq C dX6_bits_5 20 rfl 8 rfl (fun c_5 => ?_) (fun c_5 => ?_)
      · refine qk_iloadn C dX6_bits_20 21 rfl rfl 1 rfl ?_
        exact hret _ _ _ _ dX6_bits_21 ⟨congrArg (fun x => some (Value.int x)) (by have h2 := hi.2; rw [c_5, m_bt_0] at h2; rw [← h2]; exact (Int32.add_zero _).symm), rfl⟩ rfl
      · have hf0 : 0 < f := by
          cases f with
          | zero => exact absurd (beq_iff_eq.mp hi.1) c_5
          | succ f => omega
        refine qk_iinc C _ dX6_bits_8 11 rfl 1 rfl rfl (by decide) rfl ?_
        refine qk_iloadn C dX6_bits_11 12 rfl rfl 1 rfl ?_
        refine qk_iloadn C dX6_bits_12 13 rfl rfl 1 rfl ?_
        refine qk_iconst C (1) dX6_bits_13 14 rfl rfl ?_
        refine qk_isub C dX6_bits_14 15 rfl ?_
        refine qk_iand C dX6_bits_15 16 rfl ?_
        refine qk_istoren C dX6_bits_16 17 rfl rfl (by decide) rfl ?_
        refine qk_goto C dX6_bits_17 4 rfl ?_
        exact ih_4 (f - 1) _ _ (by
            cases f with
            | zero => exact absurd (beq_iff_eq.mp hi.1) c_5
            | succ f =>
              obtain ⟨h1, h2⟩ := hi
              rw [show m_bk (f + 1) y = m_bk f (y &&& (y - 1)) from if_neg c_5] at h1
              rw [show m_bt (f + 1) y = 1 + m_bt f (y &&& (y - 1)) from if_neg c_5] at h2
              exact ⟨h1, by rw [← h2, Int32.add_assoc]; rfl⟩) (by omega)
  exact lp_4 _ 13 _ _ ⟨hB.1, by rw [hB.2]; exact Int32.zero_add _⟩ (Nat.lt_succ_self _)

theorem c_X6_isPart (l : Launch) (G : qx_G) (σ : qx_Sg) (x : Int32) : qx_Ct l G yX6_isPart cX6_isPart 1 (some .boolean) 1 22 [.int x] (σ) (qx_pi (qb (z_in x 11)) (σ)) := by
  refine qx_of .boolean (lo := [(0, .int x)]) (by decide +kernel) (Nat.le_of_ble_eq_true rfl) rfl (fun Δ (C : qx_C G Δ cX6_isPart RX6 1 1 22) hret => ?_)
  refine qk_iloadn C dX6_isPart_0 1 rfl rfl 0 rfl ?_
  refine qk_iconst C (0) dX6_isPart_1 2 rfl rfl ?_
  refine qk_bipush C (11) dX6_isPart_2 4 rfl rfl ?_
  refine qk_callS C dX6_isPart_4 7 rfl ql_X6_70 qc_X6_within (c_X6_within l G _ _ _ _) rfl rfl (Nat.le_of_ble_eq_true rfl) ⟨(Nat.le_of_ble_eq_true rfl), (Nat.le_of_ble_eq_true rfl)⟩ (qx_Ki ?_)
  exact hret _ _ _ _ dX6_isPart_7 ⟨congrArg (fun x => some (Value.int x)) (rfl), rfl⟩ (qb_nar _)

theorem c_X6_isBequest (l : Launch) (G : qx_G) (σ : qx_Sg) (x : Int32) : qx_Ct l G yX6_isBequest cX6_isBequest 1 (some .boolean) 1 22 [.int x] (σ) (qx_pi (qb (z_in x 12)) (σ)) := by
  refine qx_of .boolean (lo := [(0, .int x)]) (by decide +kernel) (Nat.le_of_ble_eq_true rfl) rfl (fun Δ (C : qx_C G Δ cX6_isBequest RX6 1 1 22) hret => ?_)
  refine qk_iloadn C dX6_isBequest_0 1 rfl rfl 0 rfl ?_
  refine qk_iconst C (0) dX6_isBequest_1 2 rfl rfl ?_
  refine qk_bipush C (12) dX6_isBequest_2 4 rfl rfl ?_
  refine qk_callS C dX6_isBequest_4 7 rfl ql_X6_70 qc_X6_within (c_X6_within l G _ _ _ _) rfl rfl (Nat.le_of_ble_eq_true rfl) ⟨(Nat.le_of_ble_eq_true rfl), (Nat.le_of_ble_eq_true rfl)⟩ (qx_Ki ?_)
  exact hret _ _ _ _ dX6_isBequest_7 ⟨congrArg (fun x => some (Value.int x)) (rfl), rfl⟩ (qb_nar _)

theorem c_X6_isPlace (l : Launch) (G : qx_G) (σ : qx_Sg) (x : Int32) : qx_Ct l G yX6_isPlace cX6_isPlace 1 (some .boolean) 1 22 [.int x] (σ) (qx_pi (qb (z_in x 5)) (σ)) := by
  refine qx_of .boolean (lo := [(0, .int x)]) (by decide +kernel) (Nat.le_of_ble_eq_true rfl) rfl (fun Δ (C : qx_C G Δ cX6_isPlace RX6 1 1 22) hret => ?_)
  refine qk_iloadn C dX6_isPlace_0 1 rfl rfl 0 rfl ?_
  refine qk_iconst C (0) dX6_isPlace_1 2 rfl rfl ?_
  refine qk_iconst C (5) dX6_isPlace_2 3 rfl rfl ?_
  refine qk_callS C dX6_isPlace_3 6 rfl ql_X6_70 qc_X6_within (c_X6_within l G _ _ _ _) rfl rfl (Nat.le_of_ble_eq_true rfl) ⟨(Nat.le_of_ble_eq_true rfl), (Nat.le_of_ble_eq_true rfl)⟩ (qx_Ki ?_)
  exact hret _ _ _ _ dX6_isPlace_6 ⟨congrArg (fun x => some (Value.int x)) (rfl), rfl⟩ (qb_nar _)

theorem c_X6_isKind (l : Launch) (G : qx_G) (σ : qx_Sg) (x : Int32) : qx_Ct l G yX6_isKind cX6_isKind 1 (some .boolean) 1 22 [.int x] (σ) (qx_pi (qb (z_in x 6)) (σ)) := by
  refine qx_of .boolean (lo := [(0, .int x)]) (by decide +kernel) (Nat.le_of_ble_eq_true rfl) rfl (fun Δ (C : qx_C G Δ cX6_isKind RX6 1 1 22) hret => ?_)
  refine qk_iloadn C dX6_isKind_0 1 rfl rfl 0 rfl ?_
  refine qk_iconst C (0) dX6_isKind_1 2 rfl rfl ?_
  refine qk_bipush C (6) dX6_isKind_2 4 rfl rfl ?_
  refine qk_callS C dX6_isKind_4 7 rfl ql_X6_70 qc_X6_within (c_X6_within l G _ _ _ _) rfl rfl (Nat.le_of_ble_eq_true rfl) ⟨(Nat.le_of_ble_eq_true rfl), (Nat.le_of_ble_eq_true rfl)⟩ (qx_Ki ?_)
  exact hret _ _ _ _ dX6_isKind_7 ⟨congrArg (fun x => some (Value.int x)) (rfl), rfl⟩ (qb_nar _)

theorem c_X6_isDate (l : Launch) (G : qx_G) (σ : qx_Sg) (x : Int32) : qx_Ct l G yX6_isDate cX6_isDate 1 (some .boolean) 1 22 [.int x] (σ) (qx_pi (qb (z_in x 999)) (σ)) := by
  refine qx_of .boolean (lo := [(0, .int x)]) (by decide +kernel) (Nat.le_of_ble_eq_true rfl) rfl (fun Δ (C : qx_C G Δ cX6_isDate RX6 1 1 22) hret => ?_)
  refine qk_iloadn C dX6_isDate_0 1 rfl rfl 0 rfl ?_
  refine qk_iconst C (0) dX6_isDate_1 2 rfl rfl ?_
  refine qk_sipush C (999) dX6_isDate_2 5 rfl rfl ?_
  refine qk_callS C dX6_isDate_5 8 rfl ql_X6_70 qc_X6_within (c_X6_within l G _ _ _ _) rfl rfl (Nat.le_of_ble_eq_true rfl) ⟨(Nat.le_of_ble_eq_true rfl), (Nat.le_of_ble_eq_true rfl)⟩ (qx_Ki ?_)
  exact hret _ _ _ _ dX6_isDate_8 ⟨congrArg (fun x => some (Value.int x)) (rfl), rfl⟩ (qb_nar _)

theorem c_X6_isThought (l : Launch) (G : qx_G) (σ : qx_Sg) (x : Int32) : qx_Ct l G yX6_isThought cX6_isThought 1 (some .boolean) 1 22 [.int x] (σ) (qx_pi (qb (z_in x 60)) (σ)) := by
  refine qx_of .boolean (lo := [(0, .int x)]) (by decide +kernel) (Nat.le_of_ble_eq_true rfl) rfl (fun Δ (C : qx_C G Δ cX6_isThought RX6 1 1 22) hret => ?_)
  refine qk_iloadn C dX6_isThought_0 1 rfl rfl 0 rfl ?_
  refine qk_iconst C (0) dX6_isThought_1 2 rfl rfl ?_
  refine qk_bipush C (60) dX6_isThought_2 4 rfl rfl ?_
  refine qk_callS C dX6_isThought_4 7 rfl ql_X6_70 qc_X6_within (c_X6_within l G _ _ _ _) rfl rfl (Nat.le_of_ble_eq_true rfl) ⟨(Nat.le_of_ble_eq_true rfl), (Nat.le_of_ble_eq_true rfl)⟩ (qx_Ki ?_)
  exact hret _ _ _ _ dX6_isThought_7 ⟨congrArg (fun x => some (Value.int x)) (rfl), rfl⟩ (qb_nar _)

theorem c_X6_isSpot (l : Launch) (G : qx_G) (σ : qx_Sg) (x : Int32) : qx_Ct l G yX6_isSpot cX6_isSpot 1 (some .boolean) 1 22 [.int x] (σ) (qx_pi (qb (z_in x 9)) (σ)) := by
  refine qx_of .boolean (lo := [(0, .int x)]) (by decide +kernel) (Nat.le_of_ble_eq_true rfl) rfl (fun Δ (C : qx_C G Δ cX6_isSpot RX6 1 1 22) hret => ?_)
  refine qk_iloadn C dX6_isSpot_0 1 rfl rfl 0 rfl ?_
  refine qk_iconst C (0) dX6_isSpot_1 2 rfl rfl ?_
  refine qk_bipush C (9) dX6_isSpot_2 4 rfl rfl ?_
  refine qk_callS C dX6_isSpot_4 7 rfl ql_X6_70 qc_X6_within (c_X6_within l G _ _ _ _) rfl rfl (Nat.le_of_ble_eq_true rfl) ⟨(Nat.le_of_ble_eq_true rfl), (Nat.le_of_ble_eq_true rfl)⟩ (qx_Ki ?_)
  exact hret _ _ _ _ dX6_isSpot_7 ⟨congrArg (fun x => some (Value.int x)) (rfl), rfl⟩ (qb_nar _)

theorem c_X6_isSheet (l : Launch) (G : qx_G) (σ : qx_Sg) (x : Int32) : qx_Ct l G yX6_isSheet cX6_isSheet 1 (some .boolean) 1 22 [.int x] (σ) (qx_pi (qb (z_in x 3)) (σ)) := by
  refine qx_of .boolean (lo := [(0, .int x)]) (by decide +kernel) (Nat.le_of_ble_eq_true rfl) rfl (fun Δ (C : qx_C G Δ cX6_isSheet RX6 1 1 22) hret => ?_)
  refine qk_iloadn C dX6_isSheet_0 1 rfl rfl 0 rfl ?_
  refine qk_iconst C (0) dX6_isSheet_1 2 rfl rfl ?_
  refine qk_iconst C (3) dX6_isSheet_2 3 rfl rfl ?_
  refine qk_callS C dX6_isSheet_3 6 rfl ql_X6_70 qc_X6_within (c_X6_within l G _ _ _ _) rfl rfl (Nat.le_of_ble_eq_true rfl) ⟨(Nat.le_of_ble_eq_true rfl), (Nat.le_of_ble_eq_true rfl)⟩ (qx_Ki ?_)
  exact hret _ _ _ _ dX6_isSheet_6 ⟨congrArg (fun x => some (Value.int x)) (rfl), rfl⟩ (qb_nar _)

theorem c_X6_bustAt (l : Launch) (G : qx_G) (σ : qx_Sg) (i f : Nat) (hi : i < 10) (hf : f < 7) : qx_Ct l G yX6_bustAt cX6_bustAt 2 (some .int) 0 0 [.int (nI i), .int (nI f)] (σ) (qx_pi (nI (32 + 7 * i + f)) (σ)) := by
  refine qx_of .int (lo := [(0, .int (nI i)), (1, .int (nI f))]) (by decide +kernel) (Nat.le_of_ble_eq_true rfl) rfl (fun Δ (C : qx_C G Δ cX6_bustAt RX6 2 0 0) hret => ?_)
  refine qk_bipush C (32) dX6_bustAt_0 2 rfl rfl ?_
  refine qk_bipush C (7) dX6_bustAt_2 4 rfl rfl ?_
  refine qk_iloadn C dX6_bustAt_4 5 rfl rfl 0 rfl ?_
  refine qk_imul C dX6_bustAt_5 6 rfl ?_
  refine qk_iadd C dX6_bustAt_6 7 rfl ?_
  refine qk_iloadn C dX6_bustAt_7 8 rfl rfl 1 rfl ?_
  refine qk_iadd C dX6_bustAt_8 9 rfl ?_
  exact hret _ _ _ _ dX6_bustAt_9 ⟨congrArg (fun x => some (Value.int x)) (m_at hi hf), rfl⟩ rfl

theorem c_X6_bustIs (l : Launch) (G : qx_G) (σ : qx_Sg) (v : Nat → Int32) (i f : Nat) (hi : i < 8) (hf : f < 7) : qx_Ct l G yX6_bustIs cX6_bustIs 3 (some .int) 1 21 [.ref (qx_ad G 53), .int (nI i), .int (nI f)] (va_up σ 54 v) (qx_pi (v (32 + 7 * i + f)) (va_up σ 54 v)) := by
  refine qx_of .int (lo := [(0, .ref (qx_ad G 53)), (1, .int (nI i)), (2, .int (nI f))]) (by decide +kernel) (Nat.le_of_ble_eq_true rfl) rfl (fun Δ (C : qx_C G Δ cX6_bustIs RX6 3 1 21) hret => ?_)
  refine qk_aloadn C dX6_bustIs_0 1 rfl rfl 0 rfl ?_
  refine qk_get C dX6_bustIs_1 4 rfl qf_X6_9 53 (by decide) rfl rfl ?_
  refine qk_iloadn C dX6_bustIs_4 5 rfl rfl 1 rfl ?_
  refine qk_iloadn C dX6_bustIs_5 6 rfl rfl 2 rfl ?_
  refine qk_callS C dX6_bustIs_6 9 rfl ql_X6_88 qc_X6_bustAt (c_X6_bustAt l G _ i f (by omega) (by omega)) rfl rfl (Nat.le_of_ble_eq_true rfl) ⟨(Nat.le_of_ble_eq_true rfl), (Nat.le_of_ble_eq_true rfl)⟩ (qx_Ki ?_)
  refine qk_iald C dX6_bustIs_9 10 rfl 54 (by decide) (fun _ => rfl) (32 + 7 * i + f) rfl (by omega) (by decide) ?_
  refine qk_cast (show _ = v (32 + 7 * i + f) from rfl) ?_
  exact hret _ _ _ _ dX6_bustIs_10 ⟨congrArg (fun x => some (Value.int x)) (by first | rfl | (simp []; done) | (simp []; decide) | (simp []; rfl) | (simp_all []; done)), rfl⟩ rfl

theorem c_X6_isBust (l : Launch) (G : qx_G) (σ : qx_Sg) (N : Nat) (v : Nat → Int32) (hI : qv_ok v N) (b : Int32) : qx_Ct l G yX6_isBust cX6_isBust 2 (some .boolean) 1 22 [.ref (qx_ad G 53), .int b] (va_up σ 54 v) (qx_pi (qb (z_ib N b)) (va_up σ 54 v)) := by
  refine qx_of .boolean (lo := [(0, .ref (qx_ad G 53)), (1, .int b)]) (by decide +kernel) (Nat.le_of_ble_eq_true rfl) rfl (fun Δ (C : qx_C G Δ cX6_isBust RX6 2 1 22) hret => ?_)
  have hN8 := hI.1
  have hN1 := hI.2.1
  refine qk_iloadn C dX6_isBust_0 1 rfl rfl 1 rfl ?_
  refine qk_iconst C (0) dX6_isBust_1 2 rfl rfl ?_
  refine qk_aloadn C dX6_isBust_2 3 rfl rfl 0 rfl ?_
  refine qk_get C dX6_isBust_3 6 rfl qf_X6_9 53 (by decide) rfl rfl ?_
  refine qk_iconst C (1) dX6_isBust_6 7 rfl rfl ?_
  refine qk_iald C dX6_isBust_7 8 rfl 54 (by decide) (fun _ => rfl) 1 rfl (by omega) (by decide) ?_
  refine qk_cast (hN1) ?_
  refine qk_iconst C (1) dX6_isBust_8 9 rfl rfl ?_
  refine qk_isub C dX6_isBust_9 10 rfl ?_
  refine qk_callS C dX6_isBust_10 13 rfl ql_X6_70 qc_X6_within (c_X6_within l G _ _ _ _) rfl rfl (Nat.le_of_ble_eq_true rfl) ⟨(Nat.le_of_ble_eq_true rfl), (Nat.le_of_ble_eq_true rfl)⟩ (qx_Ki ?_)
  exact hret _ _ _ _ dX6_isBust_13 ⟨congrArg (fun x => some (Value.int x)) (qb_iff (z_ib_m1 hN8)), rfl⟩ (qb_nar _)

theorem c_X6_has (l : Launch) (G : qx_G) (σ : qx_Sg) (v : Nat → Int32) (b : Nat) (hb : b < 8) (p : Int32) : qx_Ct l G yX6_has cX6_has 3 (some .boolean) 2 43 [.ref (qx_ad G 53), .int (nI b), .int p] (va_up σ 54 v) (qx_pi (qb (z_hs (v (32 + 7 * b + 2)) p)) (va_up σ 54 v)) := by
  refine qx_of .boolean (lo := [(0, .ref (qx_ad G 53)), (1, .int (nI b)), (2, .int p)]) (by decide +kernel) (Nat.le_of_ble_eq_true rfl) rfl (fun Δ (C : qx_C G Δ cX6_has RX6 3 2 43) hret => ?_)
  refine qk_aloadn C dX6_has_0 1 rfl rfl 0 rfl ?_
  refine qk_iloadn C dX6_has_1 2 rfl rfl 1 rfl ?_
  refine qk_iconst C (2) dX6_has_2 3 rfl rfl ?_
  refine qk_callV C dX6_has_3 6 rfl ql_X6_101 qc_X6_bustIs 53 (by decide) rfl rfl (c_X6_bustIs l G σ v b 2 (by omega) (by omega)) rfl rfl (Nat.le_of_ble_eq_true rfl) ⟨(Nat.le_of_ble_eq_true rfl), (Nat.le_of_ble_eq_true rfl)⟩ (qx_Ki ?_)
  refine qk_iloadn C dX6_has_6 7 rfl rfl 2 rfl ?_
  refine qk_ishr C dX6_has_7 8 rfl ?_
  refine qk_iconst C (1) dX6_has_8 9 rfl rfl ?_
  refine qk_iand C dX6_has_9 10 rfl ?_
  refine qk_iconst C (1) dX6_has_10 11 rfl rfl ?_
  refine qk_icmp_ne C dX6_has_11 18 rfl 14 rfl (fun c_11 => ?_) (fun c_11 => ?_)
  · refine qk_iconst C (0) dX6_has_18 19 rfl rfl ?_
    exact hret _ _ _ _ dX6_has_19 ⟨congrArg (fun x => some (Value.int x)) ((qb_f (c_11)).symm), rfl⟩ rfl
  · refine qk_iconst C (1) dX6_has_14 15 rfl rfl ?_
    refine qk_goto C dX6_has_15 19 rfl ?_
    exact hret _ _ _ _ dX6_has_19 ⟨congrArg (fun x => some (Value.int x)) ((qb_t (c_11)).symm), rfl⟩ rfl

theorem c_X6_isGone (l : Launch) (G : qx_G) (σ : qx_Sg) (v : Nat → Int32) (b : Nat) (hb : b < 8) : qx_Ct l G yX6_isGone cX6_isGone 2 (some .boolean) 2 43 [.ref (qx_ad G 53), .int (nI b)] (va_up σ 54 v) (qx_pi (qb (v (32 + 7 * b + 6) = 1)) (va_up σ 54 v)) := by
  refine qx_of .boolean (lo := [(0, .ref (qx_ad G 53)), (1, .int (nI b))]) (by decide +kernel) (Nat.le_of_ble_eq_true rfl) rfl (fun Δ (C : qx_C G Δ cX6_isGone RX6 2 2 43) hret => ?_)
  refine qk_aloadn C dX6_isGone_0 1 rfl rfl 0 rfl ?_
  refine qk_iloadn C dX6_isGone_1 2 rfl rfl 1 rfl ?_
  refine qk_bipush C (6) dX6_isGone_2 4 rfl rfl ?_
  refine qk_callV C dX6_isGone_4 7 rfl ql_X6_101 qc_X6_bustIs 53 (by decide) rfl rfl (c_X6_bustIs l G σ v b 6 (by omega) (by omega)) rfl rfl (Nat.le_of_ble_eq_true rfl) ⟨(Nat.le_of_ble_eq_true rfl), (Nat.le_of_ble_eq_true rfl)⟩ (qx_Ki ?_)
  refine qk_iconst C (1) dX6_isGone_7 8 rfl rfl ?_
  refine qk_icmp_ne C dX6_isGone_8 15 rfl 11 rfl (fun c_8 => ?_) (fun c_8 => ?_)
  · refine qk_iconst C (0) dX6_isGone_15 16 rfl rfl ?_
    exact hret _ _ _ _ dX6_isGone_16 ⟨congrArg (fun x => some (Value.int x)) ((qb_f (c_8)).symm), rfl⟩ rfl
  · refine qk_iconst C (1) dX6_isGone_11 12 rfl rfl ?_
    refine qk_goto C dX6_isGone_12 16 rfl ?_
    exact hret _ _ _ _ dX6_isGone_16 ⟨congrArg (fun x => some (Value.int x)) ((qb_t (c_8)).symm), rfl⟩ rfl

theorem c_X6_likes (l : Launch) (G : qx_G) (σ : qx_Sg) (v : Nat → Int32) (b : Nat) (hb : b < 8) (p : Int32) : qx_Ct l G yX6_likes cX6_likes 4 (some .boolean) 3 65 [.ref (qx_ad G 53), .int (nI b), .int p] (va_up σ 54 v) (qx_pi (qb (z_lk (v (32 + 7 * b + 0)) (v (32 + 7 * b + 2)) p)) (va_up σ 54 v)) := by
  refine qx_of .boolean (lo := [(0, .ref (qx_ad G 53)), (1, .int (nI b)), (2, .int p)]) (by decide +kernel) (Nat.le_of_ble_eq_true rfl) rfl (fun Δ (C : qx_C G Δ cX6_likes RX6 4 3 65) hret => ?_)
  refine qk_iloadn C dX6_likes_0 1 rfl rfl 2 rfl ?_
  refine qk_if_le C dX6_likes_1 19 rfl 4 rfl (fun c_1 => ?_) (fun c_1 => ?_)
  · refine qk_iconst C (0) dX6_likes_19 20 rfl rfl ?_
    refine qk_istoren C dX6_likes_20 21 rfl rfl (by decide) rfl ?_
    refine qk_aloadn C dX6_likes_21 22 rfl rfl 1 rfl ?_
    refine qk_iloadn C dX6_likes_22 23 rfl rfl 2 rfl ?_
    refine qk_iconst C (0) dX6_likes_23 24 rfl rfl ?_
    refine qk_callV C dX6_likes_24 27 rfl ql_X6_101 qc_X6_bustIs 53 (by decide) rfl rfl (c_X6_bustIs l G σ v b 0 (by omega) (by omega)) rfl rfl (Nat.le_of_ble_eq_true rfl) ⟨(Nat.le_of_ble_eq_true rfl), (Nat.le_of_ble_eq_true rfl)⟩ (qx_Ki ?_)
    refine qk_eqc (1) (fun c_27_1 => ?_) (fun c_27_1 => ?_)
    · refine qk_tableIn C dX6_likes_27 (1) c_27_1 (by decide) (by decide) rfl 64 rfl ?_
      refine qk_iloadn C dX6_likes_64 65 rfl rfl 0 rfl ?_
      refine qk_if_ne C dX6_likes_65 74 rfl 68 rfl (fun c => absurd rfl c) (fun _ => ?_)
      refine qk_iloadn C dX6_likes_68 69 rfl rfl 3 rfl ?_
      refine qk_iconst C (2) dX6_likes_69 70 rfl rfl ?_
      refine qk_irem C dX6_likes_70 71 rfl (by decide) ?_
      refine qk_if_ne C dX6_likes_71 78 rfl 74 rfl (fun c_71 => ?_) (fun c_71 => ?_)
      · refine qk_iconst C (0) dX6_likes_78 79 rfl rfl ?_
        exact hret _ _ _ _ dX6_likes_79 ⟨congrArg (fun x => some (Value.int x)) ((qb_f (by first | (simp [z_tk, z_lk, z_pl, z_ev, c_1, c_27_1, c_71]; done) | (simp_all [z_tk, z_lk, z_pl, z_ev]; done))).symm), rfl⟩ rfl
      · refine qk_iconst C (1) dX6_likes_74 75 rfl rfl ?_
        refine qk_goto C dX6_likes_75 79 rfl ?_
        exact hret _ _ _ _ dX6_likes_79 ⟨congrArg (fun x => some (Value.int x)) ((qb_t (by first | (simp [z_tk, z_lk, z_pl, z_ev, c_1, c_27_1, c_71]; done) | (simp_all [z_tk, z_lk, z_pl, z_ev]; done))).symm), rfl⟩ rfl
    refine qk_eqc (2) (fun c_27_2 => ?_) (fun c_27_2 => ?_)
    · refine qk_tableIn C dX6_likes_27 (2) c_27_2 (by decide) (by decide) rfl 102 rfl ?_
      refine qk_iloadn C dX6_likes_102 103 rfl rfl 0 rfl ?_
      refine qk_if_eq C dX6_likes_103 115 rfl 106 rfl (fun _ => ?_) (fun c => absurd rfl c)
      refine qk_iconst C (0) dX6_likes_115 116 rfl rfl ?_
      exact hret _ _ _ _ dX6_likes_116 ⟨congrArg (fun x => some (Value.int x)) ((qb_f (by first | (simp [z_tk, z_lk, z_pl, z_ev, c_1, c_27_1, c_27_2]; done) | (simp_all [z_tk, z_lk, z_pl, z_ev]; done))).symm), rfl⟩ rfl
    refine qk_eqc (3) (fun c_27_3 => ?_) (fun c_27_3 => ?_)
    · refine qk_tableIn C dX6_likes_27 (3) c_27_3 (by decide) (by decide) rfl 117 rfl ?_
      refine qk_iloadn C dX6_likes_117 118 rfl rfl 0 rfl ?_
      refine qk_if_eq C dX6_likes_118 126 rfl 121 rfl (fun _ => ?_) (fun c => absurd rfl c)
      refine qk_iloadn C dX6_likes_126 127 rfl rfl 3 rfl ?_
      refine qk_iconst C (3) dX6_likes_127 128 rfl rfl ?_
      refine qk_icmp_ne C dX6_likes_128 135 rfl 131 rfl (fun c_128 => ?_) (fun c_128 => ?_)
      · refine qk_iconst C (0) dX6_likes_135 136 rfl rfl ?_
        exact hret _ _ _ _ dX6_likes_136 ⟨congrArg (fun x => some (Value.int x)) ((qb_f (by first | (simp [z_tk, z_lk, z_pl, z_ev, c_1, c_27_1, c_27_2, c_27_3, c_128]; done) | (simp_all [z_tk, z_lk, z_pl, z_ev]; done))).symm), rfl⟩ rfl
      · refine qk_iconst C (1) dX6_likes_131 132 rfl rfl ?_
        refine qk_goto C dX6_likes_132 136 rfl ?_
        exact hret _ _ _ _ dX6_likes_136 ⟨congrArg (fun x => some (Value.int x)) ((qb_t (by first | (simp [z_tk, z_lk, z_pl, z_ev, c_1, c_27_1, c_27_2, c_27_3, c_128]; done) | (simp_all [z_tk, z_lk, z_pl, z_ev]; done))).symm), rfl⟩ rfl
    refine qk_eqc (4) (fun c_27_4 => ?_) (fun c_27_4 => ?_)
    · refine qk_tableIn C dX6_likes_27 (4) c_27_4 (by decide) (by decide) rfl 137 rfl ?_
      refine qk_iconst C (1) dX6_likes_137 138 rfl rfl ?_
      exact hret _ _ _ _ dX6_likes_138 ⟨congrArg (fun x => some (Value.int x)) ((qb_t (by first | (simp [z_tk, z_lk, z_pl, z_ev, c_1, c_27_1, c_27_2, c_27_3, c_27_4]; done) | (simp_all [z_tk, z_lk, z_pl, z_ev]; done))).symm), rfl⟩ rfl
    refine qk_eqc (5) (fun c_27_5 => ?_) (fun c_27_5 => ?_)
    · refine qk_tableIn C dX6_likes_27 (5) c_27_5 (by decide) (by decide) rfl 139 rfl ?_
      refine qk_iloadn C dX6_likes_139 140 rfl rfl 3 rfl ?_
      refine qk_iconst C (2) dX6_likes_140 141 rfl rfl ?_
      refine qk_bipush C (7) dX6_likes_141 143 rfl rfl ?_
      refine qk_callS C dX6_likes_143 146 rfl ql_X6_70 qc_X6_within (c_X6_within l G _ _ _ _) rfl rfl (Nat.le_of_ble_eq_true rfl) ⟨(Nat.le_of_ble_eq_true rfl), (Nat.le_of_ble_eq_true rfl)⟩ (qx_Ki ?_)
      exact hret _ _ _ _ dX6_likes_146 ⟨congrArg (fun x => some (Value.int x)) (congrArg qb (by unfold z_lk; rw [if_neg c_27_1, if_neg c_27_2, if_neg c_27_3, if_neg c_27_4, if_pos c_27_5])), rfl⟩ (qb_nar _)
    refine qk_eqc (6) (fun c_27_6 => ?_) (fun c_27_6 => ?_)
    · refine qk_tableIn C dX6_likes_27 (6) c_27_6 (by decide) (by decide) rfl 80 rfl ?_
      refine qk_iloadn C dX6_likes_80 81 rfl rfl 0 rfl ?_
      refine qk_if_ne C dX6_likes_81 90 rfl 84 rfl (fun c => absurd rfl c) (fun _ => ?_)
      refine qk_iloadn C dX6_likes_84 85 rfl rfl 3 rfl ?_
      refine qk_iconst C (2) dX6_likes_85 86 rfl rfl ?_
      refine qk_irem C dX6_likes_86 87 rfl (by decide) ?_
      refine qk_if_ne C dX6_likes_87 100 rfl 90 rfl (fun c_87 => ?_) (fun c_87 => ?_)
      · refine qk_iconst C (0) dX6_likes_100 101 rfl rfl ?_
        exact hret _ _ _ _ dX6_likes_101 ⟨congrArg (fun x => some (Value.int x)) ((qb_f (by first | (simp [z_tk, z_lk, z_pl, z_ev, c_1, c_27_1, c_27_2, c_27_3, c_27_4, c_27_5, c_27_6, c_87]; done) | (simp_all [z_tk, z_lk, z_pl, z_ev]; done))).symm), rfl⟩ rfl
      · refine qk_iloadn C dX6_likes_90 91 rfl rfl 3 rfl ?_
        refine qk_bipush C (6) dX6_likes_91 93 rfl rfl ?_
        refine qk_icmp_gt C dX6_likes_93 100 rfl 96 rfl (fun c_93 => ?_) (fun c_93 => ?_)
        · refine qk_iconst C (0) dX6_likes_100 101 rfl rfl ?_
          exact hret _ _ _ _ dX6_likes_101 ⟨congrArg (fun x => some (Value.int x)) ((qb_f (by first | (simp [z_tk, z_lk, z_pl, z_ev, c_1, c_27_1, c_27_2, c_27_3, c_27_4, c_27_5, c_27_6, c_87, c_93]; done) | (simp_all [z_tk, z_lk, z_pl, z_ev]; done))).symm), rfl⟩ rfl
        · refine qk_iconst C (1) dX6_likes_96 97 rfl rfl ?_
          refine qk_goto C dX6_likes_97 101 rfl ?_
          exact hret _ _ _ _ dX6_likes_101 ⟨congrArg (fun x => some (Value.int x)) ((qb_t (by first | (simp [z_tk, z_lk, z_pl, z_ev, c_1, c_27_1, c_27_2, c_27_3, c_27_4, c_27_5, c_27_6, c_87, c_93]; done) | (simp_all [z_tk, z_lk, z_pl, z_ev]; done))).symm), rfl⟩ rfl
    refine qk_tableOut C dX6_likes_27 (by have h1 := lv_neT c_27_1 (show (1 : Int32).toInt = 1 from rfl); have h2 := lv_neT c_27_2 (show (2 : Int32).toInt = 2 from rfl); have h3 := lv_neT c_27_3 (show (3 : Int32).toInt = 3 from rfl); have h4 := lv_neT c_27_4 (show (4 : Int32).toInt = 4 from rfl); have h5 := lv_neT c_27_5 (show (5 : Int32).toInt = 5 from rfl); have h6 := lv_neT c_27_6 (show (6 : Int32).toInt = 6 from rfl); omega) 147 rfl ?_
    refine qk_iloadn C dX6_likes_147 148 rfl rfl 0 rfl ?_
    exact hret _ _ _ _ dX6_likes_148 ⟨congrArg (fun x => some (Value.int x)) ((qb_f (by first | (simp [z_tk, z_lk, z_pl, z_ev, c_1, c_27_1, c_27_2, c_27_3, c_27_4, c_27_5, c_27_6]; done) | (simp_all [z_tk, z_lk, z_pl, z_ev]; done))).symm), rfl⟩ rfl
  · refine qk_aloadn C dX6_likes_4 5 rfl rfl 0 rfl ?_
    refine qk_iloadn C dX6_likes_5 6 rfl rfl 1 rfl ?_
    refine qk_iloadn C dX6_likes_6 7 rfl rfl 2 rfl ?_
    refine qk_iconst C (1) dX6_likes_7 8 rfl rfl ?_
    refine qk_isub C dX6_likes_8 9 rfl ?_
    refine qk_callV C dX6_likes_9 12 rfl ql_X6_104 qc_X6_has 53 (by decide) rfl rfl (c_X6_has l G σ v b (by omega) _) rfl rfl (Nat.le_of_ble_eq_true rfl) ⟨(Nat.le_of_ble_eq_true rfl), (Nat.le_of_ble_eq_true rfl)⟩ (qx_Ki ?_)
    refine qk_if_eqB C dX6_likes_12 19 rfl 15 rfl (fun c_12 => ?_) (fun c_12 => ?_)
    · refine qk_iconst C (0) dX6_likes_19 20 rfl rfl ?_
      refine qk_istoren C dX6_likes_20 21 rfl rfl (by decide) rfl ?_
      refine qk_aloadn C dX6_likes_21 22 rfl rfl 1 rfl ?_
      refine qk_iloadn C dX6_likes_22 23 rfl rfl 2 rfl ?_
      refine qk_iconst C (0) dX6_likes_23 24 rfl rfl ?_
      refine qk_callV C dX6_likes_24 27 rfl ql_X6_101 qc_X6_bustIs 53 (by decide) rfl rfl (c_X6_bustIs l G σ v b 0 (by omega) (by omega)) rfl rfl (Nat.le_of_ble_eq_true rfl) ⟨(Nat.le_of_ble_eq_true rfl), (Nat.le_of_ble_eq_true rfl)⟩ (qx_Ki ?_)
      refine qk_eqc (1) (fun c_27_1 => ?_) (fun c_27_1 => ?_)
      · refine qk_tableIn C dX6_likes_27 (1) c_27_1 (by decide) (by decide) rfl 64 rfl ?_
        refine qk_iloadn C dX6_likes_64 65 rfl rfl 0 rfl ?_
        refine qk_if_ne C dX6_likes_65 74 rfl 68 rfl (fun c => absurd rfl c) (fun _ => ?_)
        refine qk_iloadn C dX6_likes_68 69 rfl rfl 3 rfl ?_
        refine qk_iconst C (2) dX6_likes_69 70 rfl rfl ?_
        refine qk_irem C dX6_likes_70 71 rfl (by decide) ?_
        refine qk_if_ne C dX6_likes_71 78 rfl 74 rfl (fun c_71 => ?_) (fun c_71 => ?_)
        · refine qk_iconst C (0) dX6_likes_78 79 rfl rfl ?_
          exact hret _ _ _ _ dX6_likes_79 ⟨congrArg (fun x => some (Value.int x)) ((qb_f (by first | (simp [z_tk, z_lk, z_pl, z_ev, c_1, c_12, c_27_1, c_71]; done) | (simp_all [z_tk, z_lk, z_pl, z_ev]; done))).symm), rfl⟩ rfl
        · refine qk_iconst C (1) dX6_likes_74 75 rfl rfl ?_
          refine qk_goto C dX6_likes_75 79 rfl ?_
          exact hret _ _ _ _ dX6_likes_79 ⟨congrArg (fun x => some (Value.int x)) ((qb_t (by first | (simp [z_tk, z_lk, z_pl, z_ev, c_1, c_12, c_27_1, c_71]; done) | (simp_all [z_tk, z_lk, z_pl, z_ev]; done))).symm), rfl⟩ rfl
      refine qk_eqc (2) (fun c_27_2 => ?_) (fun c_27_2 => ?_)
      · refine qk_tableIn C dX6_likes_27 (2) c_27_2 (by decide) (by decide) rfl 102 rfl ?_
        refine qk_iloadn C dX6_likes_102 103 rfl rfl 0 rfl ?_
        refine qk_if_eq C dX6_likes_103 115 rfl 106 rfl (fun _ => ?_) (fun c => absurd rfl c)
        refine qk_iconst C (0) dX6_likes_115 116 rfl rfl ?_
        exact hret _ _ _ _ dX6_likes_116 ⟨congrArg (fun x => some (Value.int x)) ((qb_f (by first | (simp [z_tk, z_lk, z_pl, z_ev, c_1, c_12, c_27_1, c_27_2]; done) | (simp_all [z_tk, z_lk, z_pl, z_ev]; done))).symm), rfl⟩ rfl
      refine qk_eqc (3) (fun c_27_3 => ?_) (fun c_27_3 => ?_)
      · refine qk_tableIn C dX6_likes_27 (3) c_27_3 (by decide) (by decide) rfl 117 rfl ?_
        refine qk_iloadn C dX6_likes_117 118 rfl rfl 0 rfl ?_
        refine qk_if_eq C dX6_likes_118 126 rfl 121 rfl (fun _ => ?_) (fun c => absurd rfl c)
        refine qk_iloadn C dX6_likes_126 127 rfl rfl 3 rfl ?_
        refine qk_iconst C (3) dX6_likes_127 128 rfl rfl ?_
        refine qk_icmp_ne C dX6_likes_128 135 rfl 131 rfl (fun c_128 => ?_) (fun c_128 => ?_)
        · refine qk_iconst C (0) dX6_likes_135 136 rfl rfl ?_
          exact hret _ _ _ _ dX6_likes_136 ⟨congrArg (fun x => some (Value.int x)) ((qb_f (by first | (simp [z_tk, z_lk, z_pl, z_ev, c_1, c_12, c_27_1, c_27_2, c_27_3, c_128]; done) | (simp_all [z_tk, z_lk, z_pl, z_ev]; done))).symm), rfl⟩ rfl
        · refine qk_iconst C (1) dX6_likes_131 132 rfl rfl ?_
          refine qk_goto C dX6_likes_132 136 rfl ?_
          exact hret _ _ _ _ dX6_likes_136 ⟨congrArg (fun x => some (Value.int x)) ((qb_t (by first | (simp [z_tk, z_lk, z_pl, z_ev, c_1, c_12, c_27_1, c_27_2, c_27_3, c_128]; done) | (simp_all [z_tk, z_lk, z_pl, z_ev]; done))).symm), rfl⟩ rfl
      refine qk_eqc (4) (fun c_27_4 => ?_) (fun c_27_4 => ?_)
      · refine qk_tableIn C dX6_likes_27 (4) c_27_4 (by decide) (by decide) rfl 137 rfl ?_
        refine qk_iconst C (1) dX6_likes_137 138 rfl rfl ?_
        exact hret _ _ _ _ dX6_likes_138 ⟨congrArg (fun x => some (Value.int x)) ((qb_t (by first | (simp [z_tk, z_lk, z_pl, z_ev, c_1, c_12, c_27_1, c_27_2, c_27_3, c_27_4]; done) | (simp_all [z_tk, z_lk, z_pl, z_ev]; done))).symm), rfl⟩ rfl
      refine qk_eqc (5) (fun c_27_5 => ?_) (fun c_27_5 => ?_)
      · refine qk_tableIn C dX6_likes_27 (5) c_27_5 (by decide) (by decide) rfl 139 rfl ?_
        refine qk_iloadn C dX6_likes_139 140 rfl rfl 3 rfl ?_
        refine qk_iconst C (2) dX6_likes_140 141 rfl rfl ?_
        refine qk_bipush C (7) dX6_likes_141 143 rfl rfl ?_
        refine qk_callS C dX6_likes_143 146 rfl ql_X6_70 qc_X6_within (c_X6_within l G _ _ _ _) rfl rfl (Nat.le_of_ble_eq_true rfl) ⟨(Nat.le_of_ble_eq_true rfl), (Nat.le_of_ble_eq_true rfl)⟩ (qx_Ki ?_)
        exact hret _ _ _ _ dX6_likes_146 ⟨congrArg (fun x => some (Value.int x)) (congrArg qb (by unfold z_lk; rw [if_neg c_27_1, if_neg c_27_2, if_neg c_27_3, if_neg c_27_4, if_pos c_27_5])), rfl⟩ (qb_nar _)
      refine qk_eqc (6) (fun c_27_6 => ?_) (fun c_27_6 => ?_)
      · refine qk_tableIn C dX6_likes_27 (6) c_27_6 (by decide) (by decide) rfl 80 rfl ?_
        refine qk_iloadn C dX6_likes_80 81 rfl rfl 0 rfl ?_
        refine qk_if_ne C dX6_likes_81 90 rfl 84 rfl (fun c => absurd rfl c) (fun _ => ?_)
        refine qk_iloadn C dX6_likes_84 85 rfl rfl 3 rfl ?_
        refine qk_iconst C (2) dX6_likes_85 86 rfl rfl ?_
        refine qk_irem C dX6_likes_86 87 rfl (by decide) ?_
        refine qk_if_ne C dX6_likes_87 100 rfl 90 rfl (fun c_87 => ?_) (fun c_87 => ?_)
        · refine qk_iconst C (0) dX6_likes_100 101 rfl rfl ?_
          exact hret _ _ _ _ dX6_likes_101 ⟨congrArg (fun x => some (Value.int x)) ((qb_f (by first | (simp [z_tk, z_lk, z_pl, z_ev, c_1, c_12, c_27_1, c_27_2, c_27_3, c_27_4, c_27_5, c_27_6, c_87]; done) | (simp_all [z_tk, z_lk, z_pl, z_ev]; done))).symm), rfl⟩ rfl
        · refine qk_iloadn C dX6_likes_90 91 rfl rfl 3 rfl ?_
          refine qk_bipush C (6) dX6_likes_91 93 rfl rfl ?_
          refine qk_icmp_gt C dX6_likes_93 100 rfl 96 rfl (fun c_93 => ?_) (fun c_93 => ?_)
          · refine qk_iconst C (0) dX6_likes_100 101 rfl rfl ?_
            exact hret _ _ _ _ dX6_likes_101 ⟨congrArg (fun x => some (Value.int x)) ((qb_f (by first | (simp [z_tk, z_lk, z_pl, z_ev, c_1, c_12, c_27_1, c_27_2, c_27_3, c_27_4, c_27_5, c_27_6, c_87, c_93]; done) | (simp_all [z_tk, z_lk, z_pl, z_ev]; done))).symm), rfl⟩ rfl
          · refine qk_iconst C (1) dX6_likes_96 97 rfl rfl ?_
            refine qk_goto C dX6_likes_97 101 rfl ?_
            exact hret _ _ _ _ dX6_likes_101 ⟨congrArg (fun x => some (Value.int x)) ((qb_t (by first | (simp [z_tk, z_lk, z_pl, z_ev, c_1, c_12, c_27_1, c_27_2, c_27_3, c_27_4, c_27_5, c_27_6, c_87, c_93]; done) | (simp_all [z_tk, z_lk, z_pl, z_ev]; done))).symm), rfl⟩ rfl
      refine qk_tableOut C dX6_likes_27 (by have h1 := lv_neT c_27_1 (show (1 : Int32).toInt = 1 from rfl); have h2 := lv_neT c_27_2 (show (2 : Int32).toInt = 2 from rfl); have h3 := lv_neT c_27_3 (show (3 : Int32).toInt = 3 from rfl); have h4 := lv_neT c_27_4 (show (4 : Int32).toInt = 4 from rfl); have h5 := lv_neT c_27_5 (show (5 : Int32).toInt = 5 from rfl); have h6 := lv_neT c_27_6 (show (6 : Int32).toInt = 6 from rfl); omega) 147 rfl ?_
      refine qk_iloadn C dX6_likes_147 148 rfl rfl 0 rfl ?_
      exact hret _ _ _ _ dX6_likes_148 ⟨congrArg (fun x => some (Value.int x)) ((qb_f (by first | (simp [z_tk, z_lk, z_pl, z_ev, c_1, c_12, c_27_1, c_27_2, c_27_3, c_27_4, c_27_5, c_27_6]; done) | (simp_all [z_tk, z_lk, z_pl, z_ev]; done))).symm), rfl⟩ rfl
    · refine qk_iconst C (1) dX6_likes_15 16 rfl rfl ?_
      refine qk_goto C dX6_likes_16 20 rfl ?_
      refine qk_istoren C dX6_likes_20 21 rfl rfl (by decide) rfl ?_
      refine qk_aloadn C dX6_likes_21 22 rfl rfl 1 rfl ?_
      refine qk_iloadn C dX6_likes_22 23 rfl rfl 2 rfl ?_
      refine qk_iconst C (0) dX6_likes_23 24 rfl rfl ?_
      refine qk_callV C dX6_likes_24 27 rfl ql_X6_101 qc_X6_bustIs 53 (by decide) rfl rfl (c_X6_bustIs l G σ v b 0 (by omega) (by omega)) rfl rfl (Nat.le_of_ble_eq_true rfl) ⟨(Nat.le_of_ble_eq_true rfl), (Nat.le_of_ble_eq_true rfl)⟩ (qx_Ki ?_)
      refine qk_eqc (1) (fun c_27_1 => ?_) (fun c_27_1 => ?_)
      · refine qk_tableIn C dX6_likes_27 (1) c_27_1 (by decide) (by decide) rfl 64 rfl ?_
        refine qk_iloadn C dX6_likes_64 65 rfl rfl 0 rfl ?_
        refine qk_if_ne C dX6_likes_65 74 rfl 68 rfl (fun _ => ?_) (fun c => absurd c (by decide))
        refine qk_iconst C (1) dX6_likes_74 75 rfl rfl ?_
        refine qk_goto C dX6_likes_75 79 rfl ?_
        exact hret _ _ _ _ dX6_likes_79 ⟨congrArg (fun x => some (Value.int x)) ((qb_t (by first | (simp [z_tk, z_lk, z_pl, z_ev, c_1, c_12, c_27_1]; done) | (simp_all [z_tk, z_lk, z_pl, z_ev]; done))).symm), rfl⟩ rfl
      refine qk_eqc (2) (fun c_27_2 => ?_) (fun c_27_2 => ?_)
      · refine qk_tableIn C dX6_likes_27 (2) c_27_2 (by decide) (by decide) rfl 102 rfl ?_
        refine qk_iloadn C dX6_likes_102 103 rfl rfl 0 rfl ?_
        refine qk_if_eq C dX6_likes_103 115 rfl 106 rfl (fun c => absurd c (by decide)) (fun _ => ?_)
        refine qk_iloadn C dX6_likes_106 107 rfl rfl 3 rfl ?_
        refine qk_iconst C (5) dX6_likes_107 108 rfl rfl ?_
        refine qk_icmp_eq C dX6_likes_108 115 rfl 111 rfl (fun c_108 => ?_) (fun c_108 => ?_)
        · refine qk_iconst C (0) dX6_likes_115 116 rfl rfl ?_
          exact hret _ _ _ _ dX6_likes_116 ⟨congrArg (fun x => some (Value.int x)) ((qb_f (by first | (simp [z_tk, z_lk, z_pl, z_ev, c_1, c_12, c_27_1, c_27_2, c_108]; done) | (simp_all [z_tk, z_lk, z_pl, z_ev]; done))).symm), rfl⟩ rfl
        · refine qk_iconst C (1) dX6_likes_111 112 rfl rfl ?_
          refine qk_goto C dX6_likes_112 116 rfl ?_
          exact hret _ _ _ _ dX6_likes_116 ⟨congrArg (fun x => some (Value.int x)) ((qb_t (by first | (simp [z_tk, z_lk, z_pl, z_ev, c_1, c_12, c_27_1, c_27_2, c_108]; done) | (simp_all [z_tk, z_lk, z_pl, z_ev]; done))).symm), rfl⟩ rfl
      refine qk_eqc (3) (fun c_27_3 => ?_) (fun c_27_3 => ?_)
      · refine qk_tableIn C dX6_likes_27 (3) c_27_3 (by decide) (by decide) rfl 117 rfl ?_
        refine qk_iloadn C dX6_likes_117 118 rfl rfl 0 rfl ?_
        refine qk_if_eq C dX6_likes_118 126 rfl 121 rfl (fun c => absurd c (by decide)) (fun _ => ?_)
        refine qk_iloadn C dX6_likes_121 122 rfl rfl 3 rfl ?_
        refine qk_iconst C (5) dX6_likes_122 123 rfl rfl ?_
        refine qk_icmp_ne C dX6_likes_123 131 rfl 126 rfl (fun c_123 => ?_) (fun c_123 => ?_)
        · refine qk_iconst C (1) dX6_likes_131 132 rfl rfl ?_
          refine qk_goto C dX6_likes_132 136 rfl ?_
          exact hret _ _ _ _ dX6_likes_136 ⟨congrArg (fun x => some (Value.int x)) ((qb_t (by first | (simp [z_tk, z_lk, z_pl, z_ev, c_1, c_12, c_27_1, c_27_2, c_27_3, c_123]; done) | (simp_all [z_tk, z_lk, z_pl, z_ev]; done))).symm), rfl⟩ rfl
        · refine qk_iloadn C dX6_likes_126 127 rfl rfl 3 rfl ?_
          refine qk_iconst C (3) dX6_likes_127 128 rfl rfl ?_
          refine qk_icmp_ne C dX6_likes_128 135 rfl 131 rfl (fun c_128 => ?_) (fun c_128 => ?_)
          · refine qk_iconst C (0) dX6_likes_135 136 rfl rfl ?_
            exact hret _ _ _ _ dX6_likes_136 ⟨congrArg (fun x => some (Value.int x)) ((qb_f (by first | (simp [z_tk, z_lk, z_pl, z_ev, c_1, c_12, c_27_1, c_27_2, c_27_3, c_123, c_128]; done) | (simp_all [z_tk, z_lk, z_pl, z_ev]; done))).symm), rfl⟩ rfl
          · refine qk_iconst C (1) dX6_likes_131 132 rfl rfl ?_
            refine qk_goto C dX6_likes_132 136 rfl ?_
            exact hret _ _ _ _ dX6_likes_136 ⟨congrArg (fun x => some (Value.int x)) ((qb_t (by first | (simp [z_tk, z_lk, z_pl, z_ev, c_1, c_12, c_27_1, c_27_2, c_27_3, c_123, c_128]; done) | (simp_all [z_tk, z_lk, z_pl, z_ev]; done))).symm), rfl⟩ rfl
      refine qk_eqc (4) (fun c_27_4 => ?_) (fun c_27_4 => ?_)
      · refine qk_tableIn C dX6_likes_27 (4) c_27_4 (by decide) (by decide) rfl 137 rfl ?_
        refine qk_iconst C (1) dX6_likes_137 138 rfl rfl ?_
        exact hret _ _ _ _ dX6_likes_138 ⟨congrArg (fun x => some (Value.int x)) ((qb_t (by first | (simp [z_tk, z_lk, z_pl, z_ev, c_1, c_12, c_27_1, c_27_2, c_27_3, c_27_4]; done) | (simp_all [z_tk, z_lk, z_pl, z_ev]; done))).symm), rfl⟩ rfl
      refine qk_eqc (5) (fun c_27_5 => ?_) (fun c_27_5 => ?_)
      · refine qk_tableIn C dX6_likes_27 (5) c_27_5 (by decide) (by decide) rfl 139 rfl ?_
        refine qk_iloadn C dX6_likes_139 140 rfl rfl 3 rfl ?_
        refine qk_iconst C (2) dX6_likes_140 141 rfl rfl ?_
        refine qk_bipush C (7) dX6_likes_141 143 rfl rfl ?_
        refine qk_callS C dX6_likes_143 146 rfl ql_X6_70 qc_X6_within (c_X6_within l G _ _ _ _) rfl rfl (Nat.le_of_ble_eq_true rfl) ⟨(Nat.le_of_ble_eq_true rfl), (Nat.le_of_ble_eq_true rfl)⟩ (qx_Ki ?_)
        exact hret _ _ _ _ dX6_likes_146 ⟨congrArg (fun x => some (Value.int x)) (congrArg qb (by unfold z_lk; rw [if_neg c_27_1, if_neg c_27_2, if_neg c_27_3, if_neg c_27_4, if_pos c_27_5])), rfl⟩ (qb_nar _)
      refine qk_eqc (6) (fun c_27_6 => ?_) (fun c_27_6 => ?_)
      · refine qk_tableIn C dX6_likes_27 (6) c_27_6 (by decide) (by decide) rfl 80 rfl ?_
        refine qk_iloadn C dX6_likes_80 81 rfl rfl 0 rfl ?_
        refine qk_if_ne C dX6_likes_81 90 rfl 84 rfl (fun _ => ?_) (fun c => absurd c (by decide))
        refine qk_iloadn C dX6_likes_90 91 rfl rfl 3 rfl ?_
        refine qk_bipush C (6) dX6_likes_91 93 rfl rfl ?_
        refine qk_icmp_gt C dX6_likes_93 100 rfl 96 rfl (fun c_93 => ?_) (fun c_93 => ?_)
        · refine qk_iconst C (0) dX6_likes_100 101 rfl rfl ?_
          exact hret _ _ _ _ dX6_likes_101 ⟨congrArg (fun x => some (Value.int x)) ((qb_f (by first | (simp [z_tk, z_lk, z_pl, z_ev, c_1, c_12, c_27_1, c_27_2, c_27_3, c_27_4, c_27_5, c_27_6, c_93]; done) | (simp_all [z_tk, z_lk, z_pl, z_ev]; done))).symm), rfl⟩ rfl
        · refine qk_iconst C (1) dX6_likes_96 97 rfl rfl ?_
          refine qk_goto C dX6_likes_97 101 rfl ?_
          exact hret _ _ _ _ dX6_likes_101 ⟨congrArg (fun x => some (Value.int x)) ((qb_t (by first | (simp [z_tk, z_lk, z_pl, z_ev, c_1, c_12, c_27_1, c_27_2, c_27_3, c_27_4, c_27_5, c_27_6, c_93]; done) | (simp_all [z_tk, z_lk, z_pl, z_ev]; done))).symm), rfl⟩ rfl
      refine qk_tableOut C dX6_likes_27 (by have h1 := lv_neT c_27_1 (show (1 : Int32).toInt = 1 from rfl); have h2 := lv_neT c_27_2 (show (2 : Int32).toInt = 2 from rfl); have h3 := lv_neT c_27_3 (show (3 : Int32).toInt = 3 from rfl); have h4 := lv_neT c_27_4 (show (4 : Int32).toInt = 4 from rfl); have h5 := lv_neT c_27_5 (show (5 : Int32).toInt = 5 from rfl); have h6 := lv_neT c_27_6 (show (6 : Int32).toInt = 6 from rfl); omega) 147 rfl ?_
      refine qk_iloadn C dX6_likes_147 148 rfl rfl 0 rfl ?_
      exact hret _ _ _ _ dX6_likes_148 ⟨congrArg (fun x => some (Value.int x)) ((qb_t (by first | (simp [z_tk, z_lk, z_pl, z_ev, c_1, c_12, c_27_1, c_27_2, c_27_3, c_27_4, c_27_5, c_27_6]; done) | (simp_all [z_tk, z_lk, z_pl, z_ev]; done))).symm), rfl⟩ rfl

theorem c_X6_takes (l : Launch) (G : qx_G) (σ : qx_Sg) (v : Nat → Int32) (b : Nat) (hb : b < 8) (p : Int32) : qx_Ct l G yX6_takes cX6_takes 3 (some .boolean) 4 88 [.ref (qx_ad G 53), .int (nI b), .int p] (va_up σ 54 v) (qx_pi (qb (z_tk (v (32 + 7 * b + 0)) (v (32 + 7 * b + 2)) p)) (va_up σ 54 v)) := by
  refine qx_of .boolean (lo := [(0, .ref (qx_ad G 53)), (1, .int (nI b)), (2, .int p)]) (by decide +kernel) (Nat.le_of_ble_eq_true rfl) rfl (fun Δ (C : qx_C G Δ cX6_takes RX6 3 4 88) hret => ?_)
  refine qk_aloadn C dX6_takes_0 1 rfl rfl 0 rfl ?_
  refine qk_iloadn C dX6_takes_1 2 rfl rfl 1 rfl ?_
  refine qk_iloadn C dX6_takes_2 3 rfl rfl 2 rfl ?_
  refine qk_callV C dX6_takes_3 6 rfl ql_X6_104 qc_X6_has 53 (by decide) rfl rfl (c_X6_has l G σ v b (by omega) _) rfl rfl (Nat.le_of_ble_eq_true rfl) ⟨(Nat.le_of_ble_eq_true rfl), (Nat.le_of_ble_eq_true rfl)⟩ (qx_Ki ?_)
  refine qk_if_neB C dX6_takes_6 22 rfl 9 rfl (fun c_6 => ?_) (fun c_6 => ?_)
  · refine qk_iconst C (0) dX6_takes_22 23 rfl rfl ?_
    exact hret _ _ _ _ dX6_takes_23 ⟨congrArg (fun x => some (Value.int x)) ((qb_f (by first | exact ⟨c_6, c_15⟩ | exact fun q => q.1 c_6 | exact fun q => c_15 q.2)).symm), rfl⟩ rfl
  · refine qk_aloadn C dX6_takes_9 10 rfl rfl 0 rfl ?_
    refine qk_iloadn C dX6_takes_10 11 rfl rfl 1 rfl ?_
    refine qk_iloadn C dX6_takes_11 12 rfl rfl 2 rfl ?_
    refine qk_callV C dX6_takes_12 15 rfl ql_X6_108 qc_X6_likes 53 (by decide) rfl rfl (c_X6_likes l G σ v b (by omega) _) rfl rfl (Nat.le_of_ble_eq_true rfl) ⟨(Nat.le_of_ble_eq_true rfl), (Nat.le_of_ble_eq_true rfl)⟩ (qx_Ki ?_)
    refine qk_if_eqB C dX6_takes_15 22 rfl 18 rfl (fun c_15 => ?_) (fun c_15 => ?_)
    · refine qk_iconst C (0) dX6_takes_22 23 rfl rfl ?_
      exact hret _ _ _ _ dX6_takes_23 ⟨congrArg (fun x => some (Value.int x)) ((qb_f (by first | exact ⟨c_6, c_15⟩ | exact fun q => q.1 c_6 | exact fun q => c_15 q.2)).symm), rfl⟩ rfl
    · refine qk_iconst C (1) dX6_takes_18 19 rfl rfl ?_
      refine qk_goto C dX6_takes_19 23 rfl ?_
      exact hret _ _ _ _ dX6_takes_23 ⟨congrArg (fun x => some (Value.int x)) ((qb_t (by first | exact ⟨c_6, c_15⟩ | exact fun q => q.1 c_6 | exact fun q => c_15 q.2)).symm), rfl⟩ rfl

theorem c_X6_arms (l : Launch) (G : qx_G) (σ : qx_Sg) (N : Nat) (v : Nat → Int32) (hI : qv_ok v N) (b : Nat) (hb : b < N) : qx_Ct l G yX6_arms cX6_arms 2 (some .int) 3 65 [.ref (qx_ad G 53), .int (nI b)] (va_up σ 54 v) (qx_pi (z_bc (v (32 + 7 * b + 2) &&& 24)) (va_up σ 54 v)) := by
  refine qx_of .int (lo := [(0, .ref (qx_ad G 53)), (1, .int (nI b))]) (by decide +kernel) (Nat.le_of_ble_eq_true rfl) rfl (fun Δ (C : qx_C G Δ cX6_arms RX6 2 3 65) hret => ?_)
  have hN8 := hI.1
  have hN1 := hI.2.1
  refine qk_aloadn C dX6_arms_0 1 rfl rfl 0 rfl ?_
  refine qk_iloadn C dX6_arms_1 2 rfl rfl 1 rfl ?_
  refine qk_iconst C (3) dX6_arms_2 3 rfl rfl ?_
  refine qk_callV C dX6_arms_3 6 rfl ql_X6_104 qc_X6_has 53 (by decide) rfl rfl (c_X6_has l G σ v b (by omega) _) rfl rfl (Nat.le_of_ble_eq_true rfl) ⟨(Nat.le_of_ble_eq_true rfl), (Nat.le_of_ble_eq_true rfl)⟩ (qx_Ki ?_)
  refine qk_if_eqB C dX6_arms_6 13 rfl 9 rfl (fun c_6 => ?_) (fun c_6 => ?_)
  · refine qk_iconst C (0) dX6_arms_13 14 rfl rfl ?_
    refine qk_aloadn C dX6_arms_14 15 rfl rfl 0 rfl ?_
    refine qk_iloadn C dX6_arms_15 16 rfl rfl 1 rfl ?_
    refine qk_iconst C (4) dX6_arms_16 17 rfl rfl ?_
    refine qk_callV C dX6_arms_17 20 rfl ql_X6_104 qc_X6_has 53 (by decide) rfl rfl (c_X6_has l G σ v b (by omega) _) rfl rfl (Nat.le_of_ble_eq_true rfl) ⟨(Nat.le_of_ble_eq_true rfl), (Nat.le_of_ble_eq_true rfl)⟩ (qx_Ki ?_)
    refine qk_if_eqB C dX6_arms_20 27 rfl 23 rfl (fun c_20 => ?_) (fun c_20 => ?_)
    · refine qk_iconst C (0) dX6_arms_27 28 rfl rfl ?_
      refine qk_iadd C dX6_arms_28 29 rfl ?_
      exact hret _ _ _ _ dX6_arms_29 ⟨congrArg (fun x => some (Value.int x)) (by rw [m_arms ((hI.2.2.2.2.1 b hb).2.1)]; simp [qb, c_6, c_20]), rfl⟩ rfl
    · refine qk_iconst C (1) dX6_arms_23 24 rfl rfl ?_
      refine qk_goto C dX6_arms_24 28 rfl ?_
      refine qk_iadd C dX6_arms_28 29 rfl ?_
      exact hret _ _ _ _ dX6_arms_29 ⟨congrArg (fun x => some (Value.int x)) (by rw [m_arms ((hI.2.2.2.2.1 b hb).2.1)]; simp [qb, c_6, c_20]), rfl⟩ rfl
  · refine qk_iconst C (1) dX6_arms_9 10 rfl rfl ?_
    refine qk_goto C dX6_arms_10 14 rfl ?_
    refine qk_aloadn C dX6_arms_14 15 rfl rfl 0 rfl ?_
    refine qk_iloadn C dX6_arms_15 16 rfl rfl 1 rfl ?_
    refine qk_iconst C (4) dX6_arms_16 17 rfl rfl ?_
    refine qk_callV C dX6_arms_17 20 rfl ql_X6_104 qc_X6_has 53 (by decide) rfl rfl (c_X6_has l G σ v b (by omega) _) rfl rfl (Nat.le_of_ble_eq_true rfl) ⟨(Nat.le_of_ble_eq_true rfl), (Nat.le_of_ble_eq_true rfl)⟩ (qx_Ki ?_)
    refine qk_if_eqB C dX6_arms_20 27 rfl 23 rfl (fun c_20 => ?_) (fun c_20 => ?_)
    · refine qk_iconst C (0) dX6_arms_27 28 rfl rfl ?_
      refine qk_iadd C dX6_arms_28 29 rfl ?_
      exact hret _ _ _ _ dX6_arms_29 ⟨congrArg (fun x => some (Value.int x)) (by rw [m_arms ((hI.2.2.2.2.1 b hb).2.1)]; simp [qb, c_6, c_20]), rfl⟩ rfl
    · refine qk_iconst C (1) dX6_arms_23 24 rfl rfl ?_
      refine qk_goto C dX6_arms_24 28 rfl ?_
      refine qk_iadd C dX6_arms_28 29 rfl ?_
      exact hret _ _ _ _ dX6_arms_29 ⟨congrArg (fun x => some (Value.int x)) (by rw [m_arms ((hI.2.2.2.2.1 b hb).2.1)]; simp [qb, c_6, c_20]), rfl⟩ rfl

theorem c_X6_yearns (l : Launch) (G : qx_G) (σ : qx_Sg) (N : Nat) (v : Nat → Int32) (hI : qv_ok v N) (b : Nat) (hb : b < N) : qx_Ct l G yX6_yearns cX6_yearns 4 (some .int) 4 86 [.ref (qx_ad G 53), .int (nI b)] (va_up σ 54 v) (qx_pi (z_yn (v (32 + 7 * b + 0)) (v (32 + 7 * b + 2))) (va_up σ 54 v)) := by
  refine qx_of .int (lo := [(0, .ref (qx_ad G 53)), (1, .int (nI b))]) (by decide +kernel) (Nat.le_of_ble_eq_true rfl) rfl (fun Δ (C : qx_C G Δ cX6_yearns RX6 4 4 86) hret => ?_)
  have hN8 := hI.1
  have hN1 := hI.2.1
  refine qk_bipush C (12) dX6_yearns_0 2 rfl rfl ?_
  refine qk_aloadn C dX6_yearns_2 3 rfl rfl 0 rfl ?_
  refine qk_iloadn C dX6_yearns_3 4 rfl rfl 1 rfl ?_
  refine qk_iconst C (2) dX6_yearns_4 5 rfl rfl ?_
  refine qk_callV C dX6_yearns_5 8 rfl ql_X6_101 qc_X6_bustIs 53 (by decide) rfl rfl (c_X6_bustIs l G σ v b 2 (by omega) (by omega)) rfl rfl (Nat.le_of_ble_eq_true rfl) ⟨(Nat.le_of_ble_eq_true rfl), (Nat.le_of_ble_eq_true rfl)⟩ (qx_Ki ?_)
  refine qk_callS C dX6_yearns_8 11 rfl ql_X6_111 qc_X6_bits (c_X6_bits l G _ _ (m_4k ((hI.2.2.2.2.1 b hb).2.1))) rfl rfl (Nat.le_of_ble_eq_true rfl) ⟨(Nat.le_of_ble_eq_true rfl), (Nat.le_of_ble_eq_true rfl)⟩ (qx_Ki ?_)
  refine qk_isub C dX6_yearns_11 12 rfl ?_
  refine qk_iconst C (3) dX6_yearns_12 13 rfl rfl ?_
  refine qk_idiv C dX6_yearns_13 14 rfl (by decide) ?_
  refine qk_istoren C dX6_yearns_14 15 rfl rfl (by decide) rfl ?_
  refine qk_aloadn C dX6_yearns_15 16 rfl rfl 1 rfl ?_
  refine qk_iloadn C dX6_yearns_16 17 rfl rfl 2 rfl ?_
  refine qk_bipush C (8) dX6_yearns_17 19 rfl rfl ?_
  refine qk_callV C dX6_yearns_19 22 rfl ql_X6_104 qc_X6_has 53 (by decide) rfl rfl (c_X6_has l G σ v b (by omega) _) rfl rfl (Nat.le_of_ble_eq_true rfl) ⟨(Nat.le_of_ble_eq_true rfl), (Nat.le_of_ble_eq_true rfl)⟩ (qx_Ki ?_)
  refine qk_if_eqB C dX6_yearns_22 29 rfl 25 rfl (fun c_22 => ?_) (fun c_22 => ?_)
  · refine qk_iloadn C dX6_yearns_29 30 rfl rfl 0 rfl ?_
    refine qk_istoren C dX6_yearns_30 31 rfl rfl (by decide) rfl ?_
    refine qk_aloadn C dX6_yearns_31 32 rfl rfl 2 rfl ?_
    refine qk_iloadn C dX6_yearns_32 33 rfl rfl 3 rfl ?_
    refine qk_iconst C (0) dX6_yearns_33 34 rfl rfl ?_
    refine qk_callV C dX6_yearns_34 37 rfl ql_X6_101 qc_X6_bustIs 53 (by decide) rfl rfl (c_X6_bustIs l G σ v b 0 (by omega) (by omega)) rfl rfl (Nat.le_of_ble_eq_true rfl) ⟨(Nat.le_of_ble_eq_true rfl), (Nat.le_of_ble_eq_true rfl)⟩ (qx_Ki ?_)
    refine qk_eqc (1) (fun c_37_1 => ?_) (fun c_37_1 => ?_)
    · refine qk_tableIn C dX6_yearns_37 (1) c_37_1 (by decide) (by decide) rfl 76 rfl ?_
      refine qk_iloadn C dX6_yearns_76 77 rfl rfl 1 rfl ?_
      refine qk_iconst C (1) dX6_yearns_77 78 rfl rfl ?_
      refine qk_iadd C dX6_yearns_78 79 rfl ?_
      exact hret _ _ _ _ dX6_yearns_79 ⟨congrArg (fun x => some (Value.int x)) (by first | rfl | (simp [z_yn, z_y2, z_y0, z_sel, c_22, c_37_1]; done) | (simp [z_yn, z_y2, z_y0, z_sel, c_22, c_37_1]; decide) | (simp [z_yn, z_y2, z_y0, z_sel, c_22, c_37_1]; rfl) | (simp_all [z_yn, z_y2, z_y0, z_sel]; done)), rfl⟩ rfl
    refine qk_eqc (2) (fun c_37_2 => ?_) (fun c_37_2 => ?_)
    · refine qk_tableIn C dX6_yearns_37 (2) c_37_2 (by decide) (by decide) rfl 86 rfl ?_
      refine qk_iloadn C dX6_yearns_86 87 rfl rfl 0 rfl ?_
      exact hret _ _ _ _ dX6_yearns_87 ⟨congrArg (fun x => some (Value.int x)) (by first | rfl | (simp [z_yn, z_y2, z_y0, z_sel, c_22, c_37_1, c_37_2]; done) | (simp [z_yn, z_y2, z_y0, z_sel, c_22, c_37_1, c_37_2]; decide) | (simp [z_yn, z_y2, z_y0, z_sel, c_22, c_37_1, c_37_2]; rfl) | (simp_all [z_yn, z_y2, z_y0, z_sel]; done)), rfl⟩ rfl
    refine qk_eqc (3) (fun c_37_3 => ?_) (fun c_37_3 => ?_)
    · refine qk_tableIn C dX6_yearns_37 (3) c_37_3 (by decide) (by decide) rfl 88 rfl ?_
      refine qk_iloadn C dX6_yearns_88 89 rfl rfl 0 rfl ?_
      refine qk_iconst C (1) dX6_yearns_89 90 rfl rfl ?_
      refine qk_iadd C dX6_yearns_90 91 rfl ?_
      exact hret _ _ _ _ dX6_yearns_91 ⟨congrArg (fun x => some (Value.int x)) (by first | rfl | (simp [z_yn, z_y2, z_y0, z_sel, c_22, c_37_1, c_37_2, c_37_3]; done) | (simp [z_yn, z_y2, z_y0, z_sel, c_22, c_37_1, c_37_2, c_37_3]; decide) | (simp [z_yn, z_y2, z_y0, z_sel, c_22, c_37_1, c_37_2, c_37_3]; rfl) | (simp_all [z_yn, z_y2, z_y0, z_sel]; done)), rfl⟩ rfl
    refine qk_eqc (4) (fun c_37_4 => ?_) (fun c_37_4 => ?_)
    · refine qk_tableIn C dX6_yearns_37 (4) c_37_4 (by decide) (by decide) rfl 92 rfl ?_
      refine qk_iconst C (0) dX6_yearns_92 93 rfl rfl ?_
      refine qk_iloadn C dX6_yearns_93 94 rfl rfl 0 rfl ?_
      refine qk_iconst C (1) dX6_yearns_94 95 rfl rfl ?_
      refine qk_iadd C dX6_yearns_95 96 rfl ?_
      refine qk_aloadn C dX6_yearns_96 97 rfl rfl 2 rfl ?_
      refine qk_iloadn C dX6_yearns_97 98 rfl rfl 3 rfl ?_
      refine qk_callV C dX6_yearns_98 101 rfl ql_X6_114 qc_X6_arms 53 (by decide) rfl rfl (c_X6_arms l G σ N v hI b hb) rfl rfl (Nat.le_of_ble_eq_true rfl) ⟨(Nat.le_of_ble_eq_true rfl), (Nat.le_of_ble_eq_true rfl)⟩ (qx_Ki ?_)
      refine qk_isub C dX6_yearns_101 102 rfl ?_
      refine qk_max C dX6_yearns_102 105 rfl ql_X6_117 ⟨(Nat.le_of_ble_eq_true rfl), (Nat.le_of_ble_eq_true rfl)⟩ ?_
      exact hret _ _ _ _ dX6_yearns_105 ⟨congrArg (fun x => some (Value.int x)) (by first | rfl | (simp [z_yn, z_y2, z_y0, z_sel, c_22, c_37_1, c_37_2, c_37_3, c_37_4]; done) | (simp [z_yn, z_y2, z_y0, z_sel, c_22, c_37_1, c_37_2, c_37_3, c_37_4]; decide) | (simp [z_yn, z_y2, z_y0, z_sel, c_22, c_37_1, c_37_2, c_37_3, c_37_4]; rfl) | (simp_all [z_yn, z_y2, z_y0, z_sel]; done)), rfl⟩ rfl
    refine qk_eqc (5) (fun c_37_5 => ?_) (fun c_37_5 => ?_)
    · refine qk_tableIn C dX6_yearns_37 (5) c_37_5 (by decide) (by decide) rfl 106 rfl ?_
      refine qk_iconst C (1) dX6_yearns_106 107 rfl rfl ?_
      exact hret _ _ _ _ dX6_yearns_107 ⟨congrArg (fun x => some (Value.int x)) (by first | rfl | (simp [z_yn, z_y2, z_y0, z_sel, c_22, c_37_1, c_37_2, c_37_3, c_37_4, c_37_5]; done) | (simp [z_yn, z_y2, z_y0, z_sel, c_22, c_37_1, c_37_2, c_37_3, c_37_4, c_37_5]; decide) | (simp [z_yn, z_y2, z_y0, z_sel, c_22, c_37_1, c_37_2, c_37_3, c_37_4, c_37_5]; rfl) | (simp_all [z_yn, z_y2, z_y0, z_sel]; done)), rfl⟩ rfl
    refine qk_eqc (6) (fun c_37_6 => ?_) (fun c_37_6 => ?_)
    · refine qk_tableIn C dX6_yearns_37 (6) c_37_6 (by decide) (by decide) rfl 80 rfl ?_
      refine qk_iconst C (2) dX6_yearns_80 81 rfl rfl ?_
      refine qk_iloadn C dX6_yearns_81 82 rfl rfl 1 rfl ?_
      refine qk_iconst C (1) dX6_yearns_82 83 rfl rfl ?_
      refine qk_iadd C dX6_yearns_83 84 rfl ?_
      refine qk_imul C dX6_yearns_84 85 rfl ?_
      exact hret _ _ _ _ dX6_yearns_85 ⟨congrArg (fun x => some (Value.int x)) (by first | rfl | (simp [z_yn, z_y2, z_y0, z_sel, c_22, c_37_1, c_37_2, c_37_3, c_37_4, c_37_5, c_37_6]; done) | (simp [z_yn, z_y2, z_y0, z_sel, c_22, c_37_1, c_37_2, c_37_3, c_37_4, c_37_5, c_37_6]; decide) | (simp [z_yn, z_y2, z_y0, z_sel, c_22, c_37_1, c_37_2, c_37_3, c_37_4, c_37_5, c_37_6]; rfl) | (simp_all [z_yn, z_y2, z_y0, z_sel]; done)), rfl⟩ rfl
    refine qk_tableOut C dX6_yearns_37 (by have h1 := lv_neT c_37_1 (show (1 : Int32).toInt = 1 from rfl); have h2 := lv_neT c_37_2 (show (2 : Int32).toInt = 2 from rfl); have h3 := lv_neT c_37_3 (show (3 : Int32).toInt = 3 from rfl); have h4 := lv_neT c_37_4 (show (4 : Int32).toInt = 4 from rfl); have h5 := lv_neT c_37_5 (show (5 : Int32).toInt = 5 from rfl); have h6 := lv_neT c_37_6 (show (6 : Int32).toInt = 6 from rfl); omega) 108 rfl ?_
    refine qk_iloadn C dX6_yearns_108 109 rfl rfl 1 rfl ?_
    exact hret _ _ _ _ dX6_yearns_109 ⟨congrArg (fun x => some (Value.int x)) (by first | rfl | (simp [z_yn, z_y2, z_y0, z_sel, c_22, c_37_1, c_37_2, c_37_3, c_37_4, c_37_5, c_37_6]; done) | (simp [z_yn, z_y2, z_y0, z_sel, c_22, c_37_1, c_37_2, c_37_3, c_37_4, c_37_5, c_37_6]; decide) | (simp [z_yn, z_y2, z_y0, z_sel, c_22, c_37_1, c_37_2, c_37_3, c_37_4, c_37_5, c_37_6]; rfl) | (simp_all [z_yn, z_y2, z_y0, z_sel]; done)), rfl⟩ rfl
  · refine qk_iconst C (0) dX6_yearns_25 26 rfl rfl ?_
    refine qk_goto C dX6_yearns_26 30 rfl ?_
    refine qk_istoren C dX6_yearns_30 31 rfl rfl (by decide) rfl ?_
    refine qk_aloadn C dX6_yearns_31 32 rfl rfl 2 rfl ?_
    refine qk_iloadn C dX6_yearns_32 33 rfl rfl 3 rfl ?_
    refine qk_iconst C (0) dX6_yearns_33 34 rfl rfl ?_
    refine qk_callV C dX6_yearns_34 37 rfl ql_X6_101 qc_X6_bustIs 53 (by decide) rfl rfl (c_X6_bustIs l G σ v b 0 (by omega) (by omega)) rfl rfl (Nat.le_of_ble_eq_true rfl) ⟨(Nat.le_of_ble_eq_true rfl), (Nat.le_of_ble_eq_true rfl)⟩ (qx_Ki ?_)
    refine qk_eqc (1) (fun c_37_1 => ?_) (fun c_37_1 => ?_)
    · refine qk_tableIn C dX6_yearns_37 (1) c_37_1 (by decide) (by decide) rfl 76 rfl ?_
      refine qk_iloadn C dX6_yearns_76 77 rfl rfl 1 rfl ?_
      refine qk_iconst C (1) dX6_yearns_77 78 rfl rfl ?_
      refine qk_iadd C dX6_yearns_78 79 rfl ?_
      exact hret _ _ _ _ dX6_yearns_79 ⟨congrArg (fun x => some (Value.int x)) (by first | rfl | (simp [z_yn, z_y2, z_y0, z_sel, c_22, c_37_1]; done) | (simp [z_yn, z_y2, z_y0, z_sel, c_22, c_37_1]; decide) | (simp [z_yn, z_y2, z_y0, z_sel, c_22, c_37_1]; rfl) | (simp_all [z_yn, z_y2, z_y0, z_sel]; done)), rfl⟩ rfl
    refine qk_eqc (2) (fun c_37_2 => ?_) (fun c_37_2 => ?_)
    · refine qk_tableIn C dX6_yearns_37 (2) c_37_2 (by decide) (by decide) rfl 86 rfl ?_
      refine qk_iloadn C dX6_yearns_86 87 rfl rfl 0 rfl ?_
      exact hret _ _ _ _ dX6_yearns_87 ⟨congrArg (fun x => some (Value.int x)) (by first | rfl | (simp [z_yn, z_y2, z_y0, z_sel, c_22, c_37_1, c_37_2]; done) | (simp [z_yn, z_y2, z_y0, z_sel, c_22, c_37_1, c_37_2]; decide) | (simp [z_yn, z_y2, z_y0, z_sel, c_22, c_37_1, c_37_2]; rfl) | (simp_all [z_yn, z_y2, z_y0, z_sel]; done)), rfl⟩ rfl
    refine qk_eqc (3) (fun c_37_3 => ?_) (fun c_37_3 => ?_)
    · refine qk_tableIn C dX6_yearns_37 (3) c_37_3 (by decide) (by decide) rfl 88 rfl ?_
      refine qk_iloadn C dX6_yearns_88 89 rfl rfl 0 rfl ?_
      refine qk_iconst C (1) dX6_yearns_89 90 rfl rfl ?_
      refine qk_iadd C dX6_yearns_90 91 rfl ?_
      exact hret _ _ _ _ dX6_yearns_91 ⟨congrArg (fun x => some (Value.int x)) (by first | rfl | (simp [z_yn, z_y2, z_y0, z_sel, c_22, c_37_1, c_37_2, c_37_3]; done) | (simp [z_yn, z_y2, z_y0, z_sel, c_22, c_37_1, c_37_2, c_37_3]; decide) | (simp [z_yn, z_y2, z_y0, z_sel, c_22, c_37_1, c_37_2, c_37_3]; rfl) | (simp_all [z_yn, z_y2, z_y0, z_sel]; done)), rfl⟩ rfl
    refine qk_eqc (4) (fun c_37_4 => ?_) (fun c_37_4 => ?_)
    · refine qk_tableIn C dX6_yearns_37 (4) c_37_4 (by decide) (by decide) rfl 92 rfl ?_
      refine qk_iconst C (0) dX6_yearns_92 93 rfl rfl ?_
      refine qk_iloadn C dX6_yearns_93 94 rfl rfl 0 rfl ?_
      refine qk_iconst C (1) dX6_yearns_94 95 rfl rfl ?_
      refine qk_iadd C dX6_yearns_95 96 rfl ?_
      refine qk_aloadn C dX6_yearns_96 97 rfl rfl 2 rfl ?_
      refine qk_iloadn C dX6_yearns_97 98 rfl rfl 3 rfl ?_
      refine qk_callV C dX6_yearns_98 101 rfl ql_X6_114 qc_X6_arms 53 (by decide) rfl rfl (c_X6_arms l G σ N v hI b hb) rfl rfl (Nat.le_of_ble_eq_true rfl) ⟨(Nat.le_of_ble_eq_true rfl), (Nat.le_of_ble_eq_true rfl)⟩ (qx_Ki ?_)
      refine qk_isub C dX6_yearns_101 102 rfl ?_
      refine qk_max C dX6_yearns_102 105 rfl ql_X6_117 ⟨(Nat.le_of_ble_eq_true rfl), (Nat.le_of_ble_eq_true rfl)⟩ ?_
      exact hret _ _ _ _ dX6_yearns_105 ⟨congrArg (fun x => some (Value.int x)) (by first | rfl | (simp [z_yn, z_y2, z_y0, z_sel, c_22, c_37_1, c_37_2, c_37_3, c_37_4]; done) | (simp [z_yn, z_y2, z_y0, z_sel, c_22, c_37_1, c_37_2, c_37_3, c_37_4]; decide) | (simp [z_yn, z_y2, z_y0, z_sel, c_22, c_37_1, c_37_2, c_37_3, c_37_4]; rfl) | (simp_all [z_yn, z_y2, z_y0, z_sel]; done)), rfl⟩ rfl
    refine qk_eqc (5) (fun c_37_5 => ?_) (fun c_37_5 => ?_)
    · refine qk_tableIn C dX6_yearns_37 (5) c_37_5 (by decide) (by decide) rfl 106 rfl ?_
      refine qk_iconst C (1) dX6_yearns_106 107 rfl rfl ?_
      exact hret _ _ _ _ dX6_yearns_107 ⟨congrArg (fun x => some (Value.int x)) (by first | rfl | (simp [z_yn, z_y2, z_y0, z_sel, c_22, c_37_1, c_37_2, c_37_3, c_37_4, c_37_5]; done) | (simp [z_yn, z_y2, z_y0, z_sel, c_22, c_37_1, c_37_2, c_37_3, c_37_4, c_37_5]; decide) | (simp [z_yn, z_y2, z_y0, z_sel, c_22, c_37_1, c_37_2, c_37_3, c_37_4, c_37_5]; rfl) | (simp_all [z_yn, z_y2, z_y0, z_sel]; done)), rfl⟩ rfl
    refine qk_eqc (6) (fun c_37_6 => ?_) (fun c_37_6 => ?_)
    · refine qk_tableIn C dX6_yearns_37 (6) c_37_6 (by decide) (by decide) rfl 80 rfl ?_
      refine qk_iconst C (2) dX6_yearns_80 81 rfl rfl ?_
      refine qk_iloadn C dX6_yearns_81 82 rfl rfl 1 rfl ?_
      refine qk_iconst C (1) dX6_yearns_82 83 rfl rfl ?_
      refine qk_iadd C dX6_yearns_83 84 rfl ?_
      refine qk_imul C dX6_yearns_84 85 rfl ?_
      exact hret _ _ _ _ dX6_yearns_85 ⟨congrArg (fun x => some (Value.int x)) (by first | rfl | (simp [z_yn, z_y2, z_y0, z_sel, c_22, c_37_1, c_37_2, c_37_3, c_37_4, c_37_5, c_37_6]; done) | (simp [z_yn, z_y2, z_y0, z_sel, c_22, c_37_1, c_37_2, c_37_3, c_37_4, c_37_5, c_37_6]; decide) | (simp [z_yn, z_y2, z_y0, z_sel, c_22, c_37_1, c_37_2, c_37_3, c_37_4, c_37_5, c_37_6]; rfl) | (simp_all [z_yn, z_y2, z_y0, z_sel]; done)), rfl⟩ rfl
    refine qk_tableOut C dX6_yearns_37 (by have h1 := lv_neT c_37_1 (show (1 : Int32).toInt = 1 from rfl); have h2 := lv_neT c_37_2 (show (2 : Int32).toInt = 2 from rfl); have h3 := lv_neT c_37_3 (show (3 : Int32).toInt = 3 from rfl); have h4 := lv_neT c_37_4 (show (4 : Int32).toInt = 4 from rfl); have h5 := lv_neT c_37_5 (show (5 : Int32).toInt = 5 from rfl); have h6 := lv_neT c_37_6 (show (6 : Int32).toInt = 6 from rfl); omega) 108 rfl ?_
    refine qk_iloadn C dX6_yearns_108 109 rfl rfl 1 rfl ?_
    exact hret _ _ _ _ dX6_yearns_109 ⟨congrArg (fun x => some (Value.int x)) (by first | rfl | (simp [z_yn, z_y2, z_y0, z_sel, c_22, c_37_1, c_37_2, c_37_3, c_37_4, c_37_5, c_37_6]; done) | (simp [z_yn, z_y2, z_y0, z_sel, c_22, c_37_1, c_37_2, c_37_3, c_37_4, c_37_5, c_37_6]; decide) | (simp [z_yn, z_y2, z_y0, z_sel, c_22, c_37_1, c_37_2, c_37_3, c_37_4, c_37_5, c_37_6]; rfl) | (simp_all [z_yn, z_y2, z_y0, z_sel]; done)), rfl⟩ rfl

theorem c_X6_leavesWith (l : Launch) (G : qx_G) (σ : qx_Sg) (v : Nat → Int32) (b : Nat) (hb : b < 8) : qx_Ct l G yX6_leavesWith cX6_leavesWith 2 (some .int) 2 43 [.ref (qx_ad G 53), .int (nI b)] (va_up σ 54 v) (qx_pi (z_lw (v (32 + 7 * b + 0))) (va_up σ 54 v)) := by
  refine qx_of .int (lo := [(0, .ref (qx_ad G 53)), (1, .int (nI b))]) (by decide +kernel) (Nat.le_of_ble_eq_true rfl) rfl (fun Δ (C : qx_C G Δ cX6_leavesWith RX6 2 2 43) hret => ?_)
  refine qk_aloadn C dX6_leavesWith_0 1 rfl rfl 0 rfl ?_
  refine qk_iloadn C dX6_leavesWith_1 2 rfl rfl 1 rfl ?_
  refine qk_iconst C (0) dX6_leavesWith_2 3 rfl rfl ?_
  refine qk_callV C dX6_leavesWith_3 6 rfl ql_X6_101 qc_X6_bustIs 53 (by decide) rfl rfl (c_X6_bustIs l G σ v b 0 (by omega) (by omega)) rfl rfl (Nat.le_of_ble_eq_true rfl) ⟨(Nat.le_of_ble_eq_true rfl), (Nat.le_of_ble_eq_true rfl)⟩ (qx_Ki ?_)
  refine qk_eqc (1) (fun c_6_1 => ?_) (fun c_6_1 => ?_)
  · refine qk_tableIn C dX6_leavesWith_6 (1) c_6_1 (by decide) (by decide) rfl 44 rfl ?_
    refine qk_bipush C (40) dX6_leavesWith_44 46 rfl rfl ?_
    exact hret _ _ _ _ dX6_leavesWith_46 ⟨congrArg (fun x => some (Value.int x)) (by first | rfl | (simp [z_lw, c_6_1]; done) | (simp [z_lw, c_6_1]; decide) | (simp [z_lw, c_6_1]; rfl) | (simp_all [z_lw]; done)), rfl⟩ rfl
  refine qk_eqc (2) (fun c_6_2 => ?_) (fun c_6_2 => ?_)
  · refine qk_tableIn C dX6_leavesWith_6 (2) c_6_2 (by decide) (by decide) rfl 47 rfl ?_
    refine qk_bipush C (80) dX6_leavesWith_47 49 rfl rfl ?_
    exact hret _ _ _ _ dX6_leavesWith_49 ⟨congrArg (fun x => some (Value.int x)) (by first | rfl | (simp [z_lw, c_6_1, c_6_2]; done) | (simp [z_lw, c_6_1, c_6_2]; decide) | (simp [z_lw, c_6_1, c_6_2]; rfl) | (simp_all [z_lw]; done)), rfl⟩ rfl
  refine qk_eqc (3) (fun c_6_3 => ?_) (fun c_6_3 => ?_)
  · refine qk_tableIn C dX6_leavesWith_6 (3) c_6_3 (by decide) (by decide) rfl 47 rfl ?_
    refine qk_bipush C (80) dX6_leavesWith_47 49 rfl rfl ?_
    exact hret _ _ _ _ dX6_leavesWith_49 ⟨congrArg (fun x => some (Value.int x)) (by first | rfl | (simp [z_lw, c_6_1, c_6_2, c_6_3]; done) | (simp [z_lw, c_6_1, c_6_2, c_6_3]; decide) | (simp [z_lw, c_6_1, c_6_2, c_6_3]; rfl) | (simp_all [z_lw]; done)), rfl⟩ rfl
  refine qk_eqc (4) (fun c_6_4 => ?_) (fun c_6_4 => ?_)
  · refine qk_tableIn C dX6_leavesWith_6 (4) c_6_4 (by decide) (by decide) rfl 44 rfl ?_
    refine qk_bipush C (40) dX6_leavesWith_44 46 rfl rfl ?_
    exact hret _ _ _ _ dX6_leavesWith_46 ⟨congrArg (fun x => some (Value.int x)) (by first | rfl | (simp [z_lw, c_6_1, c_6_2, c_6_3, c_6_4]; done) | (simp [z_lw, c_6_1, c_6_2, c_6_3, c_6_4]; decide) | (simp [z_lw, c_6_1, c_6_2, c_6_3, c_6_4]; rfl) | (simp_all [z_lw]; done)), rfl⟩ rfl
  refine qk_eqc (5) (fun c_6_5 => ?_) (fun c_6_5 => ?_)
  · refine qk_tableIn C dX6_leavesWith_6 (5) c_6_5 (by decide) (by decide) rfl 50 rfl ?_
    refine qk_bipush C (99) dX6_leavesWith_50 52 rfl rfl ?_
    exact hret _ _ _ _ dX6_leavesWith_52 ⟨congrArg (fun x => some (Value.int x)) (by first | rfl | (simp [z_lw, c_6_1, c_6_2, c_6_3, c_6_4, c_6_5]; done) | (simp [z_lw, c_6_1, c_6_2, c_6_3, c_6_4, c_6_5]; decide) | (simp [z_lw, c_6_1, c_6_2, c_6_3, c_6_4, c_6_5]; rfl) | (simp_all [z_lw]; done)), rfl⟩ rfl
  refine qk_eqc (6) (fun c_6_6 => ?_) (fun c_6_6 => ?_)
  · refine qk_tableIn C dX6_leavesWith_6 (6) c_6_6 (by decide) (by decide) rfl 44 rfl ?_
    refine qk_bipush C (40) dX6_leavesWith_44 46 rfl rfl ?_
    exact hret _ _ _ _ dX6_leavesWith_46 ⟨congrArg (fun x => some (Value.int x)) (by first | rfl | (simp [z_lw, c_6_1, c_6_2, c_6_3, c_6_4, c_6_5, c_6_6]; done) | (simp [z_lw, c_6_1, c_6_2, c_6_3, c_6_4, c_6_5, c_6_6]; decide) | (simp [z_lw, c_6_1, c_6_2, c_6_3, c_6_4, c_6_5, c_6_6]; rfl) | (simp_all [z_lw]; done)), rfl⟩ rfl
  refine qk_tableOut C dX6_leavesWith_6 (by have h1 := lv_neT c_6_1 (show (1 : Int32).toInt = 1 from rfl); have h2 := lv_neT c_6_2 (show (2 : Int32).toInt = 2 from rfl); have h3 := lv_neT c_6_3 (show (3 : Int32).toInt = 3 from rfl); have h4 := lv_neT c_6_4 (show (4 : Int32).toInt = 4 from rfl); have h5 := lv_neT c_6_5 (show (5 : Int32).toInt = 5 from rfl); have h6 := lv_neT c_6_6 (show (6 : Int32).toInt = 6 from rfl); omega) 53 rfl ?_
  refine qk_bipush C (50) dX6_leavesWith_53 55 rfl rfl ?_
  exact hret _ _ _ _ dX6_leavesWith_55 ⟨congrArg (fun x => some (Value.int x)) (by first | rfl | (simp [z_lw, c_6_1, c_6_2, c_6_3, c_6_4, c_6_5, c_6_6]; done) | (simp [z_lw, c_6_1, c_6_2, c_6_3, c_6_4, c_6_5, c_6_6]; decide) | (simp [z_lw, c_6_1, c_6_2, c_6_3, c_6_4, c_6_5, c_6_6]; rfl) | (simp_all [z_lw]; done)), rfl⟩ rfl

theorem c_X6_steps (l : Launch) (G : qx_G) (σ : qx_Sg) (v : Nat → Int32) (b : Nat) (hb : b < 8) : qx_Ct l G yX6_steps cX6_steps 2 (some .int) 3 65 [.ref (qx_ad G 53), .int (nI b)] (va_up σ 54 v) (qx_pi (z_st (v (32 + 7 * b + 0)) (v (32 + 7 * b + 2))) (va_up σ 54 v)) := by
  refine qx_of .int (lo := [(0, .ref (qx_ad G 53)), (1, .int (nI b))]) (by decide +kernel) (Nat.le_of_ble_eq_true rfl) rfl (fun Δ (C : qx_C G Δ cX6_steps RX6 2 3 65) hret => ?_)
  refine qk_aloadn C dX6_steps_0 1 rfl rfl 0 rfl ?_
  refine qk_iloadn C dX6_steps_1 2 rfl rfl 1 rfl ?_
  refine qk_iconst C (0) dX6_steps_2 3 rfl rfl ?_
  refine qk_callV C dX6_steps_3 6 rfl ql_X6_101 qc_X6_bustIs 53 (by decide) rfl rfl (c_X6_bustIs l G σ v b 0 (by omega) (by omega)) rfl rfl (Nat.le_of_ble_eq_true rfl) ⟨(Nat.le_of_ble_eq_true rfl), (Nat.le_of_ble_eq_true rfl)⟩ (qx_Ki ?_)
  refine qk_eqc (1) (fun c_6_1 => ?_) (fun c_6_1 => ?_)
  · refine qk_tableIn C dX6_steps_6 (1) c_6_1 (by decide) (by decide) rfl 44 rfl ?_
    refine qk_iconst C (2) dX6_steps_44 45 rfl rfl ?_
    exact hret _ _ _ _ dX6_steps_45 ⟨congrArg (fun x => some (Value.int x)) (by first | rfl | (simp [z_st, z_sel, c_6_1]; done) | (simp [z_st, z_sel, c_6_1]; decide) | (simp [z_st, z_sel, c_6_1]; rfl) | (simp_all [z_st, z_sel]; done)), rfl⟩ rfl
  refine qk_eqc (2) (fun c_6_2 => ?_) (fun c_6_2 => ?_)
  · refine qk_tableIn C dX6_steps_6 (2) c_6_2 (by decide) (by decide) rfl 64 rfl ?_
    refine qk_iconst C (1) dX6_steps_64 65 rfl rfl ?_
    exact hret _ _ _ _ dX6_steps_65 ⟨congrArg (fun x => some (Value.int x)) (by first | rfl | (simp [z_st, z_sel, c_6_1, c_6_2]; done) | (simp [z_st, z_sel, c_6_1, c_6_2]; decide) | (simp [z_st, z_sel, c_6_1, c_6_2]; rfl) | (simp_all [z_st, z_sel]; done)), rfl⟩ rfl
  refine qk_eqc (3) (fun c_6_3 => ?_) (fun c_6_3 => ?_)
  · refine qk_tableIn C dX6_steps_6 (3) c_6_3 (by decide) (by decide) rfl 44 rfl ?_
    refine qk_iconst C (2) dX6_steps_44 45 rfl rfl ?_
    exact hret _ _ _ _ dX6_steps_45 ⟨congrArg (fun x => some (Value.int x)) (by first | rfl | (simp [z_st, z_sel, c_6_1, c_6_2, c_6_3]; done) | (simp [z_st, z_sel, c_6_1, c_6_2, c_6_3]; decide) | (simp [z_st, z_sel, c_6_1, c_6_2, c_6_3]; rfl) | (simp_all [z_st, z_sel]; done)), rfl⟩ rfl
  refine qk_eqc (4) (fun c_6_4 => ?_) (fun c_6_4 => ?_)
  · refine qk_tableIn C dX6_steps_6 (4) c_6_4 (by decide) (by decide) rfl 44 rfl ?_
    refine qk_iconst C (2) dX6_steps_44 45 rfl rfl ?_
    exact hret _ _ _ _ dX6_steps_45 ⟨congrArg (fun x => some (Value.int x)) (by first | rfl | (simp [z_st, z_sel, c_6_1, c_6_2, c_6_3, c_6_4]; done) | (simp [z_st, z_sel, c_6_1, c_6_2, c_6_3, c_6_4]; decide) | (simp [z_st, z_sel, c_6_1, c_6_2, c_6_3, c_6_4]; rfl) | (simp_all [z_st, z_sel]; done)), rfl⟩ rfl
  refine qk_eqc (5) (fun c_6_5 => ?_) (fun c_6_5 => ?_)
  · refine qk_tableIn C dX6_steps_6 (5) c_6_5 (by decide) (by decide) rfl 62 rfl ?_
    refine qk_iconst C (5) dX6_steps_62 63 rfl rfl ?_
    exact hret _ _ _ _ dX6_steps_63 ⟨congrArg (fun x => some (Value.int x)) (by first | rfl | (simp [z_st, z_sel, c_6_1, c_6_2, c_6_3, c_6_4, c_6_5]; done) | (simp [z_st, z_sel, c_6_1, c_6_2, c_6_3, c_6_4, c_6_5]; decide) | (simp [z_st, z_sel, c_6_1, c_6_2, c_6_3, c_6_4, c_6_5]; rfl) | (simp_all [z_st, z_sel]; done)), rfl⟩ rfl
  refine qk_eqc (6) (fun c_6_6 => ?_) (fun c_6_6 => ?_)
  · refine qk_tableIn C dX6_steps_6 (6) c_6_6 (by decide) (by decide) rfl 46 rfl ?_
    refine qk_aloadn C dX6_steps_46 47 rfl rfl 0 rfl ?_
    refine qk_iloadn C dX6_steps_47 48 rfl rfl 1 rfl ?_
    refine qk_bipush C (10) dX6_steps_48 50 rfl rfl ?_
    refine qk_callV C dX6_steps_50 53 rfl ql_X6_104 qc_X6_has 53 (by decide) rfl rfl (c_X6_has l G σ v b (by omega) _) rfl rfl (Nat.le_of_ble_eq_true rfl) ⟨(Nat.le_of_ble_eq_true rfl), (Nat.le_of_ble_eq_true rfl)⟩ (qx_Ki ?_)
    refine qk_if_eqB C dX6_steps_53 60 rfl 56 rfl (fun c_53 => ?_) (fun c_53 => ?_)
    · refine qk_iconst C (2) dX6_steps_60 61 rfl rfl ?_
      exact hret _ _ _ _ dX6_steps_61 ⟨congrArg (fun x => some (Value.int x)) (by first | rfl | (simp [z_st, z_sel, c_6_1, c_6_2, c_6_3, c_6_4, c_6_5, c_6_6, c_53]; done) | (simp [z_st, z_sel, c_6_1, c_6_2, c_6_3, c_6_4, c_6_5, c_6_6, c_53]; decide) | (simp [z_st, z_sel, c_6_1, c_6_2, c_6_3, c_6_4, c_6_5, c_6_6, c_53]; rfl) | (simp_all [z_st, z_sel]; done)), rfl⟩ rfl
    · refine qk_iconst C (3) dX6_steps_56 57 rfl rfl ?_
      refine qk_goto C dX6_steps_57 61 rfl ?_
      exact hret _ _ _ _ dX6_steps_61 ⟨congrArg (fun x => some (Value.int x)) (by first | rfl | (simp [z_st, z_sel, c_6_1, c_6_2, c_6_3, c_6_4, c_6_5, c_6_6, c_53]; done) | (simp [z_st, z_sel, c_6_1, c_6_2, c_6_3, c_6_4, c_6_5, c_6_6, c_53]; decide) | (simp [z_st, z_sel, c_6_1, c_6_2, c_6_3, c_6_4, c_6_5, c_6_6, c_53]; rfl) | (simp_all [z_st, z_sel]; done)), rfl⟩ rfl
  refine qk_tableOut C dX6_steps_6 (by have h1 := lv_neT c_6_1 (show (1 : Int32).toInt = 1 from rfl); have h2 := lv_neT c_6_2 (show (2 : Int32).toInt = 2 from rfl); have h3 := lv_neT c_6_3 (show (3 : Int32).toInt = 3 from rfl); have h4 := lv_neT c_6_4 (show (4 : Int32).toInt = 4 from rfl); have h5 := lv_neT c_6_5 (show (5 : Int32).toInt = 5 from rfl); have h6 := lv_neT c_6_6 (show (6 : Int32).toInt = 6 from rfl); omega) 64 rfl ?_
  refine qk_iconst C (1) dX6_steps_64 65 rfl rfl ?_
  exact hret _ _ _ _ dX6_steps_65 ⟨congrArg (fun x => some (Value.int x)) (by first | rfl | (simp [z_st, z_sel, c_6_1, c_6_2, c_6_3, c_6_4, c_6_5, c_6_6]; done) | (simp [z_st, z_sel, c_6_1, c_6_2, c_6_3, c_6_4, c_6_5, c_6_6]; decide) | (simp [z_st, z_sel, c_6_1, c_6_2, c_6_3, c_6_4, c_6_5, c_6_6]; rfl) | (simp_all [z_st, z_sel]; done)), rfl⟩ rfl

theorem c_X6_greatest (l : Launch) (G : qx_G) (σ : qx_Sg) (v : Nat → Int32) (b : Nat) (hb : b < 8) : qx_Ct l G yX6_greatest cX6_greatest 3 (some .int) 3 65 [.ref (qx_ad G 53), .int (nI b)] (va_up σ 54 v) (qx_pi (z_gp (v (32 + 7 * b + 2))) (va_up σ 54 v)) := by
  refine qx_of .int (lo := [(0, .ref (qx_ad G 53)), (1, .int (nI b))]) (by decide +kernel) (Nat.le_of_ble_eq_true rfl) rfl (fun Δ (C : qx_C G Δ cX6_greatest RX6 3 3 65) hret => ?_)
  refine qk_bipush C (nI 11) dX6_greatest_0 2 rfl rfl ?_
  refine qk_istoren C dX6_greatest_2 3 rfl rfl (by decide) rfl ?_
  have lp_3 : ∀ (n_3 : Nat) (i : Nat), i ≤ 11 ∧ z_gp (v (32 + 7 * b + 2)) = z_gF (v (32 + 7 * b + 2)) i → i < n_3 → qx_K l G Δ (va_up σ 54 v) 3 [(2, .int (nI i)), (0, .ref (qx_ad G 53)), (1, .int (nI b))] [] := by
    intro n_3
    induction n_3 with
    | zero => intro _ _ h9; exact absurd h9 (Nat.not_lt_zero _)
    | succ n_3 ih_3 =>
      intro i hi hm_3
      refine qk_iloadn C dX6_greatest_3 4 rfl rfl 0 rfl ?_
      refine qk_if_le C dX6_greatest_4 22 rfl 7 rfl (fun c_4 => ?_) (fun c_4 => ?_)
      · have hi0 : i = 0 := by
          rcases Nat.eq_zero_or_pos i with e | e
          · exact e
          · exact absurd c_4 (nI_nle e (by omega))
        refine qk_iloadn C dX6_greatest_22 23 rfl rfl 0 rfl ?_
        exact hret _ _ _ _ dX6_greatest_23 ⟨congrArg (fun x => some (Value.int x)) (by rw [hi.2, hi0]; rfl), rfl⟩ rfl
      · have hi0 : 0 < i := Nat.pos_of_ne_zero (fun e => c_4 (by subst e; decide))
        refine qk_aloadn C dX6_greatest_7 8 rfl rfl 1 rfl ?_
        refine qk_iloadn C dX6_greatest_8 9 rfl rfl 2 rfl ?_
        refine qk_iloadn C dX6_greatest_9 10 rfl rfl 0 rfl ?_
        refine qk_callV C dX6_greatest_10 13 rfl ql_X6_104 qc_X6_has 53 (by decide) rfl rfl (c_X6_has l G σ v b (by omega) _) rfl rfl (Nat.le_of_ble_eq_true rfl) ⟨(Nat.le_of_ble_eq_true rfl), (Nat.le_of_ble_eq_true rfl)⟩ (qx_Ki ?_)
        refine qk_if_neB C dX6_greatest_13 22 rfl 16 rfl (fun c_13 => ?_) (fun c_13 => ?_)
        · refine qk_iloadn C dX6_greatest_22 23 rfl rfl 0 rfl ?_
          exact hret _ _ _ _ dX6_greatest_23 ⟨congrArg (fun x => some (Value.int x)) (by rw [hi.2]; exact (z_gF_hit hi0 c_13).symm), rfl⟩ rfl
        · refine qk_iinc C (nI (i - 1)) dX6_greatest_16 19 rfl 0 rfl (by obtain ⟨j, rfl⟩ : ∃ j, i = j + 1 := ⟨i - 1, by omega⟩; exact pk_m1 j) (by decide) rfl ?_
          refine qk_goto C dX6_greatest_19 3 rfl ?_
          exact ih_3 (i - 1) ⟨by omega, by rw [hi.2]; exact z_gF_step hi0 c_13⟩ (by omega)
  exact lp_3 _ 11 ⟨by decide, rfl⟩ (Nat.lt_succ_self _)

theorem c_X6_says (l : Launch) (G : qx_G) (σ : qx_Sg) (N : Nat) (v : Nat → Int32) (hI : qv_ok v N) (b : Nat) (hb : b < N) : qx_Ct l G yX6_says cX6_says 4 (some .int) 4 87 [.ref (qx_ad G 53), .int (nI b)] (va_up σ 54 v) (qx_pi (z_say (z_row v b)) (va_up σ 54 v)) := by
  refine qx_of .int (lo := [(0, .ref (qx_ad G 53)), (1, .int (nI b))]) (by decide +kernel) (Nat.le_of_ble_eq_true rfl) rfl (fun Δ (C : qx_C G Δ cX6_says RX6 4 4 87) hret => ?_)
  have hN8 := hI.1
  have hN1 := hI.2.1
  refine qk_bipush C (10) dX6_says_0 2 rfl rfl ?_
  refine qk_aloadn C dX6_says_2 3 rfl rfl 0 rfl ?_
  refine qk_iloadn C dX6_says_3 4 rfl rfl 1 rfl ?_
  refine qk_iconst C (2) dX6_says_4 5 rfl rfl ?_
  refine qk_callV C dX6_says_5 8 rfl ql_X6_101 qc_X6_bustIs 53 (by decide) rfl rfl (c_X6_bustIs l G σ v b 2 (by omega) (by omega)) rfl rfl (Nat.le_of_ble_eq_true rfl) ⟨(Nat.le_of_ble_eq_true rfl), (Nat.le_of_ble_eq_true rfl)⟩ (qx_Ki ?_)
  refine qk_callS C dX6_says_8 11 rfl ql_X6_111 qc_X6_bits (c_X6_bits l G _ _ (m_4k ((hI.2.2.2.2.1 b hb).2.1))) rfl rfl (Nat.le_of_ble_eq_true rfl) ⟨(Nat.le_of_ble_eq_true rfl), (Nat.le_of_ble_eq_true rfl)⟩ (qx_Ki ?_)
  refine qk_imul C dX6_says_11 12 rfl ?_
  refine qk_istoren C dX6_says_12 13 rfl rfl (by decide) rfl ?_
  refine qk_iconst C (0) dX6_says_13 14 rfl rfl ?_
  refine qk_iloadn C dX6_says_14 15 rfl rfl 0 rfl ?_
  refine qk_aloadn C dX6_says_15 16 rfl rfl 1 rfl ?_
  refine qk_iloadn C dX6_says_16 17 rfl rfl 2 rfl ?_
  refine qk_iconst C (4) dX6_says_17 18 rfl rfl ?_
  refine qk_callV C dX6_says_18 21 rfl ql_X6_101 qc_X6_bustIs 53 (by decide) rfl rfl (c_X6_bustIs l G σ v b 4 (by omega) (by omega)) rfl rfl (Nat.le_of_ble_eq_true rfl) ⟨(Nat.le_of_ble_eq_true rfl), (Nat.le_of_ble_eq_true rfl)⟩ (qx_Ki ?_)
  refine qk_isub C dX6_says_21 22 rfl ?_
  refine qk_max C dX6_says_22 25 rfl ql_X6_117 ⟨(Nat.le_of_ble_eq_true rfl), (Nat.le_of_ble_eq_true rfl)⟩ ?_
  refine qk_istoren C dX6_says_25 26 rfl rfl (by decide) rfl ?_
  refine qk_aloadn C dX6_says_26 27 rfl rfl 2 rfl ?_
  refine qk_iloadn C dX6_says_27 28 rfl rfl 3 rfl ?_
  refine qk_iconst C (0) dX6_says_28 29 rfl rfl ?_
  refine qk_callV C dX6_says_29 32 rfl ql_X6_101 qc_X6_bustIs 53 (by decide) rfl rfl (c_X6_bustIs l G σ v b 0 (by omega) (by omega)) rfl rfl (Nat.le_of_ble_eq_true rfl) ⟨(Nat.le_of_ble_eq_true rfl), (Nat.le_of_ble_eq_true rfl)⟩ (qx_Ki ?_)
  refine qk_eqc (1) (fun c_32_1 => ?_) (fun c_32_1 => ?_)
  · refine qk_tableIn C dX6_says_32 (1) c_32_1 (by decide) (by decide) rfl 72 rfl ?_
    refine qk_iloadn C dX6_says_72 73 rfl rfl 1 rfl ?_
    refine qk_aloadn C dX6_says_73 74 rfl rfl 2 rfl ?_
    refine qk_iloadn C dX6_says_74 75 rfl rfl 3 rfl ?_
    refine qk_callV C dX6_says_75 78 rfl ql_X6_122 qc_X6_greatest 53 (by decide) rfl rfl (c_X6_greatest l G σ v b (by omega)) rfl rfl (Nat.le_of_ble_eq_true rfl) ⟨(Nat.le_of_ble_eq_true rfl), (Nat.le_of_ble_eq_true rfl)⟩ (qx_Ki ?_)
    refine qk_iadd C dX6_says_78 79 rfl ?_
    exact hret _ _ _ _ dX6_says_79 ⟨congrArg (fun x => some (Value.int x)) (by first | rfl | (simp [z_say, z_sy, z_s3, z_s2, z_s0, z_sel, z_row, c_32_1]; done) | (simp [z_say, z_sy, z_s3, z_s2, z_s0, z_sel, z_row, c_32_1]; decide) | (simp [z_say, z_sy, z_s3, z_s2, z_s0, z_sel, z_row, c_32_1]; rfl) | (simp_all [z_say, z_sy, z_s3, z_s2, z_s0, z_sel, z_row]; done)), rfl⟩ rfl
  refine qk_eqc (2) (fun c_32_2 => ?_) (fun c_32_2 => ?_)
  · refine qk_tableIn C dX6_says_32 (2) c_32_2 (by decide) (by decide) rfl 90 rfl ?_
    refine qk_iloadn C dX6_says_90 91 rfl rfl 0 rfl ?_
    exact hret _ _ _ _ dX6_says_91 ⟨congrArg (fun x => some (Value.int x)) (by first | rfl | (simp [z_say, z_sy, z_s3, z_s2, z_s0, z_sel, z_row, c_32_1, c_32_2]; done) | (simp [z_say, z_sy, z_s3, z_s2, z_s0, z_sel, z_row, c_32_1, c_32_2]; decide) | (simp [z_say, z_sy, z_s3, z_s2, z_s0, z_sel, z_row, c_32_1, c_32_2]; rfl) | (simp_all [z_say, z_sy, z_s3, z_s2, z_s0, z_sel, z_row]; done)), rfl⟩ rfl
  refine qk_eqc (3) (fun c_32_3 => ?_) (fun c_32_3 => ?_)
  · refine qk_tableIn C dX6_says_32 (3) c_32_3 (by decide) (by decide) rfl 92 rfl ?_
    refine qk_iloadn C dX6_says_92 93 rfl rfl 0 rfl ?_
    refine qk_bipush C (7) dX6_says_93 95 rfl rfl ?_
    refine qk_aloadn C dX6_says_95 96 rfl rfl 2 rfl ?_
    refine qk_iloadn C dX6_says_96 97 rfl rfl 3 rfl ?_
    refine qk_callV C dX6_says_97 100 rfl ql_X6_114 qc_X6_arms 53 (by decide) rfl rfl (c_X6_arms l G σ N v hI b hb) rfl rfl (Nat.le_of_ble_eq_true rfl) ⟨(Nat.le_of_ble_eq_true rfl), (Nat.le_of_ble_eq_true rfl)⟩ (qx_Ki ?_)
    refine qk_imul C dX6_says_100 101 rfl ?_
    refine qk_iadd C dX6_says_101 102 rfl ?_
    exact hret _ _ _ _ dX6_says_102 ⟨congrArg (fun x => some (Value.int x)) (by first | rfl | (simp [z_say, z_sy, z_s3, z_s2, z_s0, z_sel, z_row, c_32_1, c_32_2, c_32_3]; done) | (simp [z_say, z_sy, z_s3, z_s2, z_s0, z_sel, z_row, c_32_1, c_32_2, c_32_3]; decide) | (simp [z_say, z_sy, z_s3, z_s2, z_s0, z_sel, z_row, c_32_1, c_32_2, c_32_3]; rfl) | (simp_all [z_say, z_sy, z_s3, z_s2, z_s0, z_sel, z_row]; done)), rfl⟩ rfl
  refine qk_eqc (4) (fun c_32_4 => ?_) (fun c_32_4 => ?_)
  · refine qk_tableIn C dX6_says_32 (4) c_32_4 (by decide) (by decide) rfl 103 rfl ?_
    refine qk_iloadn C dX6_says_103 104 rfl rfl 0 rfl ?_
    refine qk_bipush C (7) dX6_says_104 106 rfl rfl ?_
    refine qk_aloadn C dX6_says_106 107 rfl rfl 2 rfl ?_
    refine qk_iloadn C dX6_says_107 108 rfl rfl 3 rfl ?_
    refine qk_callV C dX6_says_108 111 rfl ql_X6_114 qc_X6_arms 53 (by decide) rfl rfl (c_X6_arms l G σ N v hI b hb) rfl rfl (Nat.le_of_ble_eq_true rfl) ⟨(Nat.le_of_ble_eq_true rfl), (Nat.le_of_ble_eq_true rfl)⟩ (qx_Ki ?_)
    refine qk_imul C dX6_says_111 112 rfl ?_
    refine qk_iadd C dX6_says_112 113 rfl ?_
    refine qk_aloadn C dX6_says_113 114 rfl rfl 2 rfl ?_
    refine qk_iloadn C dX6_says_114 115 rfl rfl 3 rfl ?_
    refine qk_iconst C (1) dX6_says_115 116 rfl rfl ?_
    refine qk_callV C dX6_says_116 119 rfl ql_X6_101 qc_X6_bustIs 53 (by decide) rfl rfl (c_X6_bustIs l G σ v b 1 (by omega) (by omega)) rfl rfl (Nat.le_of_ble_eq_true rfl) ⟨(Nat.le_of_ble_eq_true rfl), (Nat.le_of_ble_eq_true rfl)⟩ (qx_Ki ?_)
    refine qk_bipush C (10) dX6_says_119 121 rfl rfl ?_
    refine qk_irem C dX6_says_121 122 rfl (by decide) ?_
    refine qk_iadd C dX6_says_122 123 rfl ?_
    exact hret _ _ _ _ dX6_says_123 ⟨congrArg (fun x => some (Value.int x)) (by first | rfl | (simp [z_say, z_sy, z_s3, z_s2, z_s0, z_sel, z_row, c_32_1, c_32_2, c_32_3, c_32_4]; done) | (simp [z_say, z_sy, z_s3, z_s2, z_s0, z_sel, z_row, c_32_1, c_32_2, c_32_3, c_32_4]; decide) | (simp [z_say, z_sy, z_s3, z_s2, z_s0, z_sel, z_row, c_32_1, c_32_2, c_32_3, c_32_4]; rfl) | (simp_all [z_say, z_sy, z_s3, z_s2, z_s0, z_sel, z_row]; done)), rfl⟩ rfl
  refine qk_eqc (5) (fun c_32_5 => ?_) (fun c_32_5 => ?_)
  · refine qk_tableIn C dX6_says_32 (5) c_32_5 (by decide) (by decide) rfl 124 rfl ?_
    refine qk_aloadn C dX6_says_124 125 rfl rfl 2 rfl ?_
    refine qk_iloadn C dX6_says_125 126 rfl rfl 3 rfl ?_
    refine qk_iconst C (0) dX6_says_126 127 rfl rfl ?_
    refine qk_callV C dX6_says_127 130 rfl ql_X6_104 qc_X6_has 53 (by decide) rfl rfl (c_X6_has l G σ v b (by omega) _) rfl rfl (Nat.le_of_ble_eq_true rfl) ⟨(Nat.le_of_ble_eq_true rfl), (Nat.le_of_ble_eq_true rfl)⟩ (qx_Ki ?_)
    refine qk_if_eqB C dX6_says_130 137 rfl 133 rfl (fun c_130 => ?_) (fun c_130 => ?_)
    · refine qk_iconst C (0) dX6_says_137 138 rfl rfl ?_
      exact hret _ _ _ _ dX6_says_138 ⟨congrArg (fun x => some (Value.int x)) (by first | rfl | (simp [z_say, z_sy, z_s3, z_s2, z_s0, z_sel, z_row, c_32_1, c_32_2, c_32_3, c_32_4, c_32_5, c_130]; done) | (simp [z_say, z_sy, z_s3, z_s2, z_s0, z_sel, z_row, c_32_1, c_32_2, c_32_3, c_32_4, c_32_5, c_130]; decide) | (simp [z_say, z_sy, z_s3, z_s2, z_s0, z_sel, z_row, c_32_1, c_32_2, c_32_3, c_32_4, c_32_5, c_130]; rfl) | (simp_all [z_say, z_sy, z_s3, z_s2, z_s0, z_sel, z_row]; done)), rfl⟩ rfl
    · refine qk_iloadn C dX6_says_133 134 rfl rfl 1 rfl ?_
      refine qk_goto C dX6_says_134 138 rfl ?_
      exact hret _ _ _ _ dX6_says_138 ⟨congrArg (fun x => some (Value.int x)) (by first | rfl | (simp [z_say, z_sy, z_s3, z_s2, z_s0, z_sel, z_row, c_32_1, c_32_2, c_32_3, c_32_4, c_32_5, c_130]; done) | (simp [z_say, z_sy, z_s3, z_s2, z_s0, z_sel, z_row, c_32_1, c_32_2, c_32_3, c_32_4, c_32_5, c_130]; decide) | (simp [z_say, z_sy, z_s3, z_s2, z_s0, z_sel, z_row, c_32_1, c_32_2, c_32_3, c_32_4, c_32_5, c_130]; rfl) | (simp_all [z_say, z_sy, z_s3, z_s2, z_s0, z_sel, z_row]; done)), rfl⟩ rfl
  refine qk_eqc (6) (fun c_32_6 => ?_) (fun c_32_6 => ?_)
  · refine qk_tableIn C dX6_says_32 (6) c_32_6 (by decide) (by decide) rfl 80 rfl ?_
    refine qk_iconst C (3) dX6_says_80 81 rfl rfl ?_
    refine qk_iloadn C dX6_says_81 82 rfl rfl 1 rfl ?_
    refine qk_aloadn C dX6_says_82 83 rfl rfl 2 rfl ?_
    refine qk_iloadn C dX6_says_83 84 rfl rfl 3 rfl ?_
    refine qk_callV C dX6_says_84 87 rfl ql_X6_122 qc_X6_greatest 53 (by decide) rfl rfl (c_X6_greatest l G σ v b (by omega)) rfl rfl (Nat.le_of_ble_eq_true rfl) ⟨(Nat.le_of_ble_eq_true rfl), (Nat.le_of_ble_eq_true rfl)⟩ (qx_Ki ?_)
    refine qk_iadd C dX6_says_87 88 rfl ?_
    refine qk_imul C dX6_says_88 89 rfl ?_
    exact hret _ _ _ _ dX6_says_89 ⟨congrArg (fun x => some (Value.int x)) (by first | rfl | (simp [z_say, z_sy, z_s3, z_s2, z_s0, z_sel, z_row, c_32_1, c_32_2, c_32_3, c_32_4, c_32_5, c_32_6]; done) | (simp [z_say, z_sy, z_s3, z_s2, z_s0, z_sel, z_row, c_32_1, c_32_2, c_32_3, c_32_4, c_32_5, c_32_6]; decide) | (simp [z_say, z_sy, z_s3, z_s2, z_s0, z_sel, z_row, c_32_1, c_32_2, c_32_3, c_32_4, c_32_5, c_32_6]; rfl) | (simp_all [z_say, z_sy, z_s3, z_s2, z_s0, z_sel, z_row]; done)), rfl⟩ rfl
  refine qk_tableOut C dX6_says_32 (by have h1 := lv_neT c_32_1 (show (1 : Int32).toInt = 1 from rfl); have h2 := lv_neT c_32_2 (show (2 : Int32).toInt = 2 from rfl); have h3 := lv_neT c_32_3 (show (3 : Int32).toInt = 3 from rfl); have h4 := lv_neT c_32_4 (show (4 : Int32).toInt = 4 from rfl); have h5 := lv_neT c_32_5 (show (5 : Int32).toInt = 5 from rfl); have h6 := lv_neT c_32_6 (show (6 : Int32).toInt = 6 from rfl); omega) 139 rfl ?_
  refine qk_iloadn C dX6_says_139 140 rfl rfl 1 rfl ?_
  exact hret _ _ _ _ dX6_says_140 ⟨congrArg (fun x => some (Value.int x)) (by first | rfl | (simp [z_say, z_sy, z_s3, z_s2, z_s0, z_sel, z_row, c_32_1, c_32_2, c_32_3, c_32_4, c_32_5, c_32_6]; done) | (simp [z_say, z_sy, z_s3, z_s2, z_s0, z_sel, z_row, c_32_1, c_32_2, c_32_3, c_32_4, c_32_5, c_32_6]; decide) | (simp [z_say, z_sy, z_s3, z_s2, z_s0, z_sel, z_row, c_32_1, c_32_2, c_32_3, c_32_4, c_32_5, c_32_6]; rfl) | (simp_all [z_say, z_sy, z_s3, z_s2, z_s0, z_sel, z_row]; done)), rfl⟩ rfl

