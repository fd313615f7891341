/-! the model: odds, copies of sheets -/
def qMl (σ : qx_Sg) (S : qR) (r : Int64) : Option Value → qx_Sg → Prop := fun v σ' => v = some (.long r) ∧ qEm σ S σ'
theorem m_bc12_all : ((List.range 4096).all fun n => decide (¬ z_bc (nI n) < 0) && decide (¬ 12 < z_bc (nI n))) = true := by decide +kernel
theorem m_bc12 {x : Int32} (h : ∃ n, n < 4096 ∧ x = nI n) : ∃ g, g ≤ 12 ∧ z_bc x = nI g := by
  obtain ⟨n, hn, rfl⟩ := h
  have := List.all_eq_true.mp m_bc12_all n (List.mem_range.mpr hn)
  simp only [Bool.and_eq_true, decide_eq_true_eq] at this
  exact z_in_ex 12 rfl (by omega) (show z_in (z_bc (nI n)) 12 from this)
theorem m_od_all : ∀ g, g < 13 → z_od 12 (nI g) 12 = (nI g / nI (Nat.gcd 12 g), 12 / nI (Nat.gcd 12 g)) := by decide +kernel
theorem m_gcd_s {x y : Nat} : Nat.gcd y (x % y) = Nat.gcd x y := by
  rw [Nat.gcd_comm x y, Nat.gcd_rec y x, Nat.gcd_comm]
theorem m_lsum {a m z : Nat} (ha : a < 2 ^ 31) (hm : m < 2 ^ 31) (hz : z < 2 ^ 31) : ((nI z).toInt64 < (nI a).toInt64 + (nI m).toInt64) ↔ z < a + m := by
  rw [Int64.lt_iff_toInt_lt, Int64.toInt_add, Int32.toInt_toInt64, Int32.toInt_toInt64, Int32.toInt_toInt64, nI_toInt hz, nI_toInt ha, nI_toInt hm, Int.bmod_eq_of_le (by omega) (by omega)]
  omega
theorem m_sps {a m z : Nat} (ha : a < 2 ^ 31) (hm : m < 2 ^ 31) (hz : z ≤ 40) : z_sps (nI z) (nI a) (nI m) ↔ a + m ≤ z := by
  constructor
  · intro h
    obtain ⟨a2, m2, e1, e2, h3⟩ := z_sps_ex hz h
    have h1 := (nI_eq ha (by omega)).mp e1
    have h2 := (nI_eq hm (by omega)).mp e2
    omega
  · intro h
    exact ⟨nI_pos (by omega), nI_pos (by omega), nI_nlt (by omega) (by omega), by rw [pk_sub (show m ≤ z by omega)]; exact nI_nlt (by omega) (by omega)⟩
def m_cp (r : Nat → Int32) (p q k : Nat) : Nat → Int32 := fun i => if q ≤ i ∧ i < q + k then r (p + (i - q)) else r i
noncomputable def M_copy (σ : qx_Sg) (s f t g n : Int32) : qT2 := zw (z_in s 3 ∧ z_in t 3) (zw (σ 61 (zn s) = 0 ∨ σ 61 (zn t) = 0) (m_bw σ 5) (zw (σ 61 (zn s) = σ 61 (zn t)) (zw (z_sps (σ 62 (zn s)) f n ∧ z_sps (σ 62 (zn t)) g n) (n, va_up σ 63 (m_cp (σ 63) (40 * zn s + zn f) (40 * zn t + zn g) (zn n))) (m_bw σ 0)) (m_bw σ 2))) (m_bw σ 0)
def qPu (T : qT2) : Option Value → qx_Sg → Prop := fun v σ' => v = some (.int T.1) ∧ ∀ k, ¬ k = 64 → σ' k = T.2 k
theorem qPu_of {T : qT2} {r : Int32} {σ' : qx_Sg} (h : T = (r, σ')) : qPu T (some (.int r)) σ' := by subst h; exact ⟨rfl, fun _ _ => rfl⟩
theorem m_64 {σ : qx_Sg} {a b : Nat → Int32} : ∀ k, ¬ k = 64 → va_up (va_up σ 64 a) 63 b k = va_up σ 63 b k := by
  intro k hk
  by_cases e : k = 63
  · subst e
    rw [qx_up_eq, qx_up_eq]
  · rw [qx_up_ne e, qx_up_ne e, qx_up_ne hk]
def m_mv (r r4 : Nat → Int32) (p k : Nat) : Nat → Int32 := fun i => if i < k then r (p + i) else r4 i
theorem m_mv_s {r r4 : Nat → Int32} {p k : Nat} : upd (m_mv r r4 p k) k (r (p + k)) = m_mv r r4 p (k + 1) := by
  funext i
  unfold upd m_mv
  by_cases e : i = k
  · rw [if_pos e, if_pos (by omega), e]
  · rw [if_neg e]
    by_cases h : i < k
    · rw [if_pos h, if_pos (by omega)]
    · rw [if_neg h, if_neg (by omega)]
theorem m_cp_s {r : Nat → Int32} {p q k : Nat} : upd (m_cp r p q k) (q + k) (r (p + k)) = m_cp r p q (k + 1) := by
  funext i
  unfold upd m_cp
  by_cases e : i = q + k
  · rw [if_pos e, if_pos (by omega), e, show q + k - q = k by omega]
  · rw [if_neg e]
    by_cases h : q ≤ i ∧ i < q + k
    · rw [if_pos h, if_pos (by omega)]
    · rw [if_neg h, if_neg (by omega)]
theorem c_X6_odds (l : Launch) (G : qx_G) (σ : qx_Sg) (N : Nat) (v : Nat → Int32) (hI : qv_ok v N) (b n x : Int32) : qx_Ct l G yX6_odds cX6_odds 10 (some .long) 2 43 [.ref (qx_ad G 53), .int b, .int n, .int x] (va_up σ 54 v) (qMl σ (S_odds N v b n x) (z_ors N v b n x)) := by
  refine qx_ofL (lo := [(0, .ref (qx_ad G 53)), (1, .int b), (2, .int n), (3, .int x)]) (by decide +kernel) (Nat.le_of_ble_eq_true rfl) rfl (fun Δ (C : qx_C G Δ cX6_odds RX6 10 2 43) hret => ?_)
  have hN8 := hI.1
  have hN1 := hI.2.1
  refine qk_aloadn C dX6_odds_0 1 rfl rfl 0 rfl ?_
  refine qk_iloadn C dX6_odds_1 2 rfl rfl 1 rfl ?_
  refine qk_callV C dX6_odds_2 5 rfl ql_X6_137 qc_X6_isBust 53 (by decide) rfl rfl (c_X6_isBust l G σ N v hI _) rfl rfl (Nat.le_of_ble_eq_true rfl) ⟨(Nat.le_of_ble_eq_true rfl), (Nat.le_of_ble_eq_true rfl)⟩ (qx_Ki ?_)
  refine qk_if_eqB C dX6_odds_5 27 rfl 8 rfl (fun c_5 => ?_) (fun c_5 => ?_)
  · refine qk_aloadn C dX6_odds_27 28 rfl rfl 0 rfl ?_
    refine qk_ldc C dX6_odds_28 30 rfl qw_947 ?_
    refine qk_callV C dX6_odds_30 33 rfl ql_X6_66 qc_X6_finding 53 (by decide) rfl rfl (c_X6_finding l G _ _ 0 (by decide) (by decide)) rfl rfl (Nat.le_of_ble_eq_true rfl) ⟨(Nat.le_of_ble_eq_true rfl), (Nat.le_of_ble_eq_true rfl)⟩ (qx_Ki ?_)
    refine qk_i2l C dX6_odds_33 34 rfl ?_
    exact hret _ _ _ _ dX6_odds_34 (by rw [show z_ors N v b n x = (-1000001 : Int32).toInt64 from if_neg (by first | exact fun q => c_5 q.1 | exact fun q => c_15 q.2.1 | exact fun q => c_24 q.2.2)]; exact ⟨rfl, (qMx_bad 0 (zif_f (by first | exact fun q => c_5 q.1 | exact fun q => c_15 q.2.1 | exact fun q => c_24 q.2.2)) rfl mTr.rf.up qx_up_eq).2⟩)
  · refine qk_iloadn C dX6_odds_8 9 rfl rfl 2 rfl ?_
    refine qk_iconst C (0) dX6_odds_9 10 rfl rfl ?_
    refine qk_bipush C (17) dX6_odds_10 12 rfl rfl ?_
    refine qk_callS C dX6_odds_12 15 rfl ql_X6_70 qc_X6_within (c_X6_within l G _ _ _ _) rfl rfl (Nat.le_of_ble_eq_true rfl) ⟨(Nat.le_of_ble_eq_true rfl), (Nat.le_of_ble_eq_true rfl)⟩ (qx_Ki ?_)
    refine qk_if_eqB C dX6_odds_15 27 rfl 18 rfl (fun c_15 => ?_) (fun c_15 => ?_)
    · refine qk_aloadn C dX6_odds_27 28 rfl rfl 0 rfl ?_
      refine qk_ldc C dX6_odds_28 30 rfl qw_947 ?_
      refine qk_callV C dX6_odds_30 33 rfl ql_X6_66 qc_X6_finding 53 (by decide) rfl rfl (c_X6_finding l G _ _ 0 (by decide) (by decide)) rfl rfl (Nat.le_of_ble_eq_true rfl) ⟨(Nat.le_of_ble_eq_true rfl), (Nat.le_of_ble_eq_true rfl)⟩ (qx_Ki ?_)
      refine qk_i2l C dX6_odds_33 34 rfl ?_
      exact hret _ _ _ _ dX6_odds_34 (by rw [show z_ors N v b n x = (-1000001 : Int32).toInt64 from if_neg (by first | exact fun q => c_5 q.1 | exact fun q => c_15 q.2.1 | exact fun q => c_24 q.2.2)]; exact ⟨rfl, (qMx_bad 0 (zif_f (by first | exact fun q => c_5 q.1 | exact fun q => c_15 q.2.1 | exact fun q => c_24 q.2.2)) rfl mTr.rf.up qx_up_eq).2⟩)
    · refine qk_iloadn C dX6_odds_18 19 rfl rfl 3 rfl ?_
      refine qk_iconst C (0) dX6_odds_19 20 rfl rfl ?_
      refine qk_iconst C (1) dX6_odds_20 21 rfl rfl ?_
      refine qk_callS C dX6_odds_21 24 rfl ql_X6_70 qc_X6_within (c_X6_within l G _ _ _ _) rfl rfl (Nat.le_of_ble_eq_true rfl) ⟨(Nat.le_of_ble_eq_true rfl), (Nat.le_of_ble_eq_true rfl)⟩ (qx_Ki ?_)
      refine qk_if_neB C dX6_odds_24 35 rfl 27 rfl (fun c_24 => ?_) (fun c_24 => ?_)
      · have hcond : z_ib N b ∧ z_in n 17 ∧ z_in x 1 := ⟨c_5, c_15, c_24⟩
        obtain ⟨jb, hjb, rfl⟩ := z_ib_ex c_5 hN8
        obtain ⟨jn, hjn, rfl⟩ := z_in_ex 17 rfl (by omega) c_15
        have hh := (hI.2.2.2.2.1 jb hjb).2.1
        obtain ⟨g, hg, eg⟩ := m_bc12 hh
        refine qk_aloadn C dX6_odds_35 36 rfl rfl 0 rfl ?_
        refine qk_iloadn C dX6_odds_36 37 rfl rfl 1 rfl ?_
        refine qk_iconst C (2) dX6_odds_37 38 rfl rfl ?_
        refine qk_callV C dX6_odds_38 41 rfl ql_X6_101 qc_X6_bustIs 53 (by decide) rfl rfl (c_X6_bustIs l G σ v jb 2 (by omega) (by omega)) rfl rfl (Nat.le_of_ble_eq_true rfl) ⟨(Nat.le_of_ble_eq_true rfl), (Nat.le_of_ble_eq_true rfl)⟩ (qx_Ki ?_)
        refine qk_callS C dX6_odds_41 44 rfl ql_X6_111 qc_X6_bits (c_X6_bits l G _ _ (m_4k hh)) rfl rfl (Nat.le_of_ble_eq_true rfl) ⟨(Nat.le_of_ble_eq_true rfl), (Nat.le_of_ble_eq_true rfl)⟩ (qx_Ki ?_)
        refine qk_cast (eg) ?_
        refine qk_istore C dX6_odds_44 46 rfl (by decide) rfl ?_
        refine qk_bipush C (nI 12) dX6_odds_46 48 rfl rfl ?_
        refine qk_istore C dX6_odds_48 50 rfl (by decide) rfl ?_
        refine qk_iload C dX6_odds_50 52 rfl 1 rfl ?_
        refine qk_istore C dX6_odds_52 54 rfl (by decide) rfl ?_
        have lp_54 : ∀ (n_54 : Nat) (a y : Nat), (a ≤ 12 ∧ y ≤ 12 ∧ 0 < a ∧ Nat.gcd a y = Nat.gcd 12 g) → y < n_54 → qx_K l G Δ (va_up σ 54 v) 54 [(6, .int (nI y)), (5, .int (nI a)), (4, .int (nI g)), (0, .ref (qx_ad G 53)), (1, .int (nI jb)), (2, .int (nI jn)), (3, .int x)] [] := by
          intro n_54
          induction n_54 with
          | zero => intro _ _ _ h9; exact absurd h9 (Nat.not_lt_zero _)
          | succ n_54 ih_54 =>
            intro a y hi hm_54
            have hml := fun h : 0 < y => Nat.mod_lt a h
            refine qk_iload C dX6_odds_54 56 rfl 0 rfl ?_
            refine qk_if_eq C dX6_odds_56 77 rfl 59 rfl (fun c_56 => ?_) (fun c_56 => ?_)
            · have hy0 : y = 0 := (nI_eq (by omega) (by omega)).mp c_56
              subst hy0
              have hq := hi.2.2.2
              rw [Nat.gcd_zero_right] at hq
              refine qk_lconst C 1 dX6_odds_77 78 rfl rfl ?_
              refine qk_lstore C dX6_odds_78 80 rfl (by decide) rfl ?_
              refine qk_iconst C (nI 0) dX6_odds_80 81 rfl rfl ?_
              refine qk_istore C dX6_odds_81 83 rfl (by decide) rfl ?_
              have lp_83 : ∀ (n_83 : Nat) (i : Nat) (w : Int64), (i ≤ jn ∧ w = z_pw (if x = 0 then nI g / nI a else 12 / nI a).toInt64 i) → jn - i < n_83 → qx_K l G Δ (va_up σ 54 v) 83 [(9, .int (nI i)), (7, .long w), (0, .ref (qx_ad G 53)), (1, .int (nI jb)), (2, .int (nI jn)), (3, .int x), (4, .int (nI g)), (5, .int (nI a))] [] := by
                intro n_83
                induction n_83 with
                | zero => intro _ _ _ h9; exact absurd h9 (Nat.not_lt_zero _)
                | succ n_83 ih_83 =>
                  intro i w hk hm_83
                  refine qk_iload C dX6_odds_83 85 rfl 0 rfl ?_
                  refine qk_iloadn C dX6_odds_85 86 rfl rfl 4 rfl ?_
                  refine qk_icmp_ge C dX6_odds_86 115 rfl 89 rfl (fun c_86 => ?_) (fun c_86 => ?_)
                  · have hin : jn ≤ i := (nI_leI (by omega) (by omega)).mp c_86
                    have hie : i = jn := by omega
                    refine qk_lload C dX6_odds_115 117 rfl 1 rfl ?_
                    exact hret _ _ _ _ dX6_odds_117 (by rw [show z_ors N v (nI jb) (nI jn) x = w from (if_pos hcond).trans (by rw [zn_nI (show jb < 2 ^ 31 by omega), zn_nI (show jn < 2 ^ 31 by omega), hk.2, hie]; unfold z_or; rw [eg, m_od_all g (by omega), ← hq])]; exact ⟨rfl, (qMx_ok (zif_t hcond) rfl mTr.rf.up qx_up_eq).2⟩)
                  · have hin : i < jn := Nat.not_le.mp (fun q => c_86 (nI_le q (by omega)))
                    refine qk_lload C dX6_odds_89 91 rfl 1 rfl ?_
                    refine qk_iloadn C dX6_odds_91 92 rfl rfl 5 rfl ?_
                    refine qk_if_ne C dX6_odds_92 100 rfl 95 rfl (fun c_92 => ?_) (fun c_92 => ?_)
                    · refine qk_bipush C (12) dX6_odds_100 102 rfl rfl ?_
                      refine qk_iload C dX6_odds_102 104 rfl 7 rfl ?_
                      refine qk_idiv C dX6_odds_104 105 rfl (nI_ne0 hi.2.2.1 (by omega)) ?_
                      refine qk_i2l C dX6_odds_105 106 rfl ?_
                      refine qk_lmul C dX6_odds_106 107 rfl ?_
                      refine qk_lstore C dX6_odds_107 109 rfl (by decide) rfl ?_
                      refine qk_iinc C (nI (i + 1)) dX6_odds_109 112 rfl 1 rfl (nI_1 i) (by decide) rfl ?_
                      refine qk_goto C dX6_odds_112 83 rfl ?_
                      exact ih_83 (i + 1) _ ⟨by omega, by rw [hk.2]; show _ = z_pw _ i * _; rw [if_neg c_92]⟩ (by omega)
                    · refine qk_iload C dX6_odds_95 97 rfl 6 rfl ?_
                      refine qk_goto C dX6_odds_97 102 rfl ?_
                      refine qk_iload C dX6_odds_102 104 rfl 7 rfl ?_
                      refine qk_idiv C dX6_odds_104 105 rfl (nI_ne0 hi.2.2.1 (by omega)) ?_
                      refine qk_i2l C dX6_odds_105 106 rfl ?_
                      refine qk_lmul C dX6_odds_106 107 rfl ?_
                      refine qk_lstore C dX6_odds_107 109 rfl (by decide) rfl ?_
                      refine qk_iinc C (nI (i + 1)) dX6_odds_109 112 rfl 1 rfl (nI_1 i) (by decide) rfl ?_
                      refine qk_goto C dX6_odds_112 83 rfl ?_
                      exact ih_83 (i + 1) _ ⟨by omega, by rw [hk.2]; show _ = z_pw _ i * _; rw [if_pos c_92]⟩ (by omega)
              exact qk_lo [0, 1, 5, 6, 7, 8, 4, 3] rfl (lp_83 _ 0 1 ⟨by omega, rfl⟩ (Nat.lt_succ_self _))
            · have hy0 : 0 < y := Nat.pos_of_ne_zero (fun e => c_56 (by subst e; rfl))
              have hml2 := hml hy0
              refine qk_iload C dX6_odds_59 61 rfl 1 rfl ?_
              refine qk_iload C dX6_odds_61 63 rfl 0 rfl ?_
              refine qk_irem C dX6_odds_63 64 rfl (nI_ne0 hy0 (by omega)) ?_
              refine qk_cast (pk_rem (by omega) (by omega) (by omega)) ?_
              refine qk_istore C dX6_odds_64 66 rfl (by decide) rfl ?_
              refine qk_iload C dX6_odds_66 68 rfl 1 rfl ?_
              refine qk_istore C dX6_odds_68 70 rfl (by decide) rfl ?_
              refine qk_iload C dX6_odds_70 72 rfl 1 rfl ?_
              refine qk_istore C dX6_odds_72 74 rfl (by decide) rfl ?_
              refine qk_goto C dX6_odds_74 54 rfl ?_
              exact qk_lo [0, 1, 3, 4, 5, 6, 7] rfl (ih_54 y (a % y) ⟨by omega, by omega, hy0, m_gcd_s.trans hi.2.2.2⟩ (by omega))
        exact lp_54 _ 12 g ⟨by omega, hg, by omega, rfl⟩ (Nat.lt_succ_self _)
      · refine qk_aloadn C dX6_odds_27 28 rfl rfl 0 rfl ?_
        refine qk_ldc C dX6_odds_28 30 rfl qw_947 ?_
        refine qk_callV C dX6_odds_30 33 rfl ql_X6_66 qc_X6_finding 53 (by decide) rfl rfl (c_X6_finding l G _ _ 0 (by decide) (by decide)) rfl rfl (Nat.le_of_ble_eq_true rfl) ⟨(Nat.le_of_ble_eq_true rfl), (Nat.le_of_ble_eq_true rfl)⟩ (qx_Ki ?_)
        refine qk_i2l C dX6_odds_33 34 rfl ?_
        exact hret _ _ _ _ dX6_odds_34 (by rw [show z_ors N v b n x = (-1000001 : Int32).toInt64 from if_neg (by first | exact fun q => c_5 q.1 | exact fun q => c_15 q.2.1 | exact fun q => c_24 q.2.2)]; exact ⟨rfl, (qMx_bad 0 (zif_f (by first | exact fun q => c_5 q.1 | exact fun q => c_15 q.2.1 | exact fun q => c_24 q.2.2)) rfl mTr.rf.up qx_up_eq).2⟩)

theorem c_X6_copy (l : Launch) (G : qx_G) (σ : qx_Sg) (hSh : qS_ok (m_vw σ)) (s f t g n : Int32) : qx_Ct l G yX6_copy cX6_copy 7 (some .int) 2 42 [.ref (qx_ad G 53), .int s, .int f, .int t, .int g, .int n] (σ) (qPu (M_copy σ s f t g n)) := by
  refine qx_of .int (lo := [(0, .ref (qx_ad G 53)), (1, .int s), (2, .int f), (3, .int t), (4, .int g), (5, .int n)]) (by decide +kernel) (Nat.le_of_ble_eq_true rfl) rfl (fun Δ (C : qx_C G Δ cX6_copy RX6 7 2 42) hret => ?_)
  refine qk_iloadn C dX6_copy_0 1 rfl rfl 1 rfl ?_
  refine qk_callS C dX6_copy_1 4 rfl ql_X6_224 qc_X6_isSheet (c_X6_isSheet l G _ _) rfl rfl (Nat.le_of_ble_eq_true rfl) ⟨(Nat.le_of_ble_eq_true rfl), (Nat.le_of_ble_eq_true rfl)⟩ (qx_Ki ?_)
  refine qk_if_eqB C dX6_copy_4 14 rfl 7 rfl (fun c_4 => ?_) (fun c_4 => ?_)
  · refine qk_aloadn C dX6_copy_14 15 rfl rfl 0 rfl ?_
    refine qk_ldc C dX6_copy_15 17 rfl qw_947 ?_
    refine qk_callV C dX6_copy_17 20 rfl ql_X6_66 qc_X6_finding 53 (by decide) rfl rfl (c_X6_finding l G _ _ 0 (by decide) (by decide)) rfl rfl (Nat.le_of_ble_eq_true rfl) ⟨(Nat.le_of_ble_eq_true rfl), (Nat.le_of_ble_eq_true rfl)⟩ (qx_Ki ?_)
    exact hret _ _ _ _ dX6_copy_20 (qPu_of (zw_f (by first | exact fun q => c_4 q.1 | exact fun q => c_11 q.2))) rfl
  · refine qk_iloadn C dX6_copy_7 8 rfl rfl 3 rfl ?_
    refine qk_callS C dX6_copy_8 11 rfl ql_X6_224 qc_X6_isSheet (c_X6_isSheet l G _ _) rfl rfl (Nat.le_of_ble_eq_true rfl) ⟨(Nat.le_of_ble_eq_true rfl), (Nat.le_of_ble_eq_true rfl)⟩ (qx_Ki ?_)
    refine qk_if_neB C dX6_copy_11 21 rfl 14 rfl (fun c_11 => ?_) (fun c_11 => ?_)
    · have hs := c_4
      have ht := c_11
      obtain ⟨js, hjs, rfl⟩ := z_in_ex 3 rfl (by omega) c_4
      obtain ⟨jt, hjt, rfl⟩ := z_in_ex 3 rfl (by omega) c_11
      obtain ⟨n1, hn1, en1⟩ := (hSh js (by omega)).2
      rw [m_vw1 (by omega)] at en1
      obtain ⟨n2, hn2, en2⟩ := (hSh jt (by omega)).2
      rw [m_vw1 (by omega)] at en2
      refine qk_aloadn C dX6_copy_21 22 rfl rfl 0 rfl ?_
      refine qk_get C dX6_copy_22 25 rfl qf_X6_48 53 (by decide) rfl rfl ?_
      refine qk_iloadn C dX6_copy_25 26 rfl rfl 1 rfl ?_
      refine qk_iald C dX6_copy_26 27 rfl 61 (by decide) (fun _ => rfl) (js) rfl (by omega) (by decide) ?_
      refine qk_cast (show _ = σ 61 (js) from rfl) ?_
      refine qk_if_eq C dX6_copy_27 39 rfl 30 rfl (fun c_27 => ?_) (fun c_27 => ?_)
      · refine qk_aloadn C dX6_copy_39 40 rfl rfl 0 rfl ?_
        refine qk_ldc C dX6_copy_40 42 rfl qw_1209 ?_
        refine qk_callV C dX6_copy_42 45 rfl ql_X6_66 qc_X6_finding 53 (by decide) rfl rfl (c_X6_finding l G _ _ 5 (by decide) (by decide)) rfl rfl (Nat.le_of_ble_eq_true rfl) ⟨(Nat.le_of_ble_eq_true rfl), (Nat.le_of_ble_eq_true rfl)⟩ (qx_Ki ?_)
        exact hret _ _ _ _ dX6_copy_45 (qPu_of (by unfold M_copy; rw [zn_nI (show js < 2 ^ 31 by omega), zn_nI (show jt < 2 ^ 31 by omega)]; exact (zw_t ⟨hs, ht⟩).trans (zw_t (by first | exact Or.inl c_27 | exact Or.inr c_36)))) rfl
      · refine qk_aloadn C dX6_copy_30 31 rfl rfl 0 rfl ?_
        refine qk_get C dX6_copy_31 34 rfl qf_X6_48 53 (by decide) rfl rfl ?_
        refine qk_iloadn C dX6_copy_34 35 rfl rfl 3 rfl ?_
        refine qk_iald C dX6_copy_35 36 rfl 61 (by decide) (fun _ => rfl) (jt) rfl (by omega) (by decide) ?_
        refine qk_cast (show _ = σ 61 (jt) from rfl) ?_
        refine qk_if_ne C dX6_copy_36 46 rfl 39 rfl (fun c_36 => ?_) (fun c_36 => ?_)
        · refine qk_aloadn C dX6_copy_46 47 rfl rfl 0 rfl ?_
          refine qk_get C dX6_copy_47 50 rfl qf_X6_48 53 (by decide) rfl rfl ?_
          refine qk_iloadn C dX6_copy_50 51 rfl rfl 1 rfl ?_
          refine qk_iald C dX6_copy_51 52 rfl 61 (by decide) (fun _ => rfl) (js) rfl (by omega) (by decide) ?_
          refine qk_cast (show _ = σ 61 (js) from rfl) ?_
          refine qk_aloadn C dX6_copy_52 53 rfl rfl 0 rfl ?_
          refine qk_get C dX6_copy_53 56 rfl qf_X6_48 53 (by decide) rfl rfl ?_
          refine qk_iloadn C dX6_copy_56 57 rfl rfl 3 rfl ?_
          refine qk_iald C dX6_copy_57 58 rfl 61 (by decide) (fun _ => rfl) (jt) rfl (by omega) (by decide) ?_
          refine qk_cast (show _ = σ 61 (jt) from rfl) ?_
          refine qk_icmp_eq C dX6_copy_58 69 rfl 61 rfl (fun c_58 => ?_) (fun c_58 => ?_)
          · refine qk_iloadn C dX6_copy_69 70 rfl rfl 2 rfl ?_
            refine qk_if_lt C dX6_copy_70 118 rfl 73 rfl (fun c_70 => ?_) (fun c_70 => ?_)
            · refine qk_aloadn C dX6_copy_118 119 rfl rfl 0 rfl ?_
              refine qk_ldc C dX6_copy_119 121 rfl qw_947 ?_
              refine qk_callV C dX6_copy_121 124 rfl ql_X6_66 qc_X6_finding 53 (by decide) rfl rfl (c_X6_finding l G _ _ 0 (by decide) (by decide)) rfl rfl (Nat.le_of_ble_eq_true rfl) ⟨(Nat.le_of_ble_eq_true rfl), (Nat.le_of_ble_eq_true rfl)⟩ (qx_Ki ?_)
              exact hret _ _ _ _ dX6_copy_124 (qPu_of (by unfold M_copy; rw [zn_nI (show js < 2 ^ 31 by omega), zn_nI (show jt < 2 ^ 31 by omega)]; exact (zw_t ⟨hs, ht⟩).trans ((zw_f (fun q => q.elim c_27 c_36)).trans ((zw_t c_58).trans (zw_f (by rintro ⟨q1, q2⟩; first | exact q1.1 c_70 | exact q2.1 c_75 | exact q1.2.1 c_80 | exact absurd ((m_sps ha hm hn1).mp (by rw [en1] at q1; exact q1)) (Nat.not_le.mpr ((m_lsum ha hm (by omega)).mp (by have := (lg_cmp_gt _ _).mp c_97; rw [en1] at this; exact this))) | exact absurd ((m_sps ha2 hm hn2).mp (by rw [en2] at q2; exact q2)) (Nat.not_le.mpr ((m_lsum ha2 hm (by omega)).mp (Int64.not_le.mp (fun q => c_115 ((lg_cmp_le _ _).mpr (by rw [en2]; exact q)))))))))))) rfl
            · obtain ⟨a, ha, rfl⟩ := nI_of c_70
              refine qk_iload C dX6_copy_73 75 rfl 4 rfl ?_
              refine qk_if_lt C dX6_copy_75 118 rfl 78 rfl (fun c_75 => ?_) (fun c_75 => ?_)
              · refine qk_aloadn C dX6_copy_118 119 rfl rfl 0 rfl ?_
                refine qk_ldc C dX6_copy_119 121 rfl qw_947 ?_
                refine qk_callV C dX6_copy_121 124 rfl ql_X6_66 qc_X6_finding 53 (by decide) rfl rfl (c_X6_finding l G _ _ 0 (by decide) (by decide)) rfl rfl (Nat.le_of_ble_eq_true rfl) ⟨(Nat.le_of_ble_eq_true rfl), (Nat.le_of_ble_eq_true rfl)⟩ (qx_Ki ?_)
                exact hret _ _ _ _ dX6_copy_124 (qPu_of (by unfold M_copy; rw [zn_nI (show js < 2 ^ 31 by omega), zn_nI (show jt < 2 ^ 31 by omega)]; exact (zw_t ⟨hs, ht⟩).trans ((zw_f (fun q => q.elim c_27 c_36)).trans ((zw_t c_58).trans (zw_f (by rintro ⟨q1, q2⟩; first | exact q1.1 c_70 | exact q2.1 c_75 | exact q1.2.1 c_80 | exact absurd ((m_sps ha hm hn1).mp (by rw [en1] at q1; exact q1)) (Nat.not_le.mpr ((m_lsum ha hm (by omega)).mp (by have := (lg_cmp_gt _ _).mp c_97; rw [en1] at this; exact this))) | exact absurd ((m_sps ha2 hm hn2).mp (by rw [en2] at q2; exact q2)) (Nat.not_le.mpr ((m_lsum ha2 hm (by omega)).mp (Int64.not_le.mp (fun q => c_115 ((lg_cmp_le _ _).mpr (by rw [en2]; exact q)))))))))))) rfl
              · obtain ⟨a2, ha2, rfl⟩ := nI_of c_75
                refine qk_iload C dX6_copy_78 80 rfl 5 rfl ?_
                refine qk_if_lt C dX6_copy_80 118 rfl 83 rfl (fun c_80 => ?_) (fun c_80 => ?_)
                · refine qk_aloadn C dX6_copy_118 119 rfl rfl 0 rfl ?_
                  refine qk_ldc C dX6_copy_119 121 rfl qw_947 ?_
                  refine qk_callV C dX6_copy_121 124 rfl ql_X6_66 qc_X6_finding 53 (by decide) rfl rfl (c_X6_finding l G _ _ 0 (by decide) (by decide)) rfl rfl (Nat.le_of_ble_eq_true rfl) ⟨(Nat.le_of_ble_eq_true rfl), (Nat.le_of_ble_eq_true rfl)⟩ (qx_Ki ?_)
                  exact hret _ _ _ _ dX6_copy_124 (qPu_of (by unfold M_copy; rw [zn_nI (show js < 2 ^ 31 by omega), zn_nI (show jt < 2 ^ 31 by omega)]; exact (zw_t ⟨hs, ht⟩).trans ((zw_f (fun q => q.elim c_27 c_36)).trans ((zw_t c_58).trans (zw_f (by rintro ⟨q1, q2⟩; first | exact q1.1 c_70 | exact q2.1 c_75 | exact q1.2.1 c_80 | exact absurd ((m_sps ha hm hn1).mp (by rw [en1] at q1; exact q1)) (Nat.not_le.mpr ((m_lsum ha hm (by omega)).mp (by have := (lg_cmp_gt _ _).mp c_97; rw [en1] at this; exact this))) | exact absurd ((m_sps ha2 hm hn2).mp (by rw [en2] at q2; exact q2)) (Nat.not_le.mpr ((m_lsum ha2 hm (by omega)).mp (Int64.not_le.mp (fun q => c_115 ((lg_cmp_le _ _).mpr (by rw [en2]; exact q)))))))))))) rfl
                · obtain ⟨m, hm, rfl⟩ := nI_of c_80
                  refine qk_iloadn C dX6_copy_83 84 rfl rfl 2 rfl ?_
                  refine qk_i2l C dX6_copy_84 85 rfl ?_
                  refine qk_iload C dX6_copy_85 87 rfl 5 rfl ?_
                  refine qk_i2l C dX6_copy_87 88 rfl ?_
                  refine qk_ladd C dX6_copy_88 89 rfl ?_
                  refine qk_aloadn C dX6_copy_89 90 rfl rfl 0 rfl ?_
                  refine qk_get C dX6_copy_90 93 rfl qf_X6_51 53 (by decide) rfl rfl ?_
                  refine qk_iloadn C dX6_copy_93 94 rfl rfl 1 rfl ?_
                  refine qk_iald C dX6_copy_94 95 rfl 62 (by decide) (fun _ => rfl) (js) rfl (by omega) (by decide) ?_
                  refine qk_cast (show _ = σ 62 (js) from rfl) ?_
                  refine qk_i2l C dX6_copy_95 96 rfl ?_
                  refine qk_lcmp C dX6_copy_96 97 rfl ?_
                  refine qk_if_gt C dX6_copy_97 118 rfl 100 rfl (fun c_97 => ?_) (fun c_97 => ?_)
                  · refine qk_aloadn C dX6_copy_118 119 rfl rfl 0 rfl ?_
                    refine qk_ldc C dX6_copy_119 121 rfl qw_947 ?_
                    refine qk_callV C dX6_copy_121 124 rfl ql_X6_66 qc_X6_finding 53 (by decide) rfl rfl (c_X6_finding l G _ _ 0 (by decide) (by decide)) rfl rfl (Nat.le_of_ble_eq_true rfl) ⟨(Nat.le_of_ble_eq_true rfl), (Nat.le_of_ble_eq_true rfl)⟩ (qx_Ki ?_)
                    exact hret _ _ _ _ dX6_copy_124 (qPu_of (by unfold M_copy; rw [zn_nI (show js < 2 ^ 31 by omega), zn_nI (show jt < 2 ^ 31 by omega)]; exact (zw_t ⟨hs, ht⟩).trans ((zw_f (fun q => q.elim c_27 c_36)).trans ((zw_t c_58).trans (zw_f (by rintro ⟨q1, q2⟩; first | exact q1.1 c_70 | exact q2.1 c_75 | exact q1.2.1 c_80 | exact absurd ((m_sps ha hm hn1).mp (by rw [en1] at q1; exact q1)) (Nat.not_le.mpr ((m_lsum ha hm (by omega)).mp (by have := (lg_cmp_gt _ _).mp c_97; rw [en1] at this; exact this))) | exact absurd ((m_sps ha2 hm hn2).mp (by rw [en2] at q2; exact q2)) (Nat.not_le.mpr ((m_lsum ha2 hm (by omega)).mp (Int64.not_le.mp (fun q => c_115 ((lg_cmp_le _ _).mpr (by rw [en2]; exact q)))))))))))) rfl
                  · refine qk_iload C dX6_copy_100 102 rfl 4 rfl ?_
                    refine qk_i2l C dX6_copy_102 103 rfl ?_
                    refine qk_iload C dX6_copy_103 105 rfl 5 rfl ?_
                    refine qk_i2l C dX6_copy_105 106 rfl ?_
                    refine qk_ladd C dX6_copy_106 107 rfl ?_
                    refine qk_aloadn C dX6_copy_107 108 rfl rfl 0 rfl ?_
                    refine qk_get C dX6_copy_108 111 rfl qf_X6_51 53 (by decide) rfl rfl ?_
                    refine qk_iloadn C dX6_copy_111 112 rfl rfl 3 rfl ?_
                    refine qk_iald C dX6_copy_112 113 rfl 62 (by decide) (fun _ => rfl) (jt) rfl (by omega) (by decide) ?_
                    refine qk_cast (show _ = σ 62 (jt) from rfl) ?_
                    refine qk_i2l C dX6_copy_113 114 rfl ?_
                    refine qk_lcmp C dX6_copy_114 115 rfl ?_
                    refine qk_if_le C dX6_copy_115 125 rfl 118 rfl (fun c_115 => ?_) (fun c_115 => ?_)
                    · have h1 : a + m ≤ n1 := Nat.not_lt.mp (fun q => c_97 ((lg_cmp_gt _ _).mpr (by rw [en1]; exact (m_lsum ha hm (by omega)).mpr q)))
                      have h2 : a2 + m ≤ n2 := Nat.not_lt.mp (fun q => absurd ((lg_cmp_le _ _).mp c_115) (Int64.not_le.mpr (by rw [en2]; exact (m_lsum ha2 hm (by omega)).mpr q)))
                      refine qk_iconst C (nI 0) dX6_copy_125 126 rfl rfl ?_
                      refine qk_istore C dX6_copy_126 128 rfl (by decide) rfl ?_
                      have lp_128 : ∀ (n_128 : Nat) (k : Nat), k ≤ m → m - k < n_128 → qx_K l G Δ ((va_up σ 64 (m_mv (σ 63) (σ 64) (40 * js + a) k))) 128 [(6, .int (nI k)), (0, .ref (qx_ad G 53)), (1, .int (nI js)), (2, .int (nI a)), (3, .int (nI jt)), (4, .int (nI a2)), (5, .int (nI m))] [] := by
                        intro n_128
                        induction n_128 with
                        | zero => intro _ _ h9; exact absurd h9 (Nat.not_lt_zero _)
                        | succ n_128 ih_128 =>
                          intro k hi hm_128
                          refine qk_iload C dX6_copy_128 130 rfl 0 rfl ?_
                          refine qk_iload C dX6_copy_130 132 rfl 6 rfl ?_
                          refine qk_icmp_ge C dX6_copy_132 162 rfl 135 rfl (fun c_132 => ?_) (fun c_132 => ?_)
                          · have hkm : m ≤ k := (nI_leI (by omega) (by omega)).mp c_132
                            have hke : k = m := by omega
                            refine qk_iconst C (nI 0) dX6_copy_162 163 rfl rfl ?_
                            refine qk_istore C dX6_copy_163 165 rfl (by decide) rfl ?_
                            have lp_165 : ∀ (n_165 : Nat) (k : Nat), k ≤ m → m - k < n_165 → qx_K l G Δ ((va_up (va_up σ 64 (m_mv (σ 63) (σ 64) (40 * js + a) m)) 63 (m_cp (σ 63) (40 * js + a) (40 * jt + a2) k))) 165 [(6, .int (nI k)), (0, .ref (qx_ad G 53)), (1, .int (nI js)), (2, .int (nI a)), (3, .int (nI jt)), (4, .int (nI a2)), (5, .int (nI m))] [] := by
                              intro n_165
                              induction n_165 with
                              | zero => intro _ _ h9; exact absurd h9 (Nat.not_lt_zero _)
                              | succ n_165 ih_165 =>
                                intro k hi hm_165
                                refine qk_iload C dX6_copy_165 167 rfl 0 rfl ?_
                                refine qk_iload C dX6_copy_167 169 rfl 6 rfl ?_
                                refine qk_icmp_ge C dX6_copy_169 200 rfl 172 rfl (fun c_169 => ?_) (fun c_169 => ?_)
                                · have hkm : m ≤ k := (nI_leI (by omega) (by omega)).mp c_169
                                  have hke : k = m := by omega
                                  subst hke
                                  refine qk_iload C dX6_copy_200 202 rfl 6 rfl ?_
                                  exact hret _ _ _ _ dX6_copy_202 ((by unfold M_copy; rw [zn_nI (show js < 2 ^ 31 by omega), zn_nI (show jt < 2 ^ 31 by omega), zn_nI ha, zn_nI ha2, zn_nI hm, (zw_t ⟨hs, ht⟩).trans ((zw_f (fun q => q.elim c_27 c_36)).trans ((zw_t c_58).trans (zw_t ⟨by rw [en1]; exact (m_sps ha hm hn1).mpr h1, by rw [en2]; exact (m_sps ha2 hm hn2).mpr h2⟩)))]; exact ⟨rfl, m_64⟩)) rfl
                                · have hkm : k < m := Nat.not_le.mp (fun q => c_169 (nI_le q (by omega)))
                                  refine qk_aloadn C dX6_copy_172 173 rfl rfl 1 rfl ?_
                                  refine qk_get C dX6_copy_173 176 rfl qf_X6_54 53 (by decide) rfl rfl ?_
                                  refine qk_bipush C (40) dX6_copy_176 178 rfl rfl ?_
                                  refine qk_iloadn C dX6_copy_178 179 rfl rfl 4 rfl ?_
                                  refine qk_imul C dX6_copy_179 180 rfl ?_
                                  refine qk_cast (m_40 (by omega)) ?_
                                  refine qk_iload C dX6_copy_180 182 rfl 5 rfl ?_
                                  refine qk_iadd C dX6_copy_182 183 rfl ?_
                                  refine qk_cast (nI_add _ _) ?_
                                  refine qk_iload C dX6_copy_183 185 rfl 0 rfl ?_
                                  refine qk_iadd C dX6_copy_185 186 rfl ?_
                                  refine qk_cast (nI_add _ _) ?_
                                  refine qk_aloadn C dX6_copy_186 187 rfl rfl 1 rfl ?_
                                  refine qk_get C dX6_copy_187 190 rfl qf_X6_57 53 (by decide) rfl rfl ?_
                                  refine qk_iload C dX6_copy_190 192 rfl 0 rfl ?_
                                  refine qk_iald C dX6_copy_192 193 rfl 64 (by decide) (fun _ => rfl) k rfl (by omega) (by decide) ?_
                                  refine qk_cast (show _ = σ 63 ((40 * js + a) + k) from if_pos hkm) ?_
                                  refine qk_iast C dX6_copy_193 194 rfl 63 (by decide) (fun _ => rfl) ((40 * jt + a2) + k) rfl (by omega) (by decide) ?_
                                  refine qk_sg _ (m_uu.trans (congrArg (va_up (va_up σ 64 (m_mv (σ 63) (σ 64) (40 * js + a) m)) 63) m_cp_s)) ?_
                                  refine qk_iinc C (nI (k + 1)) dX6_copy_194 197 rfl 0 rfl (nI_1 k) (by decide) rfl ?_
                                  refine qk_goto C dX6_copy_197 165 rfl ?_
                                  exact ih_165 (k + 1) (by omega) (by omega)
                            refine qk_sg (va_up (va_up σ 64 (m_mv (σ 63) (σ 64) (40 * js + a) m)) 63 (m_cp (σ 63) (40 * js + a) (40 * jt + a2) 0)) (by rw [hke, show m_cp (σ 63) (40 * js + a) (40 * jt + a2) 0 = σ 63 from by funext i; unfold m_cp; rw [if_neg (by omega)]]; exact (m_upid (k := 63)).symm) ?_
                            exact lp_165 _ 0 (Nat.zero_le _) (Nat.lt_succ_self _)
                          · have hkm : k < m := Nat.not_le.mp (fun q => c_132 (nI_le q (by omega)))
                            refine qk_aloadn C dX6_copy_135 136 rfl rfl 1 rfl ?_
                            refine qk_get C dX6_copy_136 139 rfl qf_X6_57 53 (by decide) rfl rfl ?_
                            refine qk_iload C dX6_copy_139 141 rfl 0 rfl ?_
                            refine qk_aloadn C dX6_copy_141 142 rfl rfl 1 rfl ?_
                            refine qk_get C dX6_copy_142 145 rfl qf_X6_54 53 (by decide) rfl rfl ?_
                            refine qk_bipush C (40) dX6_copy_145 147 rfl rfl ?_
                            refine qk_iloadn C dX6_copy_147 148 rfl rfl 2 rfl ?_
                            refine qk_imul C dX6_copy_148 149 rfl ?_
                            refine qk_cast (m_40 (by omega)) ?_
                            refine qk_iloadn C dX6_copy_149 150 rfl rfl 3 rfl ?_
                            refine qk_iadd C dX6_copy_150 151 rfl ?_
                            refine qk_cast (nI_add _ _) ?_
                            refine qk_iload C dX6_copy_151 153 rfl 0 rfl ?_
                            refine qk_iadd C dX6_copy_153 154 rfl ?_
                            refine qk_cast (nI_add _ _) ?_
                            refine qk_iald C dX6_copy_154 155 rfl 63 (by decide) (fun _ => rfl) ((40 * js + a) + k) rfl (by omega) (by decide) ?_
                            refine qk_cast (show _ = σ 63 ((40 * js + a) + k) from rfl) ?_
                            refine qk_iast C dX6_copy_155 156 rfl 64 (by decide) (fun _ => rfl) k rfl (by omega) (by decide) ?_
                            refine qk_sg _ (m_uu.trans (congrArg (va_up σ 64) m_mv_s)) ?_
                            refine qk_iinc C (nI (k + 1)) dX6_copy_156 159 rfl 0 rfl (nI_1 k) (by decide) rfl ?_
                            refine qk_goto C dX6_copy_159 128 rfl ?_
                            exact ih_128 (k + 1) (by omega) (by omega)
                      refine qk_sg (va_up σ 64 (m_mv (σ 63) (σ 64) (40 * js + a) 0)) (by rw [show m_mv (σ 63) (σ 64) (40 * js + a) 0 = σ 64 from by funext i; unfold m_mv; rw [if_neg (by omega)]]; exact m_upid.symm) ?_
                      exact lp_128 _ 0 (Nat.zero_le _) (Nat.lt_succ_self _)
                    · refine qk_aloadn C dX6_copy_118 119 rfl rfl 0 rfl ?_
                      refine qk_ldc C dX6_copy_119 121 rfl qw_947 ?_
                      refine qk_callV C dX6_copy_121 124 rfl ql_X6_66 qc_X6_finding 53 (by decide) rfl rfl (c_X6_finding l G _ _ 0 (by decide) (by decide)) rfl rfl (Nat.le_of_ble_eq_true rfl) ⟨(Nat.le_of_ble_eq_true rfl), (Nat.le_of_ble_eq_true rfl)⟩ (qx_Ki ?_)
                      exact hret _ _ _ _ dX6_copy_124 (qPu_of (by unfold M_copy; rw [zn_nI (show js < 2 ^ 31 by omega), zn_nI (show jt < 2 ^ 31 by omega)]; exact (zw_t ⟨hs, ht⟩).trans ((zw_f (fun q => q.elim c_27 c_36)).trans ((zw_t c_58).trans (zw_f (by rintro ⟨q1, q2⟩; first | exact q1.1 c_70 | exact q2.1 c_75 | exact q1.2.1 c_80 | exact absurd ((m_sps ha hm hn1).mp (by rw [en1] at q1; exact q1)) (Nat.not_le.mpr ((m_lsum ha hm (by omega)).mp (by have := (lg_cmp_gt _ _).mp c_97; rw [en1] at this; exact this))) | exact absurd ((m_sps ha2 hm hn2).mp (by rw [en2] at q2; exact q2)) (Nat.not_le.mpr ((m_lsum ha2 hm (by omega)).mp (Int64.not_le.mp (fun q => c_115 ((lg_cmp_le _ _).mpr (by rw [en2]; exact q)))))))))))) rfl
          · refine qk_aloadn C dX6_copy_61 62 rfl rfl 0 rfl ?_
            refine qk_ldcw C dX6_copy_62 65 rfl qw_1315 ?_
            refine qk_callV C dX6_copy_65 68 rfl ql_X6_66 qc_X6_finding 53 (by decide) rfl rfl (c_X6_finding l G _ _ 2 (by decide) (by decide)) rfl rfl (Nat.le_of_ble_eq_true rfl) ⟨(Nat.le_of_ble_eq_true rfl), (Nat.le_of_ble_eq_true rfl)⟩ (qx_Ki ?_)
            exact hret _ _ _ _ dX6_copy_68 (qPu_of (by unfold M_copy; rw [zn_nI (show js < 2 ^ 31 by omega), zn_nI (show jt < 2 ^ 31 by omega)]; exact (zw_t ⟨hs, ht⟩).trans ((zw_f (fun q => q.elim c_27 c_36)).trans (zw_f c_58)))) rfl
        · refine qk_aloadn C dX6_copy_39 40 rfl rfl 0 rfl ?_
          refine qk_ldc C dX6_copy_40 42 rfl qw_1209 ?_
          refine qk_callV C dX6_copy_42 45 rfl ql_X6_66 qc_X6_finding 53 (by decide) rfl rfl (c_X6_finding l G _ _ 5 (by decide) (by decide)) rfl rfl (Nat.le_of_ble_eq_true rfl) ⟨(Nat.le_of_ble_eq_true rfl), (Nat.le_of_ble_eq_true rfl)⟩ (qx_Ki ?_)
          exact hret _ _ _ _ dX6_copy_45 (qPu_of (by unfold M_copy; rw [zn_nI (show js < 2 ^ 31 by omega), zn_nI (show jt < 2 ^ 31 by omega)]; exact (zw_t ⟨hs, ht⟩).trans (zw_t (by first | exact Or.inl c_27 | exact Or.inr c_36)))) rfl
    · refine qk_aloadn C dX6_copy_14 15 rfl rfl 0 rfl ?_
      refine qk_ldc C dX6_copy_15 17 rfl qw_947 ?_
      refine qk_callV C dX6_copy_17 20 rfl ql_X6_66 qc_X6_finding 53 (by decide) rfl rfl (c_X6_finding l G _ _ 0 (by decide) (by decide)) rfl rfl (Nat.le_of_ble_eq_true rfl) ⟨(Nat.le_of_ble_eq_true rfl), (Nat.le_of_ble_eq_true rfl)⟩ (qx_Ki ?_)
      exact hret _ _ _ _ dX6_copy_20 (qPu_of (zw_f (by first | exact fun q => c_4 q.1 | exact fun q => c_11 q.2))) rfl

