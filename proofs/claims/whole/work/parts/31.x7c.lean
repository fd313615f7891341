/-! tokens of the model -/
noncomputable def t_ba (r : Nat → Int32) (t i : Nat) : Int32 := z_sel (i < t) (r i) (-1)
theorem t_ba_t {r : Nat → Int32} {t i : Nat} (h : i < t) : t_ba r t i = r i := z_sel_t h
theorem t_ba_f {r : Nat → Int32} {t i : Nat} (h : ¬ i < t) : t_ba r t i = -1 := z_sel_f h
theorem t_ba32 {r : Nat → Int32} {t i : Nat} : t_ba r t i = 32 ↔ (i < t ∧ r i = 32) := by
  by_cases h : i < t
  · rw [t_ba_t h]; exact ⟨fun e => ⟨h, e⟩, fun e => e.2⟩
  · rw [t_ba_f h]; exact ⟨fun e => absurd e (by decide), fun e => absurd e.1 h⟩
theorem t_balt {r : Nat → Int32} {t i : Nat} : (¬ t_ba r t i < 97 ∧ ¬ 122 < t_ba r t i) ↔ (i < t ∧ t_lt (r i)) := by
  by_cases h : i < t
  · rw [t_ba_t h]; exact ⟨fun e => ⟨h, e⟩, fun e => e.2⟩
  · rw [t_ba_f h]; exact ⟨fun e => absurd (by decide) e.1, fun e => absurd e.1 h⟩
theorem t_badg {r : Nat → Int32} {t i : Nat} : (¬ t_ba r t i < 48 ∧ ¬ 57 < t_ba r t i) ↔ (i < t ∧ t_dg (r i)) := by
  by_cases h : i < t
  · rw [t_ba_t h]; exact ⟨fun e => ⟨h, e⟩, fun e => e.2⟩
  · rw [t_ba_f h]; exact ⟨fun e => absurd (by decide) e.1, fun e => absurd e.1 h⟩
def t_by (r : Nat → Int32) (t : Nat) : Prop := ∀ i, i < t → ¬ r i < 0
def m_kd (x : Int32) : Int32 := if x = 4 then 3 else x
/-- the model's fields of a token: begins, ends, sort, value -/
def m_row (q : Nat → Int32) (a b c d : Int32) : Nat → Int32 := fun j => if j = 7 then a else if j = 8 then b else if j = 9 then c else if j = 10 then d else q j
theorem m_row0 {q : Nat → Int32} : m_row q (q 7) (q 8) (q 9) (q 10) = q := by
  funext j
  unfold m_row
  by_cases h2 : j = 7
  · simp [h2]
  · by_cases h3 : j = 8
    · simp [h3]
    · by_cases h4 : j = 9
      · simp [h4]
      · by_cases h5 : j = 10
        · simp [h5]
        · simp [h2, h3, h4, h5]
theorem m_q7 {σ : qx_Sg} {q : Nat → Int32} {a b c d x : Int32} : va_up (va_up σ 53 (m_row q a b c d)) 53 (upd (va_up σ 53 (m_row q a b c d) 53) 7 x) = va_up σ 53 (m_row q x b c d) := by
  rw [m_uu, qx_up_eq]
  congr 1
  funext i
  unfold upd m_row
  by_cases e : i = 7
  · subst e; simp
  · simp [e]
theorem m_q8 {σ : qx_Sg} {q : Nat → Int32} {a b c d x : Int32} : va_up (va_up σ 53 (m_row q a b c d)) 53 (upd (va_up σ 53 (m_row q a b c d) 53) 8 x) = va_up σ 53 (m_row q a x c d) := by
  rw [m_uu, qx_up_eq]
  congr 1
  funext i
  unfold upd m_row
  by_cases e : i = 8
  · subst e; simp
  · simp [e]
theorem m_q9 {σ : qx_Sg} {q : Nat → Int32} {a b c d x : Int32} : va_up (va_up σ 53 (m_row q a b c d)) 53 (upd (va_up σ 53 (m_row q a b c d) 53) 9 x) = va_up σ 53 (m_row q a b x d) := by
  rw [m_uu, qx_up_eq]
  congr 1
  funext i
  unfold upd m_row
  by_cases e : i = 9
  · subst e; simp
  · simp [e]
theorem m_q10 {σ : qx_Sg} {q : Nat → Int32} {a b c d x : Int32} : va_up (va_up σ 53 (m_row q a b c d)) 53 (upd (va_up σ 53 (m_row q a b c d) 53) 10 x) = va_up σ 53 (m_row q a b c x) := by
  rw [m_uu, qx_up_eq]
  congr 1
  funext i
  unfold upd m_row
  by_cases e : i = 10
  · subst e; simp
  · simp [e]
theorem c_X6_byteAt (l : Launch) (G : qx_G) (σ : qx_Sg) (t : Nat) (ht : t ≤ 120) (et : σ 53 6 = nI t) (i : Nat) (hi : i ≤ t) : qx_Ct l G yX6_byteAt cX6_byteAt 2 (some .int) 0 0 [.ref (qx_ad G 53), .int (nI i)] (σ) (qx_pi (t_ba (σ 58) t i) (σ)) := by
  refine qx_of .int (lo := [(0, .ref (qx_ad G 53)), (1, .int (nI i))]) (by decide +kernel) (Nat.le_of_ble_eq_true rfl) rfl (fun Δ (C : qx_C G Δ cX6_byteAt RX6 2 0 0) hret => ?_)
  refine qk_iloadn C dX6_byteAt_0 1 rfl rfl 1 rfl ?_
  refine qk_aloadn C dX6_byteAt_1 2 rfl rfl 0 rfl ?_
  refine qk_get C dX6_byteAt_2 5 rfl qf_X6_243 53 (by decide) rfl rfl ?_
  refine qk_cast (et) ?_
  refine qk_icmp_ge C dX6_byteAt_5 17 rfl 8 rfl (fun c_5 => ?_) (fun c_5 => ?_)
  · have hit : t ≤ i := (nI_leI (by omega) (by omega)).mp c_5
    refine qk_iconst C ((-1)) dX6_byteAt_17 18 rfl rfl ?_
    exact hret _ _ _ _ dX6_byteAt_18 ⟨congrArg (fun x => some (Value.int x)) ((t_ba_f (Nat.not_lt.mpr hit)).symm), rfl⟩ rfl
  · have hit : i < t := Nat.not_le.mp (fun q => c_5 (nI_le q (by omega)))
    refine qk_aloadn C dX6_byteAt_8 9 rfl rfl 0 rfl ?_
    refine qk_get C dX6_byteAt_9 12 rfl qf_X6_22 53 (by decide) rfl rfl ?_
    refine qk_iloadn C dX6_byteAt_12 13 rfl rfl 1 rfl ?_
    refine qk_iald C dX6_byteAt_13 14 rfl 58 (by decide) (fun _ => rfl) (i) rfl (by omega) (by decide) ?_
    refine qk_cast (show _ = σ 58 (i) from rfl) ?_
    refine qk_goto C dX6_byteAt_14 18 rfl ?_
    exact hret _ _ _ _ dX6_byteAt_18 ⟨congrArg (fun x => some (Value.int x)) ((t_ba_t hit).symm), rfl⟩ rfl

theorem c_X6_token (l : Launch) (G : qx_G) (σ : qx_Sg) (q : Nat → Int32) (a b w : Int32) (t : Nat) (ht : t ≤ 120) (et : q 6 = nI t) (hb : t_by (σ 58) t) (p : Nat) (hp : p ≤ t) : qx_Ct l G yX6_token cX6_token 2 none 1 22 [.ref (qx_ad G 53)] (va_up σ 53 (m_row q a (nI p) b w)) (qx_pv (va_up σ 53 (m_row q (nI (t_sp (σ 58) t 121 p)) (nI (t_tk (σ 58) t (t_sp (σ 58) t 121 p) 0).2.1) (m_kd (t_tk (σ 58) t (t_sp (σ 58) t 121 p) 0).1) (t_tk (σ 58) t (t_sp (σ 58) t 121 p) 0).2.2))) := by
  refine qx_ofV (lo := [(0, .ref (qx_ad G 53))]) (by decide +kernel) (Nat.le_of_ble_eq_true rfl) rfl (fun Δ (C : qx_C G Δ cX6_token RX6 2 1 22) hret => ?_)
  refine qk_aloadn C dX6_token_0 1 rfl rfl 0 rfl ?_
  refine qk_aloadn C dX6_token_1 2 rfl rfl 0 rfl ?_
  refine qk_get C dX6_token_2 5 rfl qf_X6_247 53 (by decide) rfl rfl ?_
  refine qk_cast (show _ = nI p from rfl) ?_
  refine qk_put C .int dX6_token_5 8 rfl qf_X6_250 53 (by decide) rfl (fun q hq => by cases hq; rfl) rfl rfl (Nat.le_of_ble_eq_true rfl) rfl ?_
  refine qk_sg _ (m_q7) ?_
  have lp_8 : ∀ (n_8 : Nat) (f i : Nat), (i ≤ t ∧ t < i + f ∧ (t_sp (σ 58) t 121 p) = t_sp (σ 58) t f i) → t - i < n_8 → qx_K l G Δ (va_up σ 53 (m_row q (nI i) (nI p) b w)) 8 [(0, .ref (qx_ad G 53))] [] := by
    intro n_8
    induction n_8 with
    | zero => intro _ _ _ h9; exact absurd h9 (Nat.not_lt_zero _)
    | succ n_8 ih_8 =>
      intro f i hi hm_8
      refine qk_aloadn C dX6_token_8 9 rfl rfl 0 rfl ?_
      refine qk_aloadn C dX6_token_9 10 rfl rfl 0 rfl ?_
      refine qk_get C dX6_token_10 13 rfl qf_X6_250 53 (by decide) rfl rfl ?_
      refine qk_cast (show _ = nI i from rfl) ?_
      refine qk_callV C dX6_token_13 16 rfl ql_X6_253 qc_X6_byteAt 53 (by decide) rfl rfl (c_X6_byteAt l G _ t ht et i (by omega)) rfl rfl (Nat.le_of_ble_eq_true rfl) ⟨(Nat.le_of_ble_eq_true rfl), (Nat.le_of_ble_eq_true rfl)⟩ (qx_Ki ?_)
      refine qk_bipush C (32) dX6_token_16 18 rfl rfl ?_
      refine qk_icmp_ne C dX6_token_18 34 rfl 21 rfl (fun c_18 => ?_) (fun c_18 => ?_)
      · have hS : (t_sp (σ 58) t 121 p) = i := hi.2.2.trans (t_sp_f (fun q => c_18 (t_ba32.mpr q)))
        refine qk_aloadn C dX6_token_34 35 rfl rfl 0 rfl ?_
        refine qk_aloadn C dX6_token_35 36 rfl rfl 0 rfl ?_
        refine qk_get C dX6_token_36 39 rfl qf_X6_250 53 (by decide) rfl rfl ?_
        refine qk_cast (show _ = nI i from rfl) ?_
        refine qk_callV C dX6_token_39 42 rfl ql_X6_253 qc_X6_byteAt 53 (by decide) rfl rfl (c_X6_byteAt l G _ t ht et i (by omega)) rfl rfl (Nat.le_of_ble_eq_true rfl) ⟨(Nat.le_of_ble_eq_true rfl), (Nat.le_of_ble_eq_true rfl)⟩ (qx_Ki ?_)
        refine qk_istoren C dX6_token_42 43 rfl rfl (by decide) rfl ?_
        refine qk_aloadn C dX6_token_43 44 rfl rfl 1 rfl ?_
        refine qk_aloadn C dX6_token_44 45 rfl rfl 1 rfl ?_
        refine qk_get C dX6_token_45 48 rfl qf_X6_250 53 (by decide) rfl rfl ?_
        refine qk_cast (show _ = nI i from rfl) ?_
        refine qk_put C .int dX6_token_48 51 rfl qf_X6_247 53 (by decide) rfl (fun q hq => by cases hq; rfl) rfl rfl (Nat.le_of_ble_eq_true rfl) rfl ?_
        refine qk_sg _ (m_q8) ?_
        refine qk_aloadn C dX6_token_51 52 rfl rfl 1 rfl ?_
        refine qk_iconst C (0) dX6_token_52 53 rfl rfl ?_
        refine qk_put C .int dX6_token_53 56 rfl qf_X6_256 53 (by decide) rfl (fun q hq => by cases hq; rfl) rfl rfl (Nat.le_of_ble_eq_true rfl) rfl ?_
        refine qk_sg _ (m_q10) ?_
        refine qk_iloadn C dX6_token_56 57 rfl rfl 0 rfl ?_
        refine qk_if_ge C dX6_token_57 68 rfl 60 rfl (fun c_57 => ?_) (fun c_57 => ?_)
        · have hit2 : i < t := by
            rcases Nat.lt_or_ge i t with h | h
            · exact h
            · have e : t_ba (σ 58) t i = -1 := t_ba_f (by omega)
              have c57 : (0 : Int32) ≤ t_ba (σ 58) t i := c_57
              rw [e] at c57
              exact absurd c57 (by decide)
          refine qk_iloadn C dX6_token_68 69 rfl rfl 0 rfl ?_
          refine qk_bipush C (97) dX6_token_69 71 rfl rfl ?_
          refine qk_bipush C (122) dX6_token_71 73 rfl rfl ?_
          refine qk_callS C dX6_token_73 76 rfl ql_X6_70 qc_X6_within (c_X6_within l G _ _ _ _) rfl rfl (Nat.le_of_ble_eq_true rfl) ⟨(Nat.le_of_ble_eq_true rfl), (Nat.le_of_ble_eq_true rfl)⟩ (qx_Ki ?_)
          refine qk_if_eqB C dX6_token_76 115 rfl 79 rfl (fun c_76 => ?_) (fun c_76 => ?_)
          · have h1 : ¬ t_lt (σ 58 i) := fun q => c_76 (t_balt.mpr ⟨hit2, q⟩)
            refine qk_iloadn C dX6_token_115 116 rfl rfl 0 rfl ?_
            refine qk_bipush C (48) dX6_token_116 118 rfl rfl ?_
            refine qk_bipush C (57) dX6_token_118 120 rfl rfl ?_
            refine qk_callS C dX6_token_120 123 rfl ql_X6_70 qc_X6_within (c_X6_within l G _ _ _ _) rfl rfl (Nat.le_of_ble_eq_true rfl) ⟨(Nat.le_of_ble_eq_true rfl), (Nat.le_of_ble_eq_true rfl)⟩ (qx_Ki ?_)
            refine qk_if_eqB C dX6_token_123 191 rfl 126 rfl (fun c_123 => ?_) (fun c_123 => ?_)
            · have h2 : ¬ t_dg (σ 58 i) := fun q => c_123 (t_badg.mpr ⟨hit2, q⟩)
              refine qk_aloadn C dX6_token_191 192 rfl rfl 1 rfl ?_
              refine qk_iconst C (3) dX6_token_192 193 rfl rfl ?_
              refine qk_put C .int dX6_token_193 196 rfl qf_X6_259 53 (by decide) rfl (fun q hq => by cases hq; rfl) rfl rfl (Nat.le_of_ble_eq_true rfl) rfl ?_
              refine qk_sg _ (m_q9) ?_
              refine qk_aloadn C dX6_token_196 197 rfl rfl 1 rfl ?_
              refine qk_dup C dX6_token_197 198 rfl rfl ?_
              refine qk_get C dX6_token_198 201 rfl qf_X6_247 53 (by decide) rfl rfl ?_
              refine qk_cast (show _ = nI i from rfl) ?_
              refine qk_iconst C (1) dX6_token_201 202 rfl rfl ?_
              refine qk_iadd C dX6_token_202 203 rfl ?_
              refine qk_cast (nI_1 _) ?_
              refine qk_put C .int dX6_token_203 206 rfl qf_X6_247 53 (by decide) rfl (fun q hq => by cases hq; rfl) rfl rfl (Nat.le_of_ble_eq_true rfl) rfl ?_
              refine qk_sg _ (m_q8) ?_
              exact hret _ _ _ dX6_token_206 ⟨rfl, by
                  by_cases h3 : σ 58 i = 59
                  · rw [hS, t_tk3 (r := σ 58) hit2 h1 h2 h3]; rfl
                  · rw [hS, t_tk4 (r := σ 58) hit2 h1 h2 h3]; rfl⟩
            · have h2 : t_dg (σ 58 i) := (t_badg.mp c_123).2
              refine qk_aloadn C dX6_token_126 127 rfl rfl 1 rfl ?_
              refine qk_iconst C (2) dX6_token_127 128 rfl rfl ?_
              refine qk_put C .int dX6_token_128 131 rfl qf_X6_259 53 (by decide) rfl (fun q hq => by cases hq; rfl) rfl rfl (Nat.le_of_ble_eq_true rfl) rfl ?_
              refine qk_sg _ (m_q9) ?_
              have lp_131 : ∀ (n_131 : Nat) (f j : Nat) (u : Int32), (i ≤ j ∧ j ≤ t ∧ t < j + f ∧ t_nm (σ 58) t 121 i 0 = t_nm (σ 58) t f j u) → t - j < n_131 → qx_K l G Δ (va_up σ 53 (m_row q (nI i) (nI j) 2 u)) 131 [(0, .ref (qx_ad G 53))] [] := by
                intro n_131
                induction n_131 with
                | zero => intro _ _ _ _ h9; exact absurd h9 (Nat.not_lt_zero _)
                | succ n_131 ih_131 =>
                  intro f j u hj hm_131
                  refine qk_aloadn C dX6_token_131 132 rfl rfl 0 rfl ?_
                  refine qk_aloadn C dX6_token_132 133 rfl rfl 0 rfl ?_
                  refine qk_get C dX6_token_133 136 rfl qf_X6_247 53 (by decide) rfl rfl ?_
                  refine qk_cast (show _ = nI j from rfl) ?_
                  refine qk_callV C dX6_token_136 139 rfl ql_X6_253 qc_X6_byteAt 53 (by decide) rfl rfl (c_X6_byteAt l G _ t ht et j (by omega)) rfl rfl (Nat.le_of_ble_eq_true rfl) ⟨(Nat.le_of_ble_eq_true rfl), (Nat.le_of_ble_eq_true rfl)⟩ (qx_Ki ?_)
                  refine qk_bipush C (48) dX6_token_139 141 rfl rfl ?_
                  refine qk_bipush C (57) dX6_token_141 143 rfl rfl ?_
                  refine qk_callS C dX6_token_143 146 rfl ql_X6_70 qc_X6_within (c_X6_within l G _ _ _ _) rfl rfl (Nat.le_of_ble_eq_true rfl) ⟨(Nat.le_of_ble_eq_true rfl), (Nat.le_of_ble_eq_true rfl)⟩ (qx_Ki ?_)
                  refine qk_if_eqB C dX6_token_146 206 rfl 149 rfl (fun c_146 => ?_) (fun c_146 => ?_)
                  · exact hret _ _ _ dX6_token_206 ⟨rfl, by rw [hS, t_tk2 (r := σ 58) hit2 h1 h2, hj.2.2.2, t_nm_f (r := σ 58) (fun q => c_146 (t_badg.mpr q))]; rfl⟩
                  · have hjt := (t_badg.mp c_146).1
                    refine qk_aloadn C dX6_token_149 150 rfl rfl 0 rfl ?_
                    refine qk_sipush C (10000) dX6_token_150 153 rfl rfl ?_
                    refine qk_bipush C (10) dX6_token_153 155 rfl rfl ?_
                    refine qk_aloadn C dX6_token_155 156 rfl rfl 0 rfl ?_
                    refine qk_get C dX6_token_156 159 rfl qf_X6_256 53 (by decide) rfl rfl ?_
                    refine qk_cast (show _ = u from rfl) ?_
                    refine qk_imul C dX6_token_159 160 rfl ?_
                    refine qk_aloadn C dX6_token_160 161 rfl rfl 0 rfl ?_
                    refine qk_aloadn C dX6_token_161 162 rfl rfl 0 rfl ?_
                    refine qk_get C dX6_token_162 165 rfl qf_X6_247 53 (by decide) rfl rfl ?_
                    refine qk_cast (show _ = nI j from rfl) ?_
                    refine qk_callV C dX6_token_165 168 rfl ql_X6_253 qc_X6_byteAt 53 (by decide) rfl rfl (c_X6_byteAt l G _ t ht et j (by omega)) rfl rfl (Nat.le_of_ble_eq_true rfl) ⟨(Nat.le_of_ble_eq_true rfl), (Nat.le_of_ble_eq_true rfl)⟩ (qx_Ki ?_)
                    refine qk_cast (t_ba_t hjt) ?_
                    refine qk_iadd C dX6_token_168 169 rfl ?_
                    refine qk_bipush C (48) dX6_token_169 171 rfl rfl ?_
                    refine qk_isub C dX6_token_171 172 rfl ?_
                    refine qk_min C dX6_token_172 175 rfl ql_X6_162 ⟨(Nat.le_of_ble_eq_true rfl), (Nat.le_of_ble_eq_true rfl)⟩ ?_
                    refine qk_put C .int dX6_token_175 178 rfl qf_X6_256 53 (by decide) rfl (fun q hq => by cases hq; rfl) rfl rfl (Nat.le_of_ble_eq_true rfl) rfl ?_
                    refine qk_sg _ (m_q10) ?_
                    refine qk_aloadn C dX6_token_178 179 rfl rfl 0 rfl ?_
                    refine qk_dup C dX6_token_179 180 rfl rfl ?_
                    refine qk_get C dX6_token_180 183 rfl qf_X6_247 53 (by decide) rfl rfl ?_
                    refine qk_cast (show _ = nI j from rfl) ?_
                    refine qk_iconst C (1) dX6_token_183 184 rfl rfl ?_
                    refine qk_iadd C dX6_token_184 185 rfl ?_
                    refine qk_cast (nI_1 _) ?_
                    refine qk_put C .int dX6_token_185 188 rfl qf_X6_247 53 (by decide) rfl (fun q hq => by cases hq; rfl) rfl rfl (Nat.le_of_ble_eq_true rfl) rfl ?_
                    refine qk_sg _ (m_q8) ?_
                    refine qk_goto C dX6_token_188 131 rfl ?_
                    exact ih_131 (f - 1) (j + 1) _ ⟨by omega, by omega, by omega, hj.2.2.2.trans (t_nm_t (by omega) (t_badg.mp c_146))⟩ (by omega)
              exact qk_lo [1] rfl (lp_131 _ 121 i 0 ⟨by omega, by omega, by omega, rfl⟩ (Nat.lt_succ_self _))
          · have h1 : t_lt (σ 58 i) := (t_balt.mp c_76).2
            refine qk_aloadn C dX6_token_79 80 rfl rfl 1 rfl ?_
            refine qk_iconst C (1) dX6_token_80 81 rfl rfl ?_
            refine qk_put C .int dX6_token_81 84 rfl qf_X6_259 53 (by decide) rfl (fun q hq => by cases hq; rfl) rfl rfl (Nat.le_of_ble_eq_true rfl) rfl ?_
            refine qk_sg _ (m_q9) ?_
            have lp_84 : ∀ (n_84 : Nat) (f j : Nat), (i ≤ j ∧ j ≤ t ∧ t < j + f ∧ t_wd (σ 58) t 121 i = t_wd (σ 58) t f j) → t - j < n_84 → qx_K l G Δ (va_up σ 53 (m_row q (nI i) (nI j) 1 0)) 84 [(0, .ref (qx_ad G 53))] [] := by
              intro n_84
              induction n_84 with
              | zero => intro _ _ _ h9; exact absurd h9 (Nat.not_lt_zero _)
              | succ n_84 ih_84 =>
                intro f j hj hm_84
                refine qk_aloadn C dX6_token_84 85 rfl rfl 0 rfl ?_
                refine qk_aloadn C dX6_token_85 86 rfl rfl 0 rfl ?_
                refine qk_get C dX6_token_86 89 rfl qf_X6_247 53 (by decide) rfl rfl ?_
                refine qk_cast (show _ = nI j from rfl) ?_
                refine qk_callV C dX6_token_89 92 rfl ql_X6_253 qc_X6_byteAt 53 (by decide) rfl rfl (c_X6_byteAt l G _ t ht et j (by omega)) rfl rfl (Nat.le_of_ble_eq_true rfl) ⟨(Nat.le_of_ble_eq_true rfl), (Nat.le_of_ble_eq_true rfl)⟩ (qx_Ki ?_)
                refine qk_bipush C (97) dX6_token_92 94 rfl rfl ?_
                refine qk_bipush C (122) dX6_token_94 96 rfl rfl ?_
                refine qk_callS C dX6_token_96 99 rfl ql_X6_70 qc_X6_within (c_X6_within l G _ _ _ _) rfl rfl (Nat.le_of_ble_eq_true rfl) ⟨(Nat.le_of_ble_eq_true rfl), (Nat.le_of_ble_eq_true rfl)⟩ (qx_Ki ?_)
                refine qk_if_eqB C dX6_token_99 206 rfl 102 rfl (fun c_99 => ?_) (fun c_99 => ?_)
                · exact hret _ _ _ dX6_token_206 ⟨rfl, by rw [hS, t_tk1 (r := σ 58) hit2 h1, hj.2.2.2, t_wd_f (r := σ 58) (fun q => c_99 (t_balt.mpr q))]; rfl⟩
                · have hjt := (t_balt.mp c_99).1
                  refine qk_aloadn C dX6_token_102 103 rfl rfl 0 rfl ?_
                  refine qk_dup C dX6_token_103 104 rfl rfl ?_
                  refine qk_get C dX6_token_104 107 rfl qf_X6_247 53 (by decide) rfl rfl ?_
                  refine qk_cast (show _ = nI j from rfl) ?_
                  refine qk_iconst C (1) dX6_token_107 108 rfl rfl ?_
                  refine qk_iadd C dX6_token_108 109 rfl ?_
                  refine qk_cast (nI_1 _) ?_
                  refine qk_put C .int dX6_token_109 112 rfl qf_X6_247 53 (by decide) rfl (fun q hq => by cases hq; rfl) rfl rfl (Nat.le_of_ble_eq_true rfl) rfl ?_
                  refine qk_sg _ (m_q8) ?_
                  refine qk_goto C dX6_token_112 84 rfl ?_
                  exact ih_84 (f - 1) (j + 1) ⟨by omega, by omega, by omega, hj.2.2.2.trans (t_wd_t (by omega) (t_balt.mp c_99))⟩ (by omega)
            exact qk_lo [1] rfl (lp_84 _ 121 i ⟨by omega, by omega, by omega, rfl⟩ (Nat.lt_succ_self _))
        · have hit2 : ¬ i < t := by
            intro h
            have e : t_ba (σ 58) t i = σ 58 i := t_ba_t h
            refine hb i h ?_
            rw [← e]
            exact Int32.not_le.mp c_57
          refine qk_aloadn C dX6_token_60 61 rfl rfl 1 rfl ?_
          refine qk_iconst C (0) dX6_token_61 62 rfl rfl ?_
          refine qk_put C .int dX6_token_62 65 rfl qf_X6_259 53 (by decide) rfl (fun q hq => by cases hq; rfl) rfl rfl (Nat.le_of_ble_eq_true rfl) rfl ?_
          refine qk_sg _ (m_q9) ?_
          refine qk_goto C dX6_token_65 206 rfl ?_
          exact hret _ _ _ dX6_token_206 ⟨rfl, by rw [hS, t_tk0 hit2]; rfl⟩
      · refine qk_aloadn C dX6_token_21 22 rfl rfl 0 rfl ?_
        refine qk_dup C dX6_token_22 23 rfl rfl ?_
        refine qk_get C dX6_token_23 26 rfl qf_X6_250 53 (by decide) rfl rfl ?_
        refine qk_cast (show _ = nI i from rfl) ?_
        refine qk_iconst C (1) dX6_token_26 27 rfl rfl ?_
        refine qk_iadd C dX6_token_27 28 rfl ?_
        refine qk_cast (nI_1 _) ?_
        refine qk_put C .int dX6_token_28 31 rfl qf_X6_250 53 (by decide) rfl (fun q hq => by cases hq; rfl) rfl rfl (Nat.le_of_ble_eq_true rfl) rfl ?_
        refine qk_sg _ (m_q7) ?_
        refine qk_goto C dX6_token_31 8 rfl ?_
        exact ih_8 (f - 1) (i + 1) ⟨by have := (t_ba32.mp c_18).1; omega, by omega, hi.2.2.trans (t_sp_t (by omega) (t_ba32.mp c_18))⟩ (by have := (t_ba32.mp c_18).1; omega)
  exact lp_8 _ 121 p ⟨hp, by omega, rfl⟩ (Nat.lt_succ_self _)

