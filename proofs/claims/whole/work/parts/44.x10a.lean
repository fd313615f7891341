/-! constructors -/
def z1 (x : Int32) (i : Nat) : Nat → Int32 := fun j => if j < i then x else 0
theorem z1_0 {x : Int32} : (fun _ => 0) = z1 x 0 := by
  funext j
  exact (if_neg (Nat.not_lt_zero j)).symm
theorem z1_s {x : Int32} {i : Nat} : upd (z1 x i) i x = z1 x (i + 1) := by
  funext j
  by_cases e : j = i
  · subst e
    rw [upd_eq]
    exact (if_pos (Nat.lt_succ_self j)).symm
  · rw [upd_ne e]
    unfold z1
    by_cases h : j < i
    · rw [if_pos h, if_pos (by omega)]
    · rw [if_neg h, if_neg (by omega)]
/-- the row of a new library -/
def z0 (a b : Nat) : Nat → Int32 := fun j => if j = 2 then 1 else if 4 ≤ j ∧ j < 4 + a then 12 else if 22 ≤ j ∧ j < 22 + b then -1 else 0
theorem z0_0 : upd (fun _ => 0) 2 1 = z0 0 0 := by
  funext j
  by_cases e : j = 2
  · subst e; rfl
  · rw [upd_ne e]
    unfold z0
    rw [if_neg e, if_neg (by omega), if_neg (by omega)]
theorem z0_a {i b : Nat} (hi : i < 6) : upd (z0 i b) (4 + i) 12 = z0 (i + 1) b := by
  funext j
  by_cases e : j = 4 + i
  · subst e
    rw [upd_eq]
    unfold z0
    rw [if_neg (by omega), if_pos ⟨by omega, by omega⟩]
  · rw [upd_ne e]
    unfold z0
    by_cases h2 : j = 2
    · rw [if_pos h2, if_pos h2]
    · rw [if_neg h2, if_neg h2]
      by_cases h : 4 ≤ j ∧ j < 4 + i
      · rw [if_pos h, if_pos ⟨h.1, by omega⟩]
      · rw [if_neg h, if_neg (show ¬ (4 ≤ j ∧ j < 4 + (i + 1)) by omega)]
theorem z0_b {i a : Nat} (ha : a ≤ 6) : upd (z0 a i) (22 + i) (-1) = z0 a (i + 1) := by
  funext j
  by_cases e : j = 22 + i
  · subst e
    rw [upd_eq]
    unfold z0
    rw [if_neg (by omega), if_neg (by omega), if_pos ⟨by omega, by omega⟩]
  · rw [upd_ne e]
    unfold z0
    by_cases h2 : j = 2
    · rw [if_pos h2, if_pos h2]
    · rw [if_neg h2, if_neg h2]
      by_cases h4 : 4 ≤ j ∧ j < 4 + a
      · rw [if_pos h4, if_pos h4]
      · rw [if_neg h4, if_neg h4]
        by_cases h : 22 ≤ j ∧ j < 22 + i
        · rw [if_pos h, if_pos ⟨h.1, by omega⟩]
        · rw [if_neg h, if_neg (by omega)]
theorem nw_129 : Cond.classLink RL 7 RX5 ∈ qx_Wd := qx_in (List.mem_of_getElem? (l := lw_tbl) (i := 129) (by decide +kernel)) rfl
theorem nw_137 : Cond.classLink RX5 9 RX1 ∈ qx_Wd := qx_in (List.mem_of_getElem? (l := lw_tbl) (i := 137) (by decide +kernel)) rfl
theorem nw_143 : Cond.classLink RX1 34 RX0 ∈ qx_Wd := qx_in (List.mem_of_getElem? (l := lw_tbl) (i := 143) (by decide +kernel)) rfl
theorem nw_221 : Cond.classLink RX5 26 RX3 ∈ qx_Wd := qx_in (List.mem_of_getElem? (l := lw_tbl) (i := 221) (by decide +kernel)) rfl
theorem nw_250 : Cond.classLink RX5 33 RX4 ∈ qx_Wd := qx_in (List.mem_of_getElem? (l := lw_tbl) (i := 250) (by decide +kernel)) rfl
theorem nw_269 : Cond.classLink RX5 42 RX2 ∈ qx_Wd := qx_in (List.mem_of_getElem? (l := lw_tbl) (i := 269) (by decide +kernel)) rfl
theorem nw_854 : Cond.classLink RL 10 RX6 ∈ qx_Wd := qx_in (List.mem_of_getElem? (l := lw_tbl) (i := 854) (by decide +kernel)) rfl
theorem nw_860 : Cond.classLink RX6 25 "java/lang/String" ∈ qx_Wd := qx_in (List.mem_of_getElem? (l := lw_tbl) (i := 860) (by decide +kernel)) rfl
theorem nw_130 : Cond.instantiable RX5 8 ∈ qx_Wd := qx_in (List.mem_of_getElem? (l := lw_tbl) (i := 130) (by decide +kernel)) rfl
theorem nw_138 : Cond.instantiable RX1 8 ∈ qx_Wd := qx_in (List.mem_of_getElem? (l := lw_tbl) (i := 138) (by decide +kernel)) rfl
theorem nw_145 : Cond.instantiable RX0 7 ∈ qx_Wd := qx_in (List.mem_of_getElem? (l := lw_tbl) (i := 145) (by decide +kernel)) rfl
theorem nw_222 : Cond.instantiable RX3 6 ∈ qx_Wd := qx_in (List.mem_of_getElem? (l := lw_tbl) (i := 222) (by decide +kernel)) rfl
theorem nw_251 : Cond.instantiable RX4 4 ∈ qx_Wd := qx_in (List.mem_of_getElem? (l := lw_tbl) (i := 251) (by decide +kernel)) rfl
theorem nw_271 : Cond.instantiable RX2 3 ∈ qx_Wd := qx_in (List.mem_of_getElem? (l := lw_tbl) (i := 271) (by decide +kernel)) rfl
theorem nw_855 : Cond.instantiable RX6 20 ∈ qx_Wd := qx_in (List.mem_of_getElem? (l := lw_tbl) (i := 855) (by decide +kernel)) rfl
theorem nw_184 : Cond.arrayClass .int ∈ qx_Wd := qx_in (List.mem_of_getElem? (l := lw_tbl) (i := 184) (by decide +kernel)) rfl
theorem nw_136 : Cond.code objectInit ⟨#[0xb1]⟩ 1 none ∈ qx_Wd := qx_in (List.mem_of_getElem? (l := lw_tbl) (i := 136) (by decide +kernel)) rfl
theorem nd_X0 : ∀ j, j < 7 → defaultValue (tyX0 j) = vp_V [.int 0, .int 0, .int 0, .int 0, .int 0, .int 0, .int 0] j := fun j hj => by rcases (show j = 0 ∨ j = 1 ∨ j = 2 ∨ j = 3 ∨ j = 4 ∨ j = 5 ∨ j = 6 by omega) with rfl | rfl | rfl | rfl | rfl | rfl | rfl <;> rfl
theorem nd_X1 : ∀ j, j < 8 → defaultValue (tyX1 j) = vp_V [.int 0, .int 0, .int 0, .int 0, .null, .null, .null, .null] j := fun j hj => by rcases (show j = 0 ∨ j = 1 ∨ j = 2 ∨ j = 3 ∨ j = 4 ∨ j = 5 ∨ j = 6 ∨ j = 7 by omega) with rfl | rfl | rfl | rfl | rfl | rfl | rfl | rfl <;> rfl
theorem nd_X2 : ∀ j, j < 3 → defaultValue (tyX2 j) = vp_V [.int 0, .int 0, .null] j := fun j hj => by rcases (show j = 0 ∨ j = 1 ∨ j = 2 by omega) with rfl | rfl | rfl <;> rfl
theorem nd_X3 : ∀ j, j < 6 → defaultValue (tyX3 j) = vp_V [.null, .int 0, .int 0, .int 0, .int 0, .int 0] j := fun j hj => by rcases (show j = 0 ∨ j = 1 ∨ j = 2 ∨ j = 3 ∨ j = 4 ∨ j = 5 by omega) with rfl | rfl | rfl | rfl | rfl | rfl <;> rfl
theorem nd_X4 : ∀ j, j < 4 → defaultValue (tyX4 j) = vp_V [.null, .null, .int 0, .int 0] j := fun j hj => by rcases (show j = 0 ∨ j = 1 ∨ j = 2 ∨ j = 3 by omega) with rfl | rfl | rfl | rfl <;> rfl
theorem nd_X5 : ∀ j, j < 8 → defaultValue (tyX5 j) = vp_V [.null, .null, .null, .int 0, .null, .null, .null, .null] j := fun j hj => by rcases (show j = 0 ∨ j = 1 ∨ j = 2 ∨ j = 3 ∨ j = 4 ∨ j = 5 ∨ j = 6 ∨ j = 7 by omega) with rfl | rfl | rfl | rfl | rfl | rfl | rfl | rfl <;> rfl
theorem nd_X6 : ∀ j, j < 20 → defaultValue (tyX6 j) = vp_V [.null, .null, .null, .int 0, .null, .null, .int 0, .int 0, .int 0, .int 0, .int 0, .int 0, .null, .null, .int 0, .int 0, .null, .null, .null, .null] j := fun j hj => by rcases (show j = 0 ∨ j = 1 ∨ j = 2 ∨ j = 3 ∨ j = 4 ∨ j = 5 ∨ j = 6 ∨ j = 7 ∨ j = 8 ∨ j = 9 ∨ j = 10 ∨ j = 11 ∨ j = 12 ∨ j = 13 ∨ j = 14 ∨ j = 15 ∨ j = 16 ∨ j = 17 ∨ j = 18 ∨ j = 19 by omega) with rfl | rfl | rfl | rfl | rfl | rfl | rfl | rfl | rfl | rfl | rfl | rfl | rfl | rfl | rfl | rfl | rfl | rfl | rfl | rfl <;> rfl
theorem qff_X5_12 : qx_FF RX5 12 5 0 := ⟨RX5, TX5, 8, rfl, uw_X5, by decide, nmX5, ⟨tyX5, tyX5_ok⟩, rfl, rfl, qw_289⟩
theorem qff_X5_16 : qx_FF RX5 16 5 1 := ⟨RX5, TX5, 8, rfl, uw_X5, by decide, nmX5, ⟨tyX5, tyX5_ok⟩, rfl, rfl, qw_290⟩
theorem qff_X5_19 : qx_FF RX5 19 5 2 := ⟨RX5, TX5, 8, rfl, uw_X5, by decide, nmX5, ⟨tyX5, tyX5_ok⟩, rfl, rfl, qw_291⟩
theorem qff_X5_29 : qx_FF RX5 29 5 4 := ⟨RX5, TX5, 8, rfl, uw_X5, by decide, nmX5, ⟨tyX5, tyX5_ok⟩, rfl, rfl, qw_293⟩
theorem qff_X5_38 : qx_FF RX5 38 5 5 := ⟨RX5, TX5, 8, rfl, uw_X5, by decide, nmX5, ⟨tyX5, tyX5_ok⟩, rfl, rfl, qw_294⟩
theorem qff_X5_44 : qx_FF RX5 44 5 6 := ⟨RX5, TX5, 8, rfl, uw_X5, by decide, nmX5, ⟨tyX5, tyX5_ok⟩, rfl, rfl, qw_295⟩
theorem qff_X5_48 : qx_FF RX5 48 5 7 := ⟨RX5, TX5, 8, rfl, uw_X5, by decide, nmX5, ⟨tyX5, tyX5_ok⟩, rfl, rfl, qw_296⟩
theorem qff_X1_24 : qx_FF RX1 24 1 4 := ⟨RX1, TX1, 8, rfl, uw_X1, by decide, nmX1, ⟨tyX1, tyX1_ok⟩, rfl, rfl, qw_193⟩
theorem qff_X1_28 : qx_FF RX1 28 1 5 := ⟨RX1, TX1, 8, rfl, uw_X1, by decide, nmX1, ⟨tyX1, tyX1_ok⟩, rfl, rfl, qw_196⟩
theorem qff_X1_31 : qx_FF RX1 31 1 6 := ⟨RX1, TX1, 8, rfl, uw_X1, by decide, nmX1, ⟨tyX1, tyX1_ok⟩, rfl, rfl, qw_199⟩
theorem qff_X1_36 : qx_FF RX1 36 1 7 := ⟨RX1, TX1, 8, rfl, uw_X1, by decide, nmX1, ⟨tyX1, tyX1_ok⟩, rfl, rfl, qw_201⟩
theorem qff_X2_18 : qx_FF RX2 18 2 2 := ⟨RX2, TX2, 3, rfl, uw_X2, by decide, nmX2, ⟨tyX2, tyX2_ok⟩, rfl, rfl, qw_280⟩
theorem qff_X3_9 : qx_FF RX3 9 3 0 := ⟨RX3, TX3, 6, rfl, uw_X3, by decide, nmX3, ⟨tyX3, tyX3_ok⟩, rfl, rfl, qw_227⟩
theorem qff_X4_18 : qx_FF RX4 18 4 0 := ⟨RX4, TX4, 4, rfl, uw_X4, by decide, nmX4, ⟨tyX4, tyX4_ok⟩, rfl, rfl, qw_256⟩
theorem qff_X4_22 : qx_FF RX4 22 4 1 := ⟨RX4, TX4, 4, rfl, uw_X4, by decide, nmX4, ⟨tyX4, tyX4_ok⟩, rfl, rfl, qw_257⟩
theorem qff_X6_9 : qx_FF RX6 9 6 0 := ⟨RX6, TX6, 20, rfl, uw_X6, by decide, nmX6, ⟨tyX6, tyX6_ok⟩, rfl, rfl, qw_869⟩
theorem qff_X6_13 : qx_FF RX6 13 6 1 := ⟨RX6, TX6, 20, rfl, uw_X6, by decide, nmX6, ⟨tyX6, tyX6_ok⟩, rfl, rfl, qw_870⟩
theorem qff_X6_16 : qx_FF RX6 16 6 2 := ⟨RX6, TX6, 20, rfl, uw_X6, by decide, nmX6, ⟨tyX6, tyX6_ok⟩, rfl, rfl, qw_871⟩
theorem qff_X6_19 : qx_FF RX6 19 6 4 := ⟨RX6, TX6, 20, rfl, uw_X6, by decide, nmX6, ⟨tyX6, tyX6_ok⟩, rfl, rfl, qw_873⟩
theorem qff_X6_22 : qx_FF RX6 22 6 5 := ⟨RX6, TX6, 20, rfl, uw_X6, by decide, nmX6, ⟨tyX6, tyX6_ok⟩, rfl, rfl, qw_874⟩
theorem qff_X6_41 : qx_FF RX6 41 6 12 := ⟨RX6, TX6, 20, rfl, uw_X6, by decide, nmX6, ⟨tyX6, tyX6_ok⟩, rfl, rfl, qw_881⟩
theorem qff_X6_45 : qx_FF RX6 45 6 13 := ⟨RX6, TX6, 20, rfl, uw_X6, by decide, nmX6, ⟨tyX6, tyX6_ok⟩, rfl, rfl, qw_882⟩
theorem qff_X6_48 : qx_FF RX6 48 6 16 := ⟨RX6, TX6, 20, rfl, uw_X6, by decide, nmX6, ⟨tyX6, tyX6_ok⟩, rfl, rfl, qw_885⟩
theorem qff_X6_51 : qx_FF RX6 51 6 17 := ⟨RX6, TX6, 20, rfl, uw_X6, by decide, nmX6, ⟨tyX6, tyX6_ok⟩, rfl, rfl, qw_886⟩
theorem qff_X6_54 : qx_FF RX6 54 6 18 := ⟨RX6, TX6, 20, rfl, uw_X6, by decide, nmX6, ⟨tyX6, tyX6_ok⟩, rfl, rfl, qw_887⟩
theorem qff_X6_57 : qx_FF RX6 57 6 19 := ⟨RX6, TX6, 20, rfl, uw_X6, by decide, nmX6, ⟨tyX6, tyX6_ok⟩, rfl, rfl, qw_888⟩
set_option maxHeartbeats 8000000 in
theorem n_X0_init (l : Launch) (G : qx_G) (q : Nat) : nx_Ct l G yX0_init cX0_init 1 1 12 0 0 [.ref q] [(q, .inr (0, [.int 0, .int 0, .int 0, .int 0, .int 0, .int 0, .int 0]))] (fun w => w = [(q, .inr (0, [.int (nI 0), .int (nI 0), .int (nI 0), .int (nI 0), .int (nI 0), .int (nI 0), .int (nI 0)]))]) := by
  refine nx_of (lo := [(0, .ref q)]) (by decide +kernel) rfl (Nat.le_of_ble_eq_true rfl) rfl (fun Δ (C : nx_C G Δ cX0_init RX0 1 1 12 0 0) hi hret => ?_)
  refine nk_aloadn C dX0_init_0 1 rfl rfl 0 rfl ?_
  refine nk_oinit C qw_149 qw_135 nw_136 dX0_init_1 4 rfl ⟨(Nat.le_of_ble_eq_true rfl), (Nat.le_of_ble_eq_true rfl)⟩ ?_
  exact hret _ _ _ dX0_init_4 (rfl)
def nL (G : qx_G) (q : Nat) (a : Nat → Nat) (f : Nat → Option Nat) : va_W := [(q, .inr (1, [.int (nI 0), .int (nI 0), .int (nI 1), .int (nI 0), .ref (a 1), .ref (a 2), .ref (a 3), .ref (a 4)])), ((a 1), .inl (G.2.1 0, 6, .inl (z1 12 6))), ((a 2), .inl (G.2.1 0, 12, .inl (fun _ => 0))), ((a 3), .inl (G.2.1 0, 10, .inl (z1 (-1) 10))), ((a 4), .inl (G.2.1 1, 8, .inr (.inr (.inr (.inr (f)))))), ((a 5), .inr (0, [.int (nI 0), .int (nI 0), .int (nI 0), .int (nI 0), .int (nI 0), .int (nI 0), .int (nI 0)])), ((a 6), .inr (0, [.int (nI 0), .int (nI 0), .int (nI 0), .int (nI 0), .int (nI 0), .int (nI 0), .int (nI 0)])), ((a 7), .inr (0, [.int (nI 0), .int (nI 0), .int (nI 0), .int (nI 0), .int (nI 0), .int (nI 0), .int (nI 0)])), ((a 8), .inr (0, [.int (nI 0), .int (nI 0), .int (nI 0), .int (nI 0), .int (nI 0), .int (nI 0), .int (nI 0)])), ((a 9), .inr (0, [.int (nI 0), .int (nI 0), .int (nI 0), .int (nI 0), .int (nI 0), .int (nI 0), .int (nI 0)])), ((a 10), .inr (0, [.int (nI 0), .int (nI 0), .int (nI 0), .int (nI 0), .int (nI 0), .int (nI 0), .int (nI 0)])), ((a 11), .inr (0, [.int (nI 0), .int (nI 0), .int (nI 0), .int (nI 0), .int (nI 0), .int (nI 0), .int (nI 0)])), ((a 12), .inr (0, [.int (nI 0), .int (nI 0), .int (nI 0), .int (nI 0), .int (nI 0), .int (nI 0), .int (nI 0)]))]
theorem n_8 {P : Nat → Prop} (h0 : P 0) (h1 : P 1) (h2 : P 2) (h3 : P 3) (h4 : P 4) (h5 : P 5) (h6 : P 6) (h7 : P 7) : ∀ i, i < 8 → P i := fun i hi => by
  rcases (show i = 0 ∨ i = 1 ∨ i = 2 ∨ i = 3 ∨ i = 4 ∨ i = 5 ∨ i = 6 ∨ i = 7 by omega) with rfl | rfl | rfl | rfl | rfl | rfl | rfl | rfl <;> assumption
theorem n_7 {P : Nat → Prop} (h0 : P 0) (h1 : P 1) (h2 : P 2) (h3 : P 3) (h4 : P 4) (h5 : P 5) (h6 : P 6) : ∀ i, i < 7 → P i := fun i hi => by
  rcases (show i = 0 ∨ i = 1 ∨ i = 2 ∨ i = 3 ∨ i = 4 ∨ i = 5 ∨ i = 6 by omega) with rfl | rfl | rfl | rfl | rfl | rfl | rfl <;> assumption
theorem n_4 {P : Nat → Prop} (h0 : P 0) (h1 : P 1) (h2 : P 2) (h3 : P 3) : ∀ i, i < 4 → P i := fun i hi => by
  rcases (show i = 0 ∨ i = 1 ∨ i = 2 ∨ i = 3 by omega) with rfl | rfl | rfl | rfl <;> assumption
set_option maxHeartbeats 8000000 in
theorem n_X1_init (l : Launch) (G : qx_G) (q : Nat) : nx_Ct l G yX1_init cX1_init 2 2 32 12 92 [.ref q] [(q, .inr (1, [.int 0, .int 0, .int 0, .int 0, .null, .null, .null, .null]))] (fun w => ∃ (a : Nat → Nat) (f : Nat → Option Nat), (∀ i, i < 8 → f i = some (a (5 + i))) ∧ w = nL G q a f) := by
  refine nx_of (lo := [(0, .ref q)]) (by decide +kernel) rfl (Nat.le_of_ble_eq_true rfl) rfl (fun Δ (C : nx_C G Δ cX1_init RX1 2 2 32 12 92) hi hret => ?_)
  refine nk_aloadn C dX1_init_0 1 rfl rfl 0 rfl ?_
  refine nk_oinit C qw_142 qw_135 nw_136 dX1_init_1 4 rfl ⟨(Nat.le_of_ble_eq_true rfl), (Nat.le_of_ble_eq_true rfl)⟩ ?_
  refine nk_aloadn C dX1_init_4 5 rfl rfl 0 rfl ?_
  refine nk_iconst C (nI 0) dX1_init_5 6 rfl rfl ?_
  refine nk_put C .int dX1_init_6 9 rfl qf_X1_9 0 rfl (fun q hq => by cases hq; rfl) rfl rfl (Nat.le_of_ble_eq_true rfl) [(q, .inr (1, [.int (nI 0), .int 0, .int 0, .int 0, .null, .null, .null, .null]))] rfl ?_
  refine nk_aloadn C dX1_init_9 10 rfl rfl 0 rfl ?_
  refine nk_iconst C (nI 0) dX1_init_10 11 rfl rfl ?_
  refine nk_put C .int dX1_init_11 14 rfl qf_X1_15 0 rfl (fun q hq => by cases hq; rfl) rfl rfl (Nat.le_of_ble_eq_true rfl) [(q, .inr (1, [.int (nI 0), .int (nI 0), .int 0, .int 0, .null, .null, .null, .null]))] rfl ?_
  refine nk_aloadn C dX1_init_14 15 rfl rfl 0 rfl ?_
  refine nk_iconst C (nI 1) dX1_init_15 16 rfl rfl ?_
  refine nk_put C .int dX1_init_16 19 rfl qf_X1_18 0 rfl (fun q hq => by cases hq; rfl) rfl rfl (Nat.le_of_ble_eq_true rfl) [(q, .inr (1, [.int (nI 0), .int (nI 0), .int (nI 1), .int 0, .null, .null, .null, .null]))] rfl ?_
  refine nk_aloadn C dX1_init_19 20 rfl rfl 0 rfl ?_
  refine nk_iconst C (nI 0) dX1_init_20 21 rfl rfl ?_
  refine nk_put C .int dX1_init_21 24 rfl qf_X1_21 0 rfl (fun q hq => by cases hq; rfl) rfl rfl (Nat.le_of_ble_eq_true rfl) [(q, .inr (1, [.int (nI 0), .int (nI 0), .int (nI 1), .int (nI 0), .null, .null, .null, .null]))] rfl ?_
  refine nk_aloadn C dX1_init_24 25 rfl rfl 0 rfl ?_
  refine nk_bipush C (nI 6) dX1_init_25 27 rfl rfl ?_
  refine nk_newa C nw_184 6 rfl (by omega) dX1_init_27 29 rfl 1 6 rfl rfl (Nat.le_of_ble_eq_true rfl) (Nat.le_of_ble_eq_true rfl) (fun q1 => ?_)
  refine nk_ws [(q, .inr (1, [.int (nI 0), .int (nI 0), .int (nI 1), .int (nI 0), .null, .null, .null, .null])), (q1, .inl (G.2.1 0, 6, .inl (fun _ => 0)))] rfl ?_
  refine nk_putF C hi (.array .int) dX1_init_29 32 rfl qff_X1_24 0 rfl (fun q hq => by cases hq; rfl) rfl rfl (Nat.le_of_ble_eq_true rfl) [(q, .inr (1, [.int (nI 0), .int (nI 0), .int (nI 1), .int (nI 0), .ref q1, .null, .null, .null])), (q1, .inl (G.2.1 0, 6, .inl (fun _ => 0)))] rfl ?_
  refine nk_aloadn C dX1_init_32 33 rfl rfl 0 rfl ?_
  refine nk_bipush C (nI 12) dX1_init_33 35 rfl rfl ?_
  refine nk_newa C nw_184 12 rfl (by omega) dX1_init_35 37 rfl 2 18 rfl rfl (Nat.le_of_ble_eq_true rfl) (Nat.le_of_ble_eq_true rfl) (fun q2 => ?_)
  refine nk_ws [(q, .inr (1, [.int (nI 0), .int (nI 0), .int (nI 1), .int (nI 0), .ref q1, .null, .null, .null])), (q1, .inl (G.2.1 0, 6, .inl (fun _ => 0))), (q2, .inl (G.2.1 0, 12, .inl (fun _ => 0)))] rfl ?_
  refine nk_putF C hi (.array .int) dX1_init_37 40 rfl qff_X1_28 0 rfl (fun q hq => by cases hq; rfl) rfl rfl (Nat.le_of_ble_eq_true rfl) [(q, .inr (1, [.int (nI 0), .int (nI 0), .int (nI 1), .int (nI 0), .ref q1, .ref q2, .null, .null])), (q1, .inl (G.2.1 0, 6, .inl (fun _ => 0))), (q2, .inl (G.2.1 0, 12, .inl (fun _ => 0)))] rfl ?_
  refine nk_aloadn C dX1_init_40 41 rfl rfl 0 rfl ?_
  refine nk_bipush C (nI 10) dX1_init_41 43 rfl rfl ?_
  refine nk_newa C nw_184 10 rfl (by omega) dX1_init_43 45 rfl 3 28 rfl rfl (Nat.le_of_ble_eq_true rfl) (Nat.le_of_ble_eq_true rfl) (fun q3 => ?_)
  refine nk_ws [(q, .inr (1, [.int (nI 0), .int (nI 0), .int (nI 1), .int (nI 0), .ref q1, .ref q2, .null, .null])), (q1, .inl (G.2.1 0, 6, .inl (fun _ => 0))), (q2, .inl (G.2.1 0, 12, .inl (fun _ => 0))), (q3, .inl (G.2.1 0, 10, .inl (fun _ => 0)))] rfl ?_
  refine nk_putF C hi (.array .int) dX1_init_45 48 rfl qff_X1_31 0 rfl (fun q hq => by cases hq; rfl) rfl rfl (Nat.le_of_ble_eq_true rfl) [(q, .inr (1, [.int (nI 0), .int (nI 0), .int (nI 1), .int (nI 0), .ref q1, .ref q2, .ref q3, .null])), (q1, .inl (G.2.1 0, 6, .inl (fun _ => 0))), (q2, .inl (G.2.1 0, 12, .inl (fun _ => 0))), (q3, .inl (G.2.1 0, 10, .inl (fun _ => 0)))] rfl ?_
  refine nk_aloadn C dX1_init_48 49 rfl rfl 0 rfl ?_
  refine nk_bipush C (nI 8) dX1_init_49 51 rfl rfl ?_
  refine nk_newq C 1 (by omega) rfl nw_143 (by decide) 8 rfl (by omega) dX1_init_51 54 rfl 4 36 rfl rfl (Nat.le_of_ble_eq_true rfl) (Nat.le_of_ble_eq_true rfl) (fun q4 => ?_)
  refine nk_ws [(q, .inr (1, [.int (nI 0), .int (nI 0), .int (nI 1), .int (nI 0), .ref q1, .ref q2, .ref q3, .null])), (q1, .inl (G.2.1 0, 6, .inl (fun _ => 0))), (q2, .inl (G.2.1 0, 12, .inl (fun _ => 0))), (q3, .inl (G.2.1 0, 10, .inl (fun _ => 0))), (q4, .inl (G.2.1 1, 8, .inr (.inr (.inr (.inr (fun _ => none))))))] rfl ?_
  refine nk_putF C hi (.array (.object "BustRest$Bust")) dX1_init_54 57 rfl qff_X1_36 0 rfl (fun q hq => by cases hq; rfl) rfl rfl (Nat.le_of_ble_eq_true rfl) [(q, .inr (1, [.int (nI 0), .int (nI 0), .int (nI 1), .int (nI 0), .ref q1, .ref q2, .ref q3, .ref q4])), (q1, .inl (G.2.1 0, 6, .inl (fun _ => 0))), (q2, .inl (G.2.1 0, 12, .inl (fun _ => 0))), (q3, .inl (G.2.1 0, 10, .inl (fun _ => 0))), (q4, .inl (G.2.1 1, 8, .inr (.inr (.inr (.inr (fun _ => none))))))] rfl ?_
  refine nk_iconst C (nI 0) dX1_init_57 58 rfl rfl ?_
  refine nk_istoren C dX1_init_58 59 rfl rfl (by decide) rfl ?_
  refine nk_ws [(q, .inr (1, [.int (nI 0), .int (nI 0), .int (nI 1), .int (nI 0), .ref q1, .ref q2, .ref q3, .ref q4])), (q1, .inl (G.2.1 0, 6, .inl (z1 12 0))), (q2, .inl (G.2.1 0, 12, .inl (fun _ => 0))), (q3, .inl (G.2.1 0, 10, .inl (fun _ => 0))), (q4, .inl (G.2.1 1, 8, .inr (.inr (.inr (.inr (fun _ => none))))))] (by rw [z1_0 (x := 12)]) ?_
  have lp_59 : ∀ (m i : Nat), i ≤ 6 → 6 - i < m → nx_K l G Δ [(q, .inr (1, [.int (nI 0), .int (nI 0), .int (nI 1), .int (nI 0), .ref q1, .ref q2, .ref q3, .ref q4])), (q1, .inl (G.2.1 0, 6, .inl (z1 12 i))), (q2, .inl (G.2.1 0, 12, .inl (fun _ => 0))), (q3, .inl (G.2.1 0, 10, .inl (fun _ => 0))), (q4, .inl (G.2.1 1, 8, .inr (.inr (.inr (.inr (fun _ => none))))))] 4 36 59 [(1, .int (nI i)), (0, .ref q)] [] := by
    intro m
    induction m with
    | zero => intro _ _ h9; exact absurd h9 (Nat.not_lt_zero _)
    | succ m ih =>
      intro i hi1 hm
      refine nk_iloadn C dX1_init_59 60 rfl rfl 0 rfl ?_
      refine nk_bipush C (nI 6) dX1_init_60 62 rfl rfl ?_
      refine nk_icmp_ge C dX1_init_62 79 rfl 65 rfl (fun ct => ?_) (fun cf => ?_)
      · have hi6 : i = 6 := by have := (nI_leI (a := 6) (b := i) (by omega) (by omega)).mp ct; omega
        subst hi6
        refine nk_iconst C (nI 0) dX1_init_79 80 rfl rfl ?_
        refine nk_istoren C dX1_init_80 81 rfl rfl (by decide) rfl ?_
        refine nk_ws [(q, .inr (1, [.int (nI 0), .int (nI 0), .int (nI 1), .int (nI 0), .ref q1, .ref q2, .ref q3, .ref q4])), (q1, .inl (G.2.1 0, 6, .inl (z1 12 6))), (q2, .inl (G.2.1 0, 12, .inl (fun _ => 0))), (q3, .inl (G.2.1 0, 10, .inl (z1 (-1) 0))), (q4, .inl (G.2.1 1, 8, .inr (.inr (.inr (.inr (fun _ => none))))))] (by rw [z1_0 (x := -1)]) ?_
        have lp_81 : ∀ (m i : Nat), i ≤ 10 → 10 - i < m → nx_K l G Δ [(q, .inr (1, [.int (nI 0), .int (nI 0), .int (nI 1), .int (nI 0), .ref q1, .ref q2, .ref q3, .ref q4])), (q1, .inl (G.2.1 0, 6, .inl (z1 12 6))), (q2, .inl (G.2.1 0, 12, .inl (fun _ => 0))), (q3, .inl (G.2.1 0, 10, .inl (z1 (-1) i))), (q4, .inl (G.2.1 1, 8, .inr (.inr (.inr (.inr (fun _ => none))))))] 4 36 81 [(1, .int (nI i)), (0, .ref q)] [] := by
          intro m
          induction m with
          | zero => intro _ _ h9; exact absurd h9 (Nat.not_lt_zero _)
          | succ m ih =>
            intro i hi1 hm
            refine nk_iloadn C dX1_init_81 82 rfl rfl 0 rfl ?_
            refine nk_bipush C (nI 10) dX1_init_82 84 rfl rfl ?_
            refine nk_icmp_ge C dX1_init_84 100 rfl 87 rfl (fun ct => ?_) (fun cf => ?_)
            · have hi6 : i = 10 := by have := (nI_leI (a := 10) (b := i) (by omega) (by omega)).mp ct; omega
              subst hi6
              refine nk_iconst C (nI 0) dX1_init_100 101 rfl rfl ?_
              refine nk_istoren C dX1_init_101 102 rfl rfl (by decide) rfl ?_
              refine nk_iloadn C dX1_init_102 103 rfl rfl 0 rfl ?_
              refine nk_bipush C (nI 8) dX1_init_103 105 rfl rfl ?_
              refine nk_icmp_ge C dX1_init_105 127 rfl 108 rfl (fun c => absurd c (by decide)) (fun _ => ?_)
              refine nk_aloadn C dX1_init_108 109 rfl rfl 1 rfl ?_
              refine nk_get C dX1_init_109 112 rfl qf_X1_36 0 rfl rfl ?_
              refine nk_iloadn C dX1_init_112 113 rfl rfl 0 rfl ?_
              refine nk_new C (ci := 0) tyX0 [.int 0, .int 0, .int 0, .int 0, .int 0, .int 0, .int 0] rfl uw_X0 tyX0_ok nw_143 nw_145 qw_117 nd_X0 dX1_init_113 116 rfl 5 43 rfl rfl (Nat.le_of_ble_eq_true rfl) (Nat.le_of_ble_eq_true rfl) (fun q5 => ?_)
              refine nk_dup C dX1_init_116 117 rfl rfl ?_
              refine nk_init C dX1_init_117 120 rfl (Or.inr ⟨_, qw_146⟩) qw_147 qc_X0_init rfl (n_X0_init l G q5) rfl rfl (Nat.le_of_ble_eq_true rfl) ⟨(Nat.le_of_ble_eq_true rfl), (Nat.le_of_ble_eq_true rfl)⟩ 5 43 rfl rfl (Nat.le_of_ble_eq_true rfl) (Nat.le_of_ble_eq_true rfl) (fun w6 hw6 => ?_)
              obtain rfl := hw6
              refine nk_ws [(q, .inr (1, [.int (nI 0), .int (nI 0), .int (nI 1), .int (nI 0), .ref q1, .ref q2, .ref q3, .ref q4])), (q1, .inl (G.2.1 0, 6, .inl (z1 12 6))), (q2, .inl (G.2.1 0, 12, .inl (fun _ => 0))), (q3, .inl (G.2.1 0, 10, .inl (z1 (-1) 10))), (q4, .inl (G.2.1 1, 8, .inr (.inr (.inr (.inr (fun _ => none)))))), (q5, .inr (0, [.int (nI 0), .int (nI 0), .int (nI 0), .int (nI 0), .int (nI 0), .int (nI 0), .int (nI 0)]))] rfl ?_
              refine nk_astq C dX1_init_120 121 rfl 4 1 5 0 rfl rfl rfl rfl 0 rfl (by omega) (by omega) [(q, .inr (1, [.int (nI 0), .int (nI 0), .int (nI 1), .int (nI 0), .ref q1, .ref q2, .ref q3, .ref q4])), (q1, .inl (G.2.1 0, 6, .inl (z1 12 6))), (q2, .inl (G.2.1 0, 12, .inl (fun _ => 0))), (q3, .inl (G.2.1 0, 10, .inl (z1 (-1) 10))), (q4, .inl (G.2.1 1, 8, .inr (.inr (.inr (.inr (va_up (fun _ => none) 0 (some q5))))))), (q5, .inr (0, [.int (nI 0), .int (nI 0), .int (nI 0), .int (nI 0), .int (nI 0), .int (nI 0), .int (nI 0)]))] rfl ?_
              refine nk_iinc C (nI 1) dX1_init_121 124 rfl 0 rfl rfl (by decide) rfl ?_
              refine nk_goto C dX1_init_124 102 rfl ?_
              refine nk_iloadn C dX1_init_102 103 rfl rfl 0 rfl ?_
              refine nk_bipush C (nI 8) dX1_init_103 105 rfl rfl ?_
              refine nk_icmp_ge C dX1_init_105 127 rfl 108 rfl (fun c => absurd c (by decide)) (fun _ => ?_)
              refine nk_aloadn C dX1_init_108 109 rfl rfl 1 rfl ?_
              refine nk_get C dX1_init_109 112 rfl qf_X1_36 0 rfl rfl ?_
              refine nk_iloadn C dX1_init_112 113 rfl rfl 0 rfl ?_
              refine nk_new C (ci := 0) tyX0 [.int 0, .int 0, .int 0, .int 0, .int 0, .int 0, .int 0] rfl uw_X0 tyX0_ok nw_143 nw_145 qw_117 nd_X0 dX1_init_113 116 rfl 6 50 rfl rfl (Nat.le_of_ble_eq_true rfl) (Nat.le_of_ble_eq_true rfl) (fun q7 => ?_)
              refine nk_dup C dX1_init_116 117 rfl rfl ?_
              refine nk_init C dX1_init_117 120 rfl (Or.inr ⟨_, qw_146⟩) qw_147 qc_X0_init rfl (n_X0_init l G q7) rfl rfl (Nat.le_of_ble_eq_true rfl) ⟨(Nat.le_of_ble_eq_true rfl), (Nat.le_of_ble_eq_true rfl)⟩ 6 50 rfl rfl (Nat.le_of_ble_eq_true rfl) (Nat.le_of_ble_eq_true rfl) (fun w8 hw8 => ?_)
              obtain rfl := hw8
              refine nk_ws [(q, .inr (1, [.int (nI 0), .int (nI 0), .int (nI 1), .int (nI 0), .ref q1, .ref q2, .ref q3, .ref q4])), (q1, .inl (G.2.1 0, 6, .inl (z1 12 6))), (q2, .inl (G.2.1 0, 12, .inl (fun _ => 0))), (q3, .inl (G.2.1 0, 10, .inl (z1 (-1) 10))), (q4, .inl (G.2.1 1, 8, .inr (.inr (.inr (.inr (va_up (fun _ => none) 0 (some q5))))))), (q5, .inr (0, [.int (nI 0), .int (nI 0), .int (nI 0), .int (nI 0), .int (nI 0), .int (nI 0), .int (nI 0)])), (q7, .inr (0, [.int (nI 0), .int (nI 0), .int (nI 0), .int (nI 0), .int (nI 0), .int (nI 0), .int (nI 0)]))] rfl ?_
              refine nk_astq C dX1_init_120 121 rfl 4 1 6 0 rfl rfl rfl rfl 1 rfl (by omega) (by omega) [(q, .inr (1, [.int (nI 0), .int (nI 0), .int (nI 1), .int (nI 0), .ref q1, .ref q2, .ref q3, .ref q4])), (q1, .inl (G.2.1 0, 6, .inl (z1 12 6))), (q2, .inl (G.2.1 0, 12, .inl (fun _ => 0))), (q3, .inl (G.2.1 0, 10, .inl (z1 (-1) 10))), (q4, .inl (G.2.1 1, 8, .inr (.inr (.inr (.inr (va_up (va_up (fun _ => none) 0 (some q5)) 1 (some q7))))))), (q5, .inr (0, [.int (nI 0), .int (nI 0), .int (nI 0), .int (nI 0), .int (nI 0), .int (nI 0), .int (nI 0)])), (q7, .inr (0, [.int (nI 0), .int (nI 0), .int (nI 0), .int (nI 0), .int (nI 0), .int (nI 0), .int (nI 0)]))] rfl ?_
              refine nk_iinc C (nI 2) dX1_init_121 124 rfl 0 rfl rfl (by decide) rfl ?_
              refine nk_goto C dX1_init_124 102 rfl ?_
              refine nk_iloadn C dX1_init_102 103 rfl rfl 0 rfl ?_
              refine nk_bipush C (nI 8) dX1_init_103 105 rfl rfl ?_
              refine nk_icmp_ge C dX1_init_105 127 rfl 108 rfl (fun c => absurd c (by decide)) (fun _ => ?_)
              refine nk_aloadn C dX1_init_108 109 rfl rfl 1 rfl ?_
              refine nk_get C dX1_init_109 112 rfl qf_X1_36 0 rfl rfl ?_
              refine nk_iloadn C dX1_init_112 113 rfl rfl 0 rfl ?_
              refine nk_new C (ci := 0) tyX0 [.int 0, .int 0, .int 0, .int 0, .int 0, .int 0, .int 0] rfl uw_X0 tyX0_ok nw_143 nw_145 qw_117 nd_X0 dX1_init_113 116 rfl 7 57 rfl rfl (Nat.le_of_ble_eq_true rfl) (Nat.le_of_ble_eq_true rfl) (fun q9 => ?_)
              refine nk_dup C dX1_init_116 117 rfl rfl ?_
              refine nk_init C dX1_init_117 120 rfl (Or.inr ⟨_, qw_146⟩) qw_147 qc_X0_init rfl (n_X0_init l G q9) rfl rfl (Nat.le_of_ble_eq_true rfl) ⟨(Nat.le_of_ble_eq_true rfl), (Nat.le_of_ble_eq_true rfl)⟩ 7 57 rfl rfl (Nat.le_of_ble_eq_true rfl) (Nat.le_of_ble_eq_true rfl) (fun w10 hw10 => ?_)
              obtain rfl := hw10
              refine nk_ws [(q, .inr (1, [.int (nI 0), .int (nI 0), .int (nI 1), .int (nI 0), .ref q1, .ref q2, .ref q3, .ref q4])), (q1, .inl (G.2.1 0, 6, .inl (z1 12 6))), (q2, .inl (G.2.1 0, 12, .inl (fun _ => 0))), (q3, .inl (G.2.1 0, 10, .inl (z1 (-1) 10))), (q4, .inl (G.2.1 1, 8, .inr (.inr (.inr (.inr (va_up (va_up (fun _ => none) 0 (some q5)) 1 (some q7))))))), (q5, .inr (0, [.int (nI 0), .int (nI 0), .int (nI 0), .int (nI 0), .int (nI 0), .int (nI 0), .int (nI 0)])), (q7, .inr (0, [.int (nI 0), .int (nI 0), .int (nI 0), .int (nI 0), .int (nI 0), .int (nI 0), .int (nI 0)])), (q9, .inr (0, [.int (nI 0), .int (nI 0), .int (nI 0), .int (nI 0), .int (nI 0), .int (nI 0), .int (nI 0)]))] rfl ?_
              refine nk_astq C dX1_init_120 121 rfl 4 1 7 0 rfl rfl rfl rfl 2 rfl (by omega) (by omega) [(q, .inr (1, [.int (nI 0), .int (nI 0), .int (nI 1), .int (nI 0), .ref q1, .ref q2, .ref q3, .ref q4])), (q1, .inl (G.2.1 0, 6, .inl (z1 12 6))), (q2, .inl (G.2.1 0, 12, .inl (fun _ => 0))), (q3, .inl (G.2.1 0, 10, .inl (z1 (-1) 10))), (q4, .inl (G.2.1 1, 8, .inr (.inr (.inr (.inr (va_up (va_up (va_up (fun _ => none) 0 (some q5)) 1 (some q7)) 2 (some q9))))))), (q5, .inr (0, [.int (nI 0), .int (nI 0), .int (nI 0), .int (nI 0), .int (nI 0), .int (nI 0), .int (nI 0)])), (q7, .inr (0, [.int (nI 0), .int (nI 0), .int (nI 0), .int (nI 0), .int (nI 0), .int (nI 0), .int (nI 0)])), (q9, .inr (0, [.int (nI 0), .int (nI 0), .int (nI 0), .int (nI 0), .int (nI 0), .int (nI 0), .int (nI 0)]))] rfl ?_
              refine nk_iinc C (nI 3) dX1_init_121 124 rfl 0 rfl rfl (by decide) rfl ?_
              refine nk_goto C dX1_init_124 102 rfl ?_
              refine nk_iloadn C dX1_init_102 103 rfl rfl 0 rfl ?_
              refine nk_bipush C (nI 8) dX1_init_103 105 rfl rfl ?_
              refine nk_icmp_ge C dX1_init_105 127 rfl 108 rfl (fun c => absurd c (by decide)) (fun _ => ?_)
              refine nk_aloadn C dX1_init_108 109 rfl rfl 1 rfl ?_
              refine nk_get C dX1_init_109 112 rfl qf_X1_36 0 rfl rfl ?_
              refine nk_iloadn C dX1_init_112 113 rfl rfl 0 rfl ?_
              refine nk_new C (ci := 0) tyX0 [.int 0, .int 0, .int 0, .int 0, .int 0, .int 0, .int 0] rfl uw_X0 tyX0_ok nw_143 nw_145 qw_117 nd_X0 dX1_init_113 116 rfl 8 64 rfl rfl (Nat.le_of_ble_eq_true rfl) (Nat.le_of_ble_eq_true rfl) (fun q11 => ?_)
              refine nk_dup C dX1_init_116 117 rfl rfl ?_
              refine nk_init C dX1_init_117 120 rfl (Or.inr ⟨_, qw_146⟩) qw_147 qc_X0_init rfl (n_X0_init l G q11) rfl rfl (Nat.le_of_ble_eq_true rfl) ⟨(Nat.le_of_ble_eq_true rfl), (Nat.le_of_ble_eq_true rfl)⟩ 8 64 rfl rfl (Nat.le_of_ble_eq_true rfl) (Nat.le_of_ble_eq_true rfl) (fun w12 hw12 => ?_)
              obtain rfl := hw12
              refine nk_ws [(q, .inr (1, [.int (nI 0), .int (nI 0), .int (nI 1), .int (nI 0), .ref q1, .ref q2, .ref q3, .ref q4])), (q1, .inl (G.2.1 0, 6, .inl (z1 12 6))), (q2, .inl (G.2.1 0, 12, .inl (fun _ => 0))), (q3, .inl (G.2.1 0, 10, .inl (z1 (-1) 10))), (q4, .inl (G.2.1 1, 8, .inr (.inr (.inr (.inr (va_up (va_up (va_up (fun _ => none) 0 (some q5)) 1 (some q7)) 2 (some q9))))))), (q5, .inr (0, [.int (nI 0), .int (nI 0), .int (nI 0), .int (nI 0), .int (nI 0), .int (nI 0), .int (nI 0)])), (q7, .inr (0, [.int (nI 0), .int (nI 0), .int (nI 0), .int (nI 0), .int (nI 0), .int (nI 0), .int (nI 0)])), (q9, .inr (0, [.int (nI 0), .int (nI 0), .int (nI 0), .int (nI 0), .int (nI 0), .int (nI 0), .int (nI 0)])), (q11, .inr (0, [.int (nI 0), .int (nI 0), .int (nI 0), .int (nI 0), .int (nI 0), .int (nI 0), .int (nI 0)]))] rfl ?_
              refine nk_astq C dX1_init_120 121 rfl 4 1 8 0 rfl rfl rfl rfl 3 rfl (by omega) (by omega) [(q, .inr (1, [.int (nI 0), .int (nI 0), .int (nI 1), .int (nI 0), .ref q1, .ref q2, .ref q3, .ref q4])), (q1, .inl (G.2.1 0, 6, .inl (z1 12 6))), (q2, .inl (G.2.1 0, 12, .inl (fun _ => 0))), (q3, .inl (G.2.1 0, 10, .inl (z1 (-1) 10))), (q4, .inl (G.2.1 1, 8, .inr (.inr (.inr (.inr (va_up (va_up (va_up (va_up (fun _ => none) 0 (some q5)) 1 (some q7)) 2 (some q9)) 3 (some q11))))))), (q5, .inr (0, [.int (nI 0), .int (nI 0), .int (nI 0), .int (nI 0), .int (nI 0), .int (nI 0), .int (nI 0)])), (q7, .inr (0, [.int (nI 0), .int (nI 0), .int (nI 0), .int (nI 0), .int (nI 0), .int (nI 0), .int (nI 0)])), (q9, .inr (0, [.int (nI 0), .int (nI 0), .int (nI 0), .int (nI 0), .int (nI 0), .int (nI 0), .int (nI 0)])), (q11, .inr (0, [.int (nI 0), .int (nI 0), .int (nI 0), .int (nI 0), .int (nI 0), .int (nI 0), .int (nI 0)]))] rfl ?_
              refine nk_iinc C (nI 4) dX1_init_121 124 rfl 0 rfl rfl (by decide) rfl ?_
              refine nk_goto C dX1_init_124 102 rfl ?_
              refine nk_iloadn C dX1_init_102 103 rfl rfl 0 rfl ?_
              refine nk_bipush C (nI 8) dX1_init_103 105 rfl rfl ?_
              refine nk_icmp_ge C dX1_init_105 127 rfl 108 rfl (fun c => absurd c (by decide)) (fun _ => ?_)
              refine nk_aloadn C dX1_init_108 109 rfl rfl 1 rfl ?_
              refine nk_get C dX1_init_109 112 rfl qf_X1_36 0 rfl rfl ?_
              refine nk_iloadn C dX1_init_112 113 rfl rfl 0 rfl ?_
              refine nk_new C (ci := 0) tyX0 [.int 0, .int 0, .int 0, .int 0, .int 0, .int 0, .int 0] rfl uw_X0 tyX0_ok nw_143 nw_145 qw_117 nd_X0 dX1_init_113 116 rfl 9 71 rfl rfl (Nat.le_of_ble_eq_true rfl) (Nat.le_of_ble_eq_true rfl) (fun q13 => ?_)
              refine nk_dup C dX1_init_116 117 rfl rfl ?_
              refine nk_init C dX1_init_117 120 rfl (Or.inr ⟨_, qw_146⟩) qw_147 qc_X0_init rfl (n_X0_init l G q13) rfl rfl (Nat.le_of_ble_eq_true rfl) ⟨(Nat.le_of_ble_eq_true rfl), (Nat.le_of_ble_eq_true rfl)⟩ 9 71 rfl rfl (Nat.le_of_ble_eq_true rfl) (Nat.le_of_ble_eq_true rfl) (fun w14 hw14 => ?_)
              obtain rfl := hw14
              refine nk_ws [(q, .inr (1, [.int (nI 0), .int (nI 0), .int (nI 1), .int (nI 0), .ref q1, .ref q2, .ref q3, .ref q4])), (q1, .inl (G.2.1 0, 6, .inl (z1 12 6))), (q2, .inl (G.2.1 0, 12, .inl (fun _ => 0))), (q3, .inl (G.2.1 0, 10, .inl (z1 (-1) 10))), (q4, .inl (G.2.1 1, 8, .inr (.inr (.inr (.inr (va_up (va_up (va_up (va_up (fun _ => none) 0 (some q5)) 1 (some q7)) 2 (some q9)) 3 (some q11))))))), (q5, .inr (0, [.int (nI 0), .int (nI 0), .int (nI 0), .int (nI 0), .int (nI 0), .int (nI 0), .int (nI 0)])), (q7, .inr (0, [.int (nI 0), .int (nI 0), .int (nI 0), .int (nI 0), .int (nI 0), .int (nI 0), .int (nI 0)])), (q9, .inr (0, [.int (nI 0), .int (nI 0), .int (nI 0), .int (nI 0), .int (nI 0), .int (nI 0), .int (nI 0)])), (q11, .inr (0, [.int (nI 0), .int (nI 0), .int (nI 0), .int (nI 0), .int (nI 0), .int (nI 0), .int (nI 0)])), (q13, .inr (0, [.int (nI 0), .int (nI 0), .int (nI 0), .int (nI 0), .int (nI 0), .int (nI 0), .int (nI 0)]))] rfl ?_
              refine nk_astq C dX1_init_120 121 rfl 4 1 9 0 rfl rfl rfl rfl 4 rfl (by omega) (by omega) [(q, .inr (1, [.int (nI 0), .int (nI 0), .int (nI 1), .int (nI 0), .ref q1, .ref q2, .ref q3, .ref q4])), (q1, .inl (G.2.1 0, 6, .inl (z1 12 6))), (q2, .inl (G.2.1 0, 12, .inl (fun _ => 0))), (q3, .inl (G.2.1 0, 10, .inl (z1 (-1) 10))), (q4, .inl (G.2.1 1, 8, .inr (.inr (.inr (.inr (va_up (va_up (va_up (va_up (va_up (fun _ => none) 0 (some q5)) 1 (some q7)) 2 (some q9)) 3 (some q11)) 4 (some q13))))))), (q5, .inr (0, [.int (nI 0), .int (nI 0), .int (nI 0), .int (nI 0), .int (nI 0), .int (nI 0), .int (nI 0)])), (q7, .inr (0, [.int (nI 0), .int (nI 0), .int (nI 0), .int (nI 0), .int (nI 0), .int (nI 0), .int (nI 0)])), (q9, .inr (0, [.int (nI 0), .int (nI 0), .int (nI 0), .int (nI 0), .int (nI 0), .int (nI 0), .int (nI 0)])), (q11, .inr (0, [.int (nI 0), .int (nI 0), .int (nI 0), .int (nI 0), .int (nI 0), .int (nI 0), .int (nI 0)])), (q13, .inr (0, [.int (nI 0), .int (nI 0), .int (nI 0), .int (nI 0), .int (nI 0), .int (nI 0), .int (nI 0)]))] rfl ?_
              refine nk_iinc C (nI 5) dX1_init_121 124 rfl 0 rfl rfl (by decide) rfl ?_
              refine nk_goto C dX1_init_124 102 rfl ?_
              refine nk_iloadn C dX1_init_102 103 rfl rfl 0 rfl ?_
              refine nk_bipush C (nI 8) dX1_init_103 105 rfl rfl ?_
              refine nk_icmp_ge C dX1_init_105 127 rfl 108 rfl (fun c => absurd c (by decide)) (fun _ => ?_)
              refine nk_aloadn C dX1_init_108 109 rfl rfl 1 rfl ?_
              refine nk_get C dX1_init_109 112 rfl qf_X1_36 0 rfl rfl ?_
              refine nk_iloadn C dX1_init_112 113 rfl rfl 0 rfl ?_
              refine nk_new C (ci := 0) tyX0 [.int 0, .int 0, .int 0, .int 0, .int 0, .int 0, .int 0] rfl uw_X0 tyX0_ok nw_143 nw_145 qw_117 nd_X0 dX1_init_113 116 rfl 10 78 rfl rfl (Nat.le_of_ble_eq_true rfl) (Nat.le_of_ble_eq_true rfl) (fun q15 => ?_)
              refine nk_dup C dX1_init_116 117 rfl rfl ?_
              refine nk_init C dX1_init_117 120 rfl (Or.inr ⟨_, qw_146⟩) qw_147 qc_X0_init rfl (n_X0_init l G q15) rfl rfl (Nat.le_of_ble_eq_true rfl) ⟨(Nat.le_of_ble_eq_true rfl), (Nat.le_of_ble_eq_true rfl)⟩ 10 78 rfl rfl (Nat.le_of_ble_eq_true rfl) (Nat.le_of_ble_eq_true rfl) (fun w16 hw16 => ?_)
              obtain rfl := hw16
              refine nk_ws [(q, .inr (1, [.int (nI 0), .int (nI 0), .int (nI 1), .int (nI 0), .ref q1, .ref q2, .ref q3, .ref q4])), (q1, .inl (G.2.1 0, 6, .inl (z1 12 6))), (q2, .inl (G.2.1 0, 12, .inl (fun _ => 0))), (q3, .inl (G.2.1 0, 10, .inl (z1 (-1) 10))), (q4, .inl (G.2.1 1, 8, .inr (.inr (.inr (.inr (va_up (va_up (va_up (va_up (va_up (fun _ => none) 0 (some q5)) 1 (some q7)) 2 (some q9)) 3 (some q11)) 4 (some q13))))))), (q5, .inr (0, [.int (nI 0), .int (nI 0), .int (nI 0), .int (nI 0), .int (nI 0), .int (nI 0), .int (nI 0)])), (q7, .inr (0, [.int (nI 0), .int (nI 0), .int (nI 0), .int (nI 0), .int (nI 0), .int (nI 0), .int (nI 0)])), (q9, .inr (0, [.int (nI 0), .int (nI 0), .int (nI 0), .int (nI 0), .int (nI 0), .int (nI 0), .int (nI 0)])), (q11, .inr (0, [.int (nI 0), .int (nI 0), .int (nI 0), .int (nI 0), .int (nI 0), .int (nI 0), .int (nI 0)])), (q13, .inr (0, [.int (nI 0), .int (nI 0), .int (nI 0), .int (nI 0), .int (nI 0), .int (nI 0), .int (nI 0)])), (q15, .inr (0, [.int (nI 0), .int (nI 0), .int (nI 0), .int (nI 0), .int (nI 0), .int (nI 0), .int (nI 0)]))] rfl ?_
              refine nk_astq C dX1_init_120 121 rfl 4 1 10 0 rfl rfl rfl rfl 5 rfl (by omega) (by omega) [(q, .inr (1, [.int (nI 0), .int (nI 0), .int (nI 1), .int (nI 0), .ref q1, .ref q2, .ref q3, .ref q4])), (q1, .inl (G.2.1 0, 6, .inl (z1 12 6))), (q2, .inl (G.2.1 0, 12, .inl (fun _ => 0))), (q3, .inl (G.2.1 0, 10, .inl (z1 (-1) 10))), (q4, .inl (G.2.1 1, 8, .inr (.inr (.inr (.inr (va_up (va_up (va_up (va_up (va_up (va_up (fun _ => none) 0 (some q5)) 1 (some q7)) 2 (some q9)) 3 (some q11)) 4 (some q13)) 5 (some q15))))))), (q5, .inr (0, [.int (nI 0), .int (nI 0), .int (nI 0), .int (nI 0), .int (nI 0), .int (nI 0), .int (nI 0)])), (q7, .inr (0, [.int (nI 0), .int (nI 0), .int (nI 0), .int (nI 0), .int (nI 0), .int (nI 0), .int (nI 0)])), (q9, .inr (0, [.int (nI 0), .int (nI 0), .int (nI 0), .int (nI 0), .int (nI 0), .int (nI 0), .int (nI 0)])), (q11, .inr (0, [.int (nI 0), .int (nI 0), .int (nI 0), .int (nI 0), .int (nI 0), .int (nI 0), .int (nI 0)])), (q13, .inr (0, [.int (nI 0), .int (nI 0), .int (nI 0), .int (nI 0), .int (nI 0), .int (nI 0), .int (nI 0)])), (q15, .inr (0, [.int (nI 0), .int (nI 0), .int (nI 0), .int (nI 0), .int (nI 0), .int (nI 0), .int (nI 0)]))] rfl ?_
              refine nk_iinc C (nI 6) dX1_init_121 124 rfl 0 rfl rfl (by decide) rfl ?_
              refine nk_goto C dX1_init_124 102 rfl ?_
              refine nk_iloadn C dX1_init_102 103 rfl rfl 0 rfl ?_
              refine nk_bipush C (nI 8) dX1_init_103 105 rfl rfl ?_
              refine nk_icmp_ge C dX1_init_105 127 rfl 108 rfl (fun c => absurd c (by decide)) (fun _ => ?_)
              refine nk_aloadn C dX1_init_108 109 rfl rfl 1 rfl ?_
              refine nk_get C dX1_init_109 112 rfl qf_X1_36 0 rfl rfl ?_
              refine nk_iloadn C dX1_init_112 113 rfl rfl 0 rfl ?_
              refine nk_new C (ci := 0) tyX0 [.int 0, .int 0, .int 0, .int 0, .int 0, .int 0, .int 0] rfl uw_X0 tyX0_ok nw_143 nw_145 qw_117 nd_X0 dX1_init_113 116 rfl 11 85 rfl rfl (Nat.le_of_ble_eq_true rfl) (Nat.le_of_ble_eq_true rfl) (fun q17 => ?_)
              refine nk_dup C dX1_init_116 117 rfl rfl ?_
              refine nk_init C dX1_init_117 120 rfl (Or.inr ⟨_, qw_146⟩) qw_147 qc_X0_init rfl (n_X0_init l G q17) rfl rfl (Nat.le_of_ble_eq_true rfl) ⟨(Nat.le_of_ble_eq_true rfl), (Nat.le_of_ble_eq_true rfl)⟩ 11 85 rfl rfl (Nat.le_of_ble_eq_true rfl) (Nat.le_of_ble_eq_true rfl) (fun w18 hw18 => ?_)
              obtain rfl := hw18
              refine nk_ws [(q, .inr (1, [.int (nI 0), .int (nI 0), .int (nI 1), .int (nI 0), .ref q1, .ref q2, .ref q3, .ref q4])), (q1, .inl (G.2.1 0, 6, .inl (z1 12 6))), (q2, .inl (G.2.1 0, 12, .inl (fun _ => 0))), (q3, .inl (G.2.1 0, 10, .inl (z1 (-1) 10))), (q4, .inl (G.2.1 1, 8, .inr (.inr (.inr (.inr (va_up (va_up (va_up (va_up (va_up (va_up (fun _ => none) 0 (some q5)) 1 (some q7)) 2 (some q9)) 3 (some q11)) 4 (some q13)) 5 (some q15))))))), (q5, .inr (0, [.int (nI 0), .int (nI 0), .int (nI 0), .int (nI 0), .int (nI 0), .int (nI 0), .int (nI 0)])), (q7, .inr (0, [.int (nI 0), .int (nI 0), .int (nI 0), .int (nI 0), .int (nI 0), .int (nI 0), .int (nI 0)])), (q9, .inr (0, [.int (nI 0), .int (nI 0), .int (nI 0), .int (nI 0), .int (nI 0), .int (nI 0), .int (nI 0)])), (q11, .inr (0, [.int (nI 0), .int (nI 0), .int (nI 0), .int (nI 0), .int (nI 0), .int (nI 0), .int (nI 0)])), (q13, .inr (0, [.int (nI 0), .int (nI 0), .int (nI 0), .int (nI 0), .int (nI 0), .int (nI 0), .int (nI 0)])), (q15, .inr (0, [.int (nI 0), .int (nI 0), .int (nI 0), .int (nI 0), .int (nI 0), .int (nI 0), .int (nI 0)])), (q17, .inr (0, [.int (nI 0), .int (nI 0), .int (nI 0), .int (nI 0), .int (nI 0), .int (nI 0), .int (nI 0)]))] rfl ?_
              refine nk_astq C dX1_init_120 121 rfl 4 1 11 0 rfl rfl rfl rfl 6 rfl (by omega) (by omega) [(q, .inr (1, [.int (nI 0), .int (nI 0), .int (nI 1), .int (nI 0), .ref q1, .ref q2, .ref q3, .ref q4])), (q1, .inl (G.2.1 0, 6, .inl (z1 12 6))), (q2, .inl (G.2.1 0, 12, .inl (fun _ => 0))), (q3, .inl (G.2.1 0, 10, .inl (z1 (-1) 10))), (q4, .inl (G.2.1 1, 8, .inr (.inr (.inr (.inr (va_up (va_up (va_up (va_up (va_up (va_up (va_up (fun _ => none) 0 (some q5)) 1 (some q7)) 2 (some q9)) 3 (some q11)) 4 (some q13)) 5 (some q15)) 6 (some q17))))))), (q5, .inr (0, [.int (nI 0), .int (nI 0), .int (nI 0), .int (nI 0), .int (nI 0), .int (nI 0), .int (nI 0)])), (q7, .inr (0, [.int (nI 0), .int (nI 0), .int (nI 0), .int (nI 0), .int (nI 0), .int (nI 0), .int (nI 0)])), (q9, .inr (0, [.int (nI 0), .int (nI 0), .int (nI 0), .int (nI 0), .int (nI 0), .int (nI 0), .int (nI 0)])), (q11, .inr (0, [.int (nI 0), .int (nI 0), .int (nI 0), .int (nI 0), .int (nI 0), .int (nI 0), .int (nI 0)])), (q13, .inr (0, [.int (nI 0), .int (nI 0), .int (nI 0), .int (nI 0), .int (nI 0), .int (nI 0), .int (nI 0)])), (q15, .inr (0, [.int (nI 0), .int (nI 0), .int (nI 0), .int (nI 0), .int (nI 0), .int (nI 0), .int (nI 0)])), (q17, .inr (0, [.int (nI 0), .int (nI 0), .int (nI 0), .int (nI 0), .int (nI 0), .int (nI 0), .int (nI 0)]))] rfl ?_
              refine nk_iinc C (nI 7) dX1_init_121 124 rfl 0 rfl rfl (by decide) rfl ?_
              refine nk_goto C dX1_init_124 102 rfl ?_
              refine nk_iloadn C dX1_init_102 103 rfl rfl 0 rfl ?_
              refine nk_bipush C (nI 8) dX1_init_103 105 rfl rfl ?_
              refine nk_icmp_ge C dX1_init_105 127 rfl 108 rfl (fun c => absurd c (by decide)) (fun _ => ?_)
              refine nk_aloadn C dX1_init_108 109 rfl rfl 1 rfl ?_
              refine nk_get C dX1_init_109 112 rfl qf_X1_36 0 rfl rfl ?_
              refine nk_iloadn C dX1_init_112 113 rfl rfl 0 rfl ?_
              refine nk_new C (ci := 0) tyX0 [.int 0, .int 0, .int 0, .int 0, .int 0, .int 0, .int 0] rfl uw_X0 tyX0_ok nw_143 nw_145 qw_117 nd_X0 dX1_init_113 116 rfl 12 92 rfl rfl (Nat.le_of_ble_eq_true rfl) (Nat.le_of_ble_eq_true rfl) (fun q19 => ?_)
              refine nk_dup C dX1_init_116 117 rfl rfl ?_
              refine nk_init C dX1_init_117 120 rfl (Or.inr ⟨_, qw_146⟩) qw_147 qc_X0_init rfl (n_X0_init l G q19) rfl rfl (Nat.le_of_ble_eq_true rfl) ⟨(Nat.le_of_ble_eq_true rfl), (Nat.le_of_ble_eq_true rfl)⟩ 12 92 rfl rfl (Nat.le_of_ble_eq_true rfl) (Nat.le_of_ble_eq_true rfl) (fun w20 hw20 => ?_)
              obtain rfl := hw20
              refine nk_ws [(q, .inr (1, [.int (nI 0), .int (nI 0), .int (nI 1), .int (nI 0), .ref q1, .ref q2, .ref q3, .ref q4])), (q1, .inl (G.2.1 0, 6, .inl (z1 12 6))), (q2, .inl (G.2.1 0, 12, .inl (fun _ => 0))), (q3, .inl (G.2.1 0, 10, .inl (z1 (-1) 10))), (q4, .inl (G.2.1 1, 8, .inr (.inr (.inr (.inr (va_up (va_up (va_up (va_up (va_up (va_up (va_up (fun _ => none) 0 (some q5)) 1 (some q7)) 2 (some q9)) 3 (some q11)) 4 (some q13)) 5 (some q15)) 6 (some q17))))))), (q5, .inr (0, [.int (nI 0), .int (nI 0), .int (nI 0), .int (nI 0), .int (nI 0), .int (nI 0), .int (nI 0)])), (q7, .inr (0, [.int (nI 0), .int (nI 0), .int (nI 0), .int (nI 0), .int (nI 0), .int (nI 0), .int (nI 0)])), (q9, .inr (0, [.int (nI 0), .int (nI 0), .int (nI 0), .int (nI 0), .int (nI 0), .int (nI 0), .int (nI 0)])), (q11, .inr (0, [.int (nI 0), .int (nI 0), .int (nI 0), .int (nI 0), .int (nI 0), .int (nI 0), .int (nI 0)])), (q13, .inr (0, [.int (nI 0), .int (nI 0), .int (nI 0), .int (nI 0), .int (nI 0), .int (nI 0), .int (nI 0)])), (q15, .inr (0, [.int (nI 0), .int (nI 0), .int (nI 0), .int (nI 0), .int (nI 0), .int (nI 0), .int (nI 0)])), (q17, .inr (0, [.int (nI 0), .int (nI 0), .int (nI 0), .int (nI 0), .int (nI 0), .int (nI 0), .int (nI 0)])), (q19, .inr (0, [.int (nI 0), .int (nI 0), .int (nI 0), .int (nI 0), .int (nI 0), .int (nI 0), .int (nI 0)]))] rfl ?_
              refine nk_astq C dX1_init_120 121 rfl 4 1 12 0 rfl rfl rfl rfl 7 rfl (by omega) (by omega) [(q, .inr (1, [.int (nI 0), .int (nI 0), .int (nI 1), .int (nI 0), .ref q1, .ref q2, .ref q3, .ref q4])), (q1, .inl (G.2.1 0, 6, .inl (z1 12 6))), (q2, .inl (G.2.1 0, 12, .inl (fun _ => 0))), (q3, .inl (G.2.1 0, 10, .inl (z1 (-1) 10))), (q4, .inl (G.2.1 1, 8, .inr (.inr (.inr (.inr (va_up (va_up (va_up (va_up (va_up (va_up (va_up (va_up (fun _ => none) 0 (some q5)) 1 (some q7)) 2 (some q9)) 3 (some q11)) 4 (some q13)) 5 (some q15)) 6 (some q17)) 7 (some q19))))))), (q5, .inr (0, [.int (nI 0), .int (nI 0), .int (nI 0), .int (nI 0), .int (nI 0), .int (nI 0), .int (nI 0)])), (q7, .inr (0, [.int (nI 0), .int (nI 0), .int (nI 0), .int (nI 0), .int (nI 0), .int (nI 0), .int (nI 0)])), (q9, .inr (0, [.int (nI 0), .int (nI 0), .int (nI 0), .int (nI 0), .int (nI 0), .int (nI 0), .int (nI 0)])), (q11, .inr (0, [.int (nI 0), .int (nI 0), .int (nI 0), .int (nI 0), .int (nI 0), .int (nI 0), .int (nI 0)])), (q13, .inr (0, [.int (nI 0), .int (nI 0), .int (nI 0), .int (nI 0), .int (nI 0), .int (nI 0), .int (nI 0)])), (q15, .inr (0, [.int (nI 0), .int (nI 0), .int (nI 0), .int (nI 0), .int (nI 0), .int (nI 0), .int (nI 0)])), (q17, .inr (0, [.int (nI 0), .int (nI 0), .int (nI 0), .int (nI 0), .int (nI 0), .int (nI 0), .int (nI 0)])), (q19, .inr (0, [.int (nI 0), .int (nI 0), .int (nI 0), .int (nI 0), .int (nI 0), .int (nI 0), .int (nI 0)]))] rfl ?_
              refine nk_iinc C (nI 8) dX1_init_121 124 rfl 0 rfl rfl (by decide) rfl ?_
              refine nk_goto C dX1_init_124 102 rfl ?_
              refine nk_iloadn C dX1_init_102 103 rfl rfl 0 rfl ?_
              refine nk_bipush C (nI 8) dX1_init_103 105 rfl rfl ?_
              refine nk_icmp_ge C dX1_init_105 127 rfl 108 rfl (fun _ => ?_) (fun c => absurd (by decide) c)
              exact hret _ _ _ dX1_init_127 (⟨fun i => [q, q1, q2, q3, q4, q5, q7, q9, q11, q13, q15, q17, q19].getD i 0, _, n_8 rfl rfl rfl rfl rfl rfl rfl rfl, rfl⟩)
            · have hi6 : i < 10 := Nat.not_le.mp (fun q => cf (nI_le q (by omega)))
              refine nk_aloadn C dX1_init_87 88 rfl rfl 1 rfl ?_
              refine nk_get C dX1_init_88 91 rfl qf_X1_31 0 rfl rfl ?_
              refine nk_iloadn C dX1_init_91 92 rfl rfl 0 rfl ?_
              refine nk_iconst C (-1) dX1_init_92 93 rfl rfl ?_
              refine nk_iast C dX1_init_93 94 rfl 3 rfl (i) rfl (by omega) (by omega) [(q, .inr (1, [.int (nI 0), .int (nI 0), .int (nI 1), .int (nI 0), .ref q1, .ref q2, .ref q3, .ref q4])), (q1, .inl (G.2.1 0, 6, .inl (z1 12 6))), (q2, .inl (G.2.1 0, 12, .inl (fun _ => 0))), (q3, .inl (G.2.1 0, 10, .inl (upd (z1 (-1) i) (i) (-1)))), (q4, .inl (G.2.1 1, 8, .inr (.inr (.inr (.inr (fun _ => none))))))] rfl ?_
              refine nk_ws [(q, .inr (1, [.int (nI 0), .int (nI 0), .int (nI 1), .int (nI 0), .ref q1, .ref q2, .ref q3, .ref q4])), (q1, .inl (G.2.1 0, 6, .inl (z1 12 6))), (q2, .inl (G.2.1 0, 12, .inl (fun _ => 0))), (q3, .inl (G.2.1 0, 10, .inl (z1 (-1) (i + 1)))), (q4, .inl (G.2.1 1, 8, .inr (.inr (.inr (.inr (fun _ => none))))))] (by rw [show upd (z1 (-1) i) (i) (-1) = z1 (-1) (i + 1) from z1_s]) ?_
              refine nk_iinc C (nI (i + 1)) dX1_init_94 97 rfl 0 rfl (nI_1 i) (by decide) rfl ?_
              refine nk_goto C dX1_init_97 81 rfl ?_
              exact ih (i + 1) (by omega) (by omega)
        exact lp_81 _ 0 (Nat.zero_le _) (Nat.lt_succ_self _)
      · have hi6 : i < 6 := Nat.not_le.mp (fun q => cf (nI_le q (by omega)))
        refine nk_aloadn C dX1_init_65 66 rfl rfl 1 rfl ?_
        refine nk_get C dX1_init_66 69 rfl qf_X1_24 0 rfl rfl ?_
        refine nk_iloadn C dX1_init_69 70 rfl rfl 0 rfl ?_
        refine nk_bipush C (nI 12) dX1_init_70 72 rfl rfl ?_
        refine nk_iast C dX1_init_72 73 rfl 1 rfl (i) rfl (by omega) (by omega) [(q, .inr (1, [.int (nI 0), .int (nI 0), .int (nI 1), .int (nI 0), .ref q1, .ref q2, .ref q3, .ref q4])), (q1, .inl (G.2.1 0, 6, .inl (upd (z1 12 i) (i) (nI 12)))), (q2, .inl (G.2.1 0, 12, .inl (fun _ => 0))), (q3, .inl (G.2.1 0, 10, .inl (fun _ => 0))), (q4, .inl (G.2.1 1, 8, .inr (.inr (.inr (.inr (fun _ => none))))))] rfl ?_
        refine nk_ws [(q, .inr (1, [.int (nI 0), .int (nI 0), .int (nI 1), .int (nI 0), .ref q1, .ref q2, .ref q3, .ref q4])), (q1, .inl (G.2.1 0, 6, .inl (z1 12 (i + 1)))), (q2, .inl (G.2.1 0, 12, .inl (fun _ => 0))), (q3, .inl (G.2.1 0, 10, .inl (fun _ => 0))), (q4, .inl (G.2.1 1, 8, .inr (.inr (.inr (.inr (fun _ => none))))))] (by rw [show upd (z1 12 i) (i) (nI 12) = z1 12 (i + 1) from z1_s]) ?_
        refine nk_iinc C (nI (i + 1)) dX1_init_73 76 rfl 0 rfl (nI_1 i) (by decide) rfl ?_
        refine nk_goto C dX1_init_76 59 rfl ?_
        exact ih (i + 1) (by omega) (by omega)
  exact lp_59 _ 0 (Nat.zero_le _) (Nat.lt_succ_self _)
set_option maxHeartbeats 8000000 in
theorem n_X2_init (l : Launch) (G : qx_G) (q : Nat) : nx_Ct l G yX2_init cX2_init 1 1 12 1 40 [.ref q] [(q, .inr (2, [.int 0, .int 0, .null]))] (fun w => ∃ a, w = [(q, .inr (2, [.int (nI 0), .int (nI 0), .ref a])), (a, .inl (G.2.1 0, 40, .inl (fun _ => 0)))]) := by
  refine nx_of (lo := [(0, .ref q)]) (by decide +kernel) rfl (Nat.le_of_ble_eq_true rfl) rfl (fun Δ (C : nx_C G Δ cX2_init RX2 1 1 12 1 40) hi hret => ?_)
  refine nk_aloadn C dX2_init_0 1 rfl rfl 0 rfl ?_
  refine nk_oinit C qw_275 qw_135 nw_136 dX2_init_1 4 rfl ⟨(Nat.le_of_ble_eq_true rfl), (Nat.le_of_ble_eq_true rfl)⟩ ?_
  refine nk_aloadn C dX2_init_4 5 rfl rfl 0 rfl ?_
  refine nk_iconst C (nI 0) dX2_init_5 6 rfl rfl ?_
  refine nk_put C .int dX2_init_6 9 rfl qf_X2_9 0 rfl (fun q hq => by cases hq; rfl) rfl rfl (Nat.le_of_ble_eq_true rfl) [(q, .inr (2, [.int (nI 0), .int 0, .null]))] rfl ?_
  refine nk_aloadn C dX2_init_9 10 rfl rfl 0 rfl ?_
  refine nk_iconst C (nI 0) dX2_init_10 11 rfl rfl ?_
  refine nk_put C .int dX2_init_11 14 rfl qf_X2_15 0 rfl (fun q hq => by cases hq; rfl) rfl rfl (Nat.le_of_ble_eq_true rfl) [(q, .inr (2, [.int (nI 0), .int (nI 0), .null]))] rfl ?_
  refine nk_aloadn C dX2_init_14 15 rfl rfl 0 rfl ?_
  refine nk_bipush C (nI 40) dX2_init_15 17 rfl rfl ?_
  refine nk_newa C nw_184 40 rfl (by omega) dX2_init_17 19 rfl 1 40 rfl rfl (Nat.le_of_ble_eq_true rfl) (Nat.le_of_ble_eq_true rfl) (fun q1 => ?_)
  refine nk_ws [(q, .inr (2, [.int (nI 0), .int (nI 0), .null])), (q1, .inl (G.2.1 0, 40, .inl (fun _ => 0)))] rfl ?_
  refine nk_putF C hi (.array .int) dX2_init_19 22 rfl qff_X2_18 0 rfl (fun q hq => by cases hq; rfl) rfl rfl (Nat.le_of_ble_eq_true rfl) [(q, .inr (2, [.int (nI 0), .int (nI 0), .ref q1])), (q1, .inl (G.2.1 0, 40, .inl (fun _ => 0)))] rfl ?_
  exact hret _ _ _ dX2_init_22 (⟨q1, rfl⟩)
set_option maxHeartbeats 8000000 in
theorem n_X3_init (l : Launch) (G : qx_G) (q : Nat) : nx_Ct l G yX3_init cX3_init 1 1 12 1 120 [.ref q] [(q, .inr (3, [.null, .int 0, .int 0, .int 0, .int 0, .int 0]))] (fun w => ∃ a, w = [(q, .inr (3, [.ref a, .int (nI 0), .int (nI 0), .int (nI 0), .int (nI 0), .int (nI 0)])), (a, .inl (G.2.1 0, 120, .inl (fun _ => 0)))]) := by
  refine nx_of (lo := [(0, .ref q)]) (by decide +kernel) rfl (Nat.le_of_ble_eq_true rfl) rfl (fun Δ (C : nx_C G Δ cX3_init RX3 1 1 12 1 120) hi hret => ?_)
  refine nk_aloadn C dX3_init_0 1 rfl rfl 0 rfl ?_
  refine nk_oinit C qw_226 qw_135 nw_136 dX3_init_1 4 rfl ⟨(Nat.le_of_ble_eq_true rfl), (Nat.le_of_ble_eq_true rfl)⟩ ?_
  refine nk_aloadn C dX3_init_4 5 rfl rfl 0 rfl ?_
  refine nk_bipush C (nI 120) dX3_init_5 7 rfl rfl ?_
  refine nk_newa C nw_184 120 rfl (by omega) dX3_init_7 9 rfl 1 120 rfl rfl (Nat.le_of_ble_eq_true rfl) (Nat.le_of_ble_eq_true rfl) (fun q1 => ?_)
  refine nk_ws [(q, .inr (3, [.null, .int 0, .int 0, .int 0, .int 0, .int 0])), (q1, .inl (G.2.1 0, 120, .inl (fun _ => 0)))] rfl ?_
  refine nk_putF C hi (.array .int) dX3_init_9 12 rfl qff_X3_9 0 rfl (fun q hq => by cases hq; rfl) rfl rfl (Nat.le_of_ble_eq_true rfl) [(q, .inr (3, [.ref q1, .int 0, .int 0, .int 0, .int 0, .int 0])), (q1, .inl (G.2.1 0, 120, .inl (fun _ => 0)))] rfl ?_
  refine nk_aloadn C dX3_init_12 13 rfl rfl 0 rfl ?_
  refine nk_iconst C (nI 0) dX3_init_13 14 rfl rfl ?_
  refine nk_put C .int dX3_init_14 17 rfl qf_X3_15 0 rfl (fun q hq => by cases hq; rfl) rfl rfl (Nat.le_of_ble_eq_true rfl) [(q, .inr (3, [.ref q1, .int (nI 0), .int 0, .int 0, .int 0, .int 0])), (q1, .inl (G.2.1 0, 120, .inl (fun _ => 0)))] rfl ?_
  refine nk_aloadn C dX3_init_17 18 rfl rfl 0 rfl ?_
  refine nk_iconst C (nI 0) dX3_init_18 19 rfl rfl ?_
  refine nk_put C .int dX3_init_19 22 rfl qf_X3_19 0 rfl (fun q hq => by cases hq; rfl) rfl rfl (Nat.le_of_ble_eq_true rfl) [(q, .inr (3, [.ref q1, .int (nI 0), .int (nI 0), .int 0, .int 0, .int 0])), (q1, .inl (G.2.1 0, 120, .inl (fun _ => 0)))] rfl ?_
  refine nk_aloadn C dX3_init_22 23 rfl rfl 0 rfl ?_
  refine nk_iconst C (nI 0) dX3_init_23 24 rfl rfl ?_
  refine nk_put C .int dX3_init_24 27 rfl qf_X3_22 0 rfl (fun q hq => by cases hq; rfl) rfl rfl (Nat.le_of_ble_eq_true rfl) [(q, .inr (3, [.ref q1, .int (nI 0), .int (nI 0), .int (nI 0), .int 0, .int 0])), (q1, .inl (G.2.1 0, 120, .inl (fun _ => 0)))] rfl ?_
  refine nk_aloadn C dX3_init_27 28 rfl rfl 0 rfl ?_
  refine nk_iconst C (nI 0) dX3_init_28 29 rfl rfl ?_
  refine nk_put C .int dX3_init_29 32 rfl qf_X3_25 0 rfl (fun q hq => by cases hq; rfl) rfl rfl (Nat.le_of_ble_eq_true rfl) [(q, .inr (3, [.ref q1, .int (nI 0), .int (nI 0), .int (nI 0), .int (nI 0), .int 0])), (q1, .inl (G.2.1 0, 120, .inl (fun _ => 0)))] rfl ?_
  refine nk_aloadn C dX3_init_32 33 rfl rfl 0 rfl ?_
  refine nk_iconst C (nI 0) dX3_init_33 34 rfl rfl ?_
  refine nk_put C .int dX3_init_34 37 rfl qf_X3_28 0 rfl (fun q hq => by cases hq; rfl) rfl rfl (Nat.le_of_ble_eq_true rfl) [(q, .inr (3, [.ref q1, .int (nI 0), .int (nI 0), .int (nI 0), .int (nI 0), .int (nI 0)])), (q1, .inl (G.2.1 0, 120, .inl (fun _ => 0)))] rfl ?_
  exact hret _ _ _ dX3_init_37 (⟨q1, rfl⟩)
set_option maxHeartbeats 8000000 in
theorem n_X4_init (l : Launch) (G : qx_G) (q : Nat) (x y : Nat) : nx_Ct l G yX4_init cX4_init 3 1 12 0 0 [.ref q, .ref x, .ref y] [(q, .inr (4, [.null, .null, .int 0, .int 0]))] (fun w => w = [(q, .inr (4, [.ref x, .ref y, .int (nI 0), .int (nI 0)]))]) := by
  refine nx_of (lo := [(0, .ref q), (1, .ref x), (2, .ref y)]) (by decide +kernel) rfl (Nat.le_of_ble_eq_true rfl) rfl (fun Δ (C : nx_C G Δ cX4_init RX4 3 1 12 0 0) hi hret => ?_)
  refine nk_aloadn C dX4_init_0 1 rfl rfl 0 rfl ?_
  refine nk_oinit C qw_255 qw_135 nw_136 dX4_init_1 4 rfl ⟨(Nat.le_of_ble_eq_true rfl), (Nat.le_of_ble_eq_true rfl)⟩ ?_
  refine nk_aloadn C dX4_init_4 5 rfl rfl 0 rfl ?_
  refine nk_iconst C (nI 0) dX4_init_5 6 rfl rfl ?_
  refine nk_put C .int dX4_init_6 9 rfl qf_X4_9 0 rfl (fun q hq => by cases hq; rfl) rfl rfl (Nat.le_of_ble_eq_true rfl) [(q, .inr (4, [.null, .null, .int (nI 0), .int 0]))] rfl ?_
  refine nk_aloadn C dX4_init_9 10 rfl rfl 0 rfl ?_
  refine nk_iconst C (nI 0) dX4_init_10 11 rfl rfl ?_
  refine nk_put C .int dX4_init_11 14 rfl qf_X4_15 0 rfl (fun q hq => by cases hq; rfl) rfl rfl (Nat.le_of_ble_eq_true rfl) [(q, .inr (4, [.null, .null, .int (nI 0), .int (nI 0)]))] rfl ?_
  refine nk_aloadn C dX4_init_14 15 rfl rfl 0 rfl ?_
  refine nk_aloadn C dX4_init_15 16 rfl rfl 1 rfl ?_
  refine nk_putF C hi (.object "BustRest$Tape") dX4_init_16 19 rfl qff_X4_18 0 rfl (fun q hq => by cases hq; rfl) rfl rfl (Nat.le_of_ble_eq_true rfl) [(q, .inr (4, [.ref x, .null, .int (nI 0), .int (nI 0)]))] rfl ?_
  refine nk_aloadn C dX4_init_19 20 rfl rfl 0 rfl ?_
  refine nk_aloadn C dX4_init_20 21 rfl rfl 2 rfl ?_
  refine nk_putF C hi (.object "BustRest$Library") dX4_init_21 24 rfl qff_X4_22 0 rfl (fun q hq => by cases hq; rfl) rfl rfl (Nat.le_of_ble_eq_true rfl) [(q, .inr (4, [.ref x, .ref y, .int (nI 0), .int (nI 0)]))] rfl ?_
  exact hret _ _ _ dX4_init_24 (rfl)
/-- the class's fifty-three cells, in the order of their making -/
def nB (G : qx_G) (q : Nat) (c a1 a2 a3 S T : Nat → Nat) (f1 f2 f3 g : Nat → Option Nat) : va_W := [(q, .inr (5, [.ref (c 0), .ref (c 1), .ref (c 2), .int (nI 0), .ref (c 3), .ref (c 5), .ref (c 6), .ref (c 7)]))] ++ nL G (c 0) a1 f1 ++ nL G (c 1) a2 f2 ++ nL G (c 2) a3 f3 ++ [(c 3, .inr (3, [.ref (c 4), .int (nI 0), .int (nI 0), .int (nI 0), .int (nI 0), .int (nI 0)])), (c 4, .inl (G.2.1 0, 120, .inl (fun _ => 0)))] ++ [(c 5, .inr (4, [.ref (c 3), .ref (c 1), .int (nI 0), .int (nI 0)]))] ++ [(c 6, .inl (G.2.1 2, 4, .inr (.inr (.inr (.inr g)))))] ++ [(c 7, .inl (G.2.1 0, 7, .inl (fun _ => 0)))] ++ [(S 0, .inr (2, [.int (nI 0), .int (nI 0), .ref (T 0)])), (T 0, .inl (G.2.1 0, 40, .inl (fun _ => 0)))] ++ [(S 1, .inr (2, [.int (nI 0), .int (nI 0), .ref (T 1)])), (T 1, .inl (G.2.1 0, 40, .inl (fun _ => 0)))] ++ [(S 2, .inr (2, [.int (nI 0), .int (nI 0), .ref (T 2)])), (T 2, .inl (G.2.1 0, 40, .inl (fun _ => 0)))] ++ [(S 3, .inr (2, [.int (nI 0), .int (nI 0), .ref (T 3)])), (T 3, .inl (G.2.1 0, 40, .inl (fun _ => 0)))]
set_option maxHeartbeats 8000000 in
theorem n_X5_init (l : Launch) (G : qx_G) (q : Nat) : nx_Ct l G yX5_init cX5_init 2 3 53 52 613 [.ref q] [(q, .inr (5, [.null, .null, .null, .int 0, .null, .null, .null, .null]))] (fun w => ∃ (c a1 a2 a3 S T : Nat → Nat) (f1 f2 f3 g : Nat → Option Nat), (∀ i, i < 8 → f1 i = some (a1 (5 + i))) ∧ (∀ i, i < 8 → f2 i = some (a2 (5 + i))) ∧ (∀ i, i < 8 → f3 i = some (a3 (5 + i))) ∧ (∀ i, i < 4 → g i = some (S i)) ∧ w = nB G q c a1 a2 a3 S T f1 f2 f3 g) := by
  refine nx_of (lo := [(0, .ref q)]) (by decide +kernel) rfl (Nat.le_of_ble_eq_true rfl) rfl (fun Δ (C : nx_C G Δ cX5_init RX5 2 3 53 52 613) hi hret => ?_)
  refine nk_aloadn C dX5_init_0 1 rfl rfl 0 rfl ?_
  refine nk_oinit C qw_134 qw_135 nw_136 dX5_init_1 4 rfl ⟨(Nat.le_of_ble_eq_true rfl), (Nat.le_of_ble_eq_true rfl)⟩ ?_
  refine nk_aloadn C dX5_init_4 5 rfl rfl 0 rfl ?_
  refine nk_new C (ci := 1) tyX1 [.int 0, .int 0, .int 0, .int 0, .null, .null, .null, .null] rfl uw_X1 tyX1_ok nw_137 nw_138 qw_116 nd_X1 dX5_init_5 8 rfl 1 8 rfl rfl (Nat.le_of_ble_eq_true rfl) (Nat.le_of_ble_eq_true rfl) (fun q1 => ?_)
  refine nk_dup C dX5_init_8 9 rfl rfl ?_
  refine nk_init C dX5_init_9 12 rfl (Or.inr ⟨_, qw_139⟩) qw_140 qc_X1_init rfl (n_X1_init l G q1) rfl rfl (Nat.le_of_ble_eq_true rfl) ⟨(Nat.le_of_ble_eq_true rfl), (Nat.le_of_ble_eq_true rfl)⟩ 13 100 rfl rfl (Nat.le_of_ble_eq_true rfl) (Nat.le_of_ble_eq_true rfl) (fun w2 hw2 => ?_)
  obtain ⟨a2, f2, hf2, rfl⟩ := hw2
  refine nk_ws ((q, .inr (5, [.null, .null, .null, .int 0, .null, .null, .null, .null])) :: nL G q1 a2 f2) rfl ?_
  refine nk_putF C hi (.object "BustRest$Library") dX5_init_12 15 rfl qff_X5_12 0 rfl (fun q hq => by cases hq; rfl) rfl rfl (Nat.le_of_ble_eq_true rfl) ((q, .inr (5, [.ref q1, .null, .null, .int 0, .null, .null, .null, .null])) :: nL G q1 a2 f2) rfl ?_
  refine nk_aloadn C dX5_init_15 16 rfl rfl 0 rfl ?_
  refine nk_new C (ci := 1) tyX1 [.int 0, .int 0, .int 0, .int 0, .null, .null, .null, .null] rfl uw_X1 tyX1_ok nw_137 nw_138 qw_116 nd_X1 dX5_init_16 19 rfl 14 108 rfl rfl (Nat.le_of_ble_eq_true rfl) (Nat.le_of_ble_eq_true rfl) (fun q3 => ?_)
  refine nk_dup C dX5_init_19 20 rfl rfl ?_
  refine nk_init C dX5_init_20 23 rfl (Or.inr ⟨_, qw_139⟩) qw_140 qc_X1_init rfl (n_X1_init l G q3) rfl rfl (Nat.le_of_ble_eq_true rfl) ⟨(Nat.le_of_ble_eq_true rfl), (Nat.le_of_ble_eq_true rfl)⟩ 26 200 rfl rfl (Nat.le_of_ble_eq_true rfl) (Nat.le_of_ble_eq_true rfl) (fun w4 hw4 => ?_)
  obtain ⟨a4, f4, hf4, rfl⟩ := hw4
  refine nk_ws ((q, .inr (5, [.ref q1, .null, .null, .int 0, .null, .null, .null, .null])) :: (nL G q1 a2 f2 ++ nL G q3 a4 f4)) rfl ?_
  refine nk_putF C hi (.object "BustRest$Library") dX5_init_23 26 rfl qff_X5_16 0 rfl (fun q hq => by cases hq; rfl) rfl rfl (Nat.le_of_ble_eq_true rfl) ((q, .inr (5, [.ref q1, .ref q3, .null, .int 0, .null, .null, .null, .null])) :: (nL G q1 a2 f2 ++ nL G q3 a4 f4)) rfl ?_
  refine nk_aloadn C dX5_init_26 27 rfl rfl 0 rfl ?_
  refine nk_new C (ci := 1) tyX1 [.int 0, .int 0, .int 0, .int 0, .null, .null, .null, .null] rfl uw_X1 tyX1_ok nw_137 nw_138 qw_116 nd_X1 dX5_init_27 30 rfl 27 208 rfl rfl (Nat.le_of_ble_eq_true rfl) (Nat.le_of_ble_eq_true rfl) (fun q5 => ?_)
  refine nk_dup C dX5_init_30 31 rfl rfl ?_
  refine nk_init C dX5_init_31 34 rfl (Or.inr ⟨_, qw_139⟩) qw_140 qc_X1_init rfl (n_X1_init l G q5) rfl rfl (Nat.le_of_ble_eq_true rfl) ⟨(Nat.le_of_ble_eq_true rfl), (Nat.le_of_ble_eq_true rfl)⟩ 39 300 rfl rfl (Nat.le_of_ble_eq_true rfl) (Nat.le_of_ble_eq_true rfl) (fun w6 hw6 => ?_)
  obtain ⟨a6, f6, hf6, rfl⟩ := hw6
  refine nk_ws ((q, .inr (5, [.ref q1, .ref q3, .null, .int 0, .null, .null, .null, .null])) :: ((nL G q1 a2 f2 ++ nL G q3 a4 f4) ++ nL G q5 a6 f6)) rfl ?_
  refine nk_putF C hi (.object "BustRest$Library") dX5_init_34 37 rfl qff_X5_19 0 rfl (fun q hq => by cases hq; rfl) rfl rfl (Nat.le_of_ble_eq_true rfl) ((q, .inr (5, [.ref q1, .ref q3, .ref q5, .int 0, .null, .null, .null, .null])) :: ((nL G q1 a2 f2 ++ nL G q3 a4 f4) ++ nL G q5 a6 f6)) rfl ?_
  refine nk_aloadn C dX5_init_37 38 rfl rfl 0 rfl ?_
  refine nk_iconst C (nI 0) dX5_init_38 39 rfl rfl ?_
  refine nk_put C .boolean dX5_init_39 42 rfl qf_X5_22 0 rfl (fun q hq => by cases hq; rfl) rfl rfl (Nat.le_of_ble_eq_true rfl) ((q, .inr (5, [.ref q1, .ref q3, .ref q5, .int (nI 0), .null, .null, .null, .null])) :: ((nL G q1 a2 f2 ++ nL G q3 a4 f4) ++ nL G q5 a6 f6)) rfl ?_
  refine nk_aloadn C dX5_init_42 43 rfl rfl 0 rfl ?_
  refine nk_new C (ci := 3) tyX3 [.null, .int 0, .int 0, .int 0, .int 0, .int 0] rfl uw_X3 tyX3_ok nw_221 nw_222 qw_118 nd_X3 dX5_init_43 46 rfl 40 306 rfl rfl (Nat.le_of_ble_eq_true rfl) (Nat.le_of_ble_eq_true rfl) (fun q7 => ?_)
  refine nk_dup C dX5_init_46 47 rfl rfl ?_
  refine nk_init C dX5_init_47 50 rfl (Or.inr ⟨_, qw_223⟩) qw_224 qc_X3_init rfl (n_X3_init l G q7) rfl rfl (Nat.le_of_ble_eq_true rfl) ⟨(Nat.le_of_ble_eq_true rfl), (Nat.le_of_ble_eq_true rfl)⟩ 41 426 rfl rfl (Nat.le_of_ble_eq_true rfl) (Nat.le_of_ble_eq_true rfl) (fun w8 hw8 => ?_)
  obtain ⟨a8, rfl⟩ := hw8
  refine nk_ws ((q, .inr (5, [.ref q1, .ref q3, .ref q5, .int (nI 0), .null, .null, .null, .null])) :: (((nL G q1 a2 f2 ++ nL G q3 a4 f4) ++ nL G q5 a6 f6) ++ [(q7, .inr (3, [.ref a8, .int (nI 0), .int (nI 0), .int (nI 0), .int (nI 0), .int (nI 0)])), (a8, .inl (G.2.1 0, 120, .inl (fun _ => 0)))])) rfl ?_
  refine nk_putF C hi (.object "BustRest$Tape") dX5_init_50 53 rfl qff_X5_29 0 rfl (fun q hq => by cases hq; rfl) rfl rfl (Nat.le_of_ble_eq_true rfl) ((q, .inr (5, [.ref q1, .ref q3, .ref q5, .int (nI 0), .ref q7, .null, .null, .null])) :: (((nL G q1 a2 f2 ++ nL G q3 a4 f4) ++ nL G q5 a6 f6) ++ [(q7, .inr (3, [.ref a8, .int (nI 0), .int (nI 0), .int (nI 0), .int (nI 0), .int (nI 0)])), (a8, .inl (G.2.1 0, 120, .inl (fun _ => 0)))])) rfl ?_
  refine nk_aloadn C dX5_init_53 54 rfl rfl 0 rfl ?_
  refine nk_new C (ci := 4) tyX4 [.null, .null, .int 0, .int 0] rfl uw_X4 tyX4_ok nw_250 nw_251 qw_119 nd_X4 dX5_init_54 57 rfl 42 430 rfl rfl (Nat.le_of_ble_eq_true rfl) (Nat.le_of_ble_eq_true rfl) (fun q9 => ?_)
  refine nk_dup C dX5_init_57 58 rfl rfl ?_
  refine nk_aloadn C dX5_init_58 59 rfl rfl 0 rfl ?_
  refine nk_get C dX5_init_59 62 rfl qf_X5_29 0 rfl rfl ?_
  refine nk_aloadn C dX5_init_62 63 rfl rfl 0 rfl ?_
  refine nk_get C dX5_init_63 66 rfl qf_X5_16 0 rfl rfl ?_
  refine nk_init C dX5_init_66 69 rfl (Or.inr ⟨_, qw_252⟩) qw_253 qc_X4_init rfl (n_X4_init l G q9 q7 q3) rfl rfl (Nat.le_of_ble_eq_true rfl) ⟨(Nat.le_of_ble_eq_true rfl), (Nat.le_of_ble_eq_true rfl)⟩ 42 430 rfl rfl (Nat.le_of_ble_eq_true rfl) (Nat.le_of_ble_eq_true rfl) (fun w10 hw10 => ?_)
  obtain rfl := hw10
  refine nk_ws ((q, .inr (5, [.ref q1, .ref q3, .ref q5, .int (nI 0), .ref q7, .null, .null, .null])) :: ((((nL G q1 a2 f2 ++ nL G q3 a4 f4) ++ nL G q5 a6 f6) ++ [(q7, .inr (3, [.ref a8, .int (nI 0), .int (nI 0), .int (nI 0), .int (nI 0), .int (nI 0)])), (a8, .inl (G.2.1 0, 120, .inl (fun _ => 0)))]) ++ [(q9, .inr (4, [.ref q7, .ref q3, .int (nI 0), .int (nI 0)]))])) rfl ?_
  refine nk_putF C hi (.object "BustRest$TextReader") dX5_init_69 72 rfl qff_X5_38 0 rfl (fun q hq => by cases hq; rfl) rfl rfl (Nat.le_of_ble_eq_true rfl) ((q, .inr (5, [.ref q1, .ref q3, .ref q5, .int (nI 0), .ref q7, .ref q9, .null, .null])) :: ((((nL G q1 a2 f2 ++ nL G q3 a4 f4) ++ nL G q5 a6 f6) ++ [(q7, .inr (3, [.ref a8, .int (nI 0), .int (nI 0), .int (nI 0), .int (nI 0), .int (nI 0)])), (a8, .inl (G.2.1 0, 120, .inl (fun _ => 0)))]) ++ [(q9, .inr (4, [.ref q7, .ref q3, .int (nI 0), .int (nI 0)]))])) rfl ?_
  refine nk_aloadn C dX5_init_72 73 rfl rfl 0 rfl ?_
  refine nk_iconst C (nI 4) dX5_init_73 74 rfl rfl ?_
  refine nk_newq C 2 (by omega) rfl nw_269 (by decide) 4 rfl (by omega) dX5_init_74 77 rfl 43 434 rfl rfl (Nat.le_of_ble_eq_true rfl) (Nat.le_of_ble_eq_true rfl) (fun q11 => ?_)
  refine nk_ws ((q, .inr (5, [.ref q1, .ref q3, .ref q5, .int (nI 0), .ref q7, .ref q9, .null, .null])) :: (((((nL G q1 a2 f2 ++ nL G q3 a4 f4) ++ nL G q5 a6 f6) ++ [(q7, .inr (3, [.ref a8, .int (nI 0), .int (nI 0), .int (nI 0), .int (nI 0), .int (nI 0)])), (a8, .inl (G.2.1 0, 120, .inl (fun _ => 0)))]) ++ [(q9, .inr (4, [.ref q7, .ref q3, .int (nI 0), .int (nI 0)]))]) ++ [(q11, .inl (G.2.1 2, 4, .inr (.inr (.inr (.inr (fun _ => none))))))])) rfl ?_
  refine nk_putF C hi (.array (.object "BustRest$Sheet")) dX5_init_77 80 rfl qff_X5_44 0 rfl (fun q hq => by cases hq; rfl) rfl rfl (Nat.le_of_ble_eq_true rfl) ((q, .inr (5, [.ref q1, .ref q3, .ref q5, .int (nI 0), .ref q7, .ref q9, .ref q11, .null])) :: (((((nL G q1 a2 f2 ++ nL G q3 a4 f4) ++ nL G q5 a6 f6) ++ [(q7, .inr (3, [.ref a8, .int (nI 0), .int (nI 0), .int (nI 0), .int (nI 0), .int (nI 0)])), (a8, .inl (G.2.1 0, 120, .inl (fun _ => 0)))]) ++ [(q9, .inr (4, [.ref q7, .ref q3, .int (nI 0), .int (nI 0)]))]) ++ [(q11, .inl (G.2.1 2, 4, .inr (.inr (.inr (.inr (fun _ => none))))))])) rfl ?_
  refine nk_aloadn C dX5_init_80 81 rfl rfl 0 rfl ?_
  refine nk_bipush C (nI 7) dX5_init_81 83 rfl rfl ?_
  refine nk_newa C nw_184 7 rfl (by omega) dX5_init_83 85 rfl 44 441 rfl rfl (Nat.le_of_ble_eq_true rfl) (Nat.le_of_ble_eq_true rfl) (fun q12 => ?_)
  refine nk_ws ((q, .inr (5, [.ref q1, .ref q3, .ref q5, .int (nI 0), .ref q7, .ref q9, .ref q11, .null])) :: ((((((nL G q1 a2 f2 ++ nL G q3 a4 f4) ++ nL G q5 a6 f6) ++ [(q7, .inr (3, [.ref a8, .int (nI 0), .int (nI 0), .int (nI 0), .int (nI 0), .int (nI 0)])), (a8, .inl (G.2.1 0, 120, .inl (fun _ => 0)))]) ++ [(q9, .inr (4, [.ref q7, .ref q3, .int (nI 0), .int (nI 0)]))]) ++ [(q11, .inl (G.2.1 2, 4, .inr (.inr (.inr (.inr (fun _ => none))))))]) ++ [(q12, .inl (G.2.1 0, 7, .inl (fun _ => 0)))])) rfl ?_
  refine nk_putF C hi (.array .int) dX5_init_85 88 rfl qff_X5_48 0 rfl (fun q hq => by cases hq; rfl) rfl rfl (Nat.le_of_ble_eq_true rfl) ((q, .inr (5, [.ref q1, .ref q3, .ref q5, .int (nI 0), .ref q7, .ref q9, .ref q11, .ref q12])) :: ((((((nL G q1 a2 f2 ++ nL G q3 a4 f4) ++ nL G q5 a6 f6) ++ [(q7, .inr (3, [.ref a8, .int (nI 0), .int (nI 0), .int (nI 0), .int (nI 0), .int (nI 0)])), (a8, .inl (G.2.1 0, 120, .inl (fun _ => 0)))]) ++ [(q9, .inr (4, [.ref q7, .ref q3, .int (nI 0), .int (nI 0)]))]) ++ [(q11, .inl (G.2.1 2, 4, .inr (.inr (.inr (.inr (fun _ => none))))))]) ++ [(q12, .inl (G.2.1 0, 7, .inl (fun _ => 0)))])) rfl ?_
  refine nk_iconst C (nI 0) dX5_init_88 89 rfl rfl ?_
  refine nk_istoren C dX5_init_89 90 rfl rfl (by decide) rfl ?_
  refine nk_iloadn C dX5_init_90 91 rfl rfl 0 rfl ?_
  refine nk_iconst C (nI 4) dX5_init_91 92 rfl rfl ?_
  refine nk_icmp_ge C dX5_init_92 114 rfl 95 rfl (fun c => absurd c (by decide)) (fun _ => ?_)
  refine nk_aloadn C dX5_init_95 96 rfl rfl 1 rfl ?_
  refine nk_get C dX5_init_96 99 rfl qf_X5_44 0 rfl rfl ?_
  refine nk_iloadn C dX5_init_99 100 rfl rfl 0 rfl ?_
  refine nk_new C (ci := 2) tyX2 [.int 0, .int 0, .null] rfl uw_X2 tyX2_ok nw_269 nw_271 qw_120 nd_X2 dX5_init_100 103 rfl 45 444 rfl rfl (Nat.le_of_ble_eq_true rfl) (Nat.le_of_ble_eq_true rfl) (fun q13 => ?_)
  refine nk_dup C dX5_init_103 104 rfl rfl ?_
  refine nk_init C dX5_init_104 107 rfl (Or.inr ⟨_, qw_272⟩) qw_273 qc_X2_init rfl (n_X2_init l G q13) rfl rfl (Nat.le_of_ble_eq_true rfl) ⟨(Nat.le_of_ble_eq_true rfl), (Nat.le_of_ble_eq_true rfl)⟩ 46 484 rfl rfl (Nat.le_of_ble_eq_true rfl) (Nat.le_of_ble_eq_true rfl) (fun w14 hw14 => ?_)
  obtain ⟨a14, rfl⟩ := hw14
  refine nk_ws ((q, .inr (5, [.ref q1, .ref q3, .ref q5, .int (nI 0), .ref q7, .ref q9, .ref q11, .ref q12])) :: (((((((nL G q1 a2 f2 ++ nL G q3 a4 f4) ++ nL G q5 a6 f6) ++ [(q7, .inr (3, [.ref a8, .int (nI 0), .int (nI 0), .int (nI 0), .int (nI 0), .int (nI 0)])), (a8, .inl (G.2.1 0, 120, .inl (fun _ => 0)))]) ++ [(q9, .inr (4, [.ref q7, .ref q3, .int (nI 0), .int (nI 0)]))]) ++ [(q11, .inl (G.2.1 2, 4, .inr (.inr (.inr (.inr (fun _ => none))))))]) ++ [(q12, .inl (G.2.1 0, 7, .inl (fun _ => 0)))]) ++ [(q13, .inr (2, [.int (nI 0), .int (nI 0), .ref a14])), (a14, .inl (G.2.1 0, 40, .inl (fun _ => 0)))])) rfl ?_
  refine nk_astq C dX5_init_107 108 rfl 43 2 45 2 rfl rfl rfl rfl 0 rfl (by omega) (by omega) ((q, .inr (5, [.ref q1, .ref q3, .ref q5, .int (nI 0), .ref q7, .ref q9, .ref q11, .ref q12])) :: (((((((nL G q1 a2 f2 ++ nL G q3 a4 f4) ++ nL G q5 a6 f6) ++ [(q7, .inr (3, [.ref a8, .int (nI 0), .int (nI 0), .int (nI 0), .int (nI 0), .int (nI 0)])), (a8, .inl (G.2.1 0, 120, .inl (fun _ => 0)))]) ++ [(q9, .inr (4, [.ref q7, .ref q3, .int (nI 0), .int (nI 0)]))]) ++ [(q11, .inl (G.2.1 2, 4, .inr (.inr (.inr (.inr (va_up (fun _ => none) 0 (some q13)))))))]) ++ [(q12, .inl (G.2.1 0, 7, .inl (fun _ => 0)))]) ++ [(q13, .inr (2, [.int (nI 0), .int (nI 0), .ref a14])), (a14, .inl (G.2.1 0, 40, .inl (fun _ => 0)))])) rfl ?_
  refine nk_iinc C (nI 1) dX5_init_108 111 rfl 0 rfl rfl (by decide) rfl ?_
  refine nk_goto C dX5_init_111 90 rfl ?_
  refine nk_iloadn C dX5_init_90 91 rfl rfl 0 rfl ?_
  refine nk_iconst C (nI 4) dX5_init_91 92 rfl rfl ?_
  refine nk_icmp_ge C dX5_init_92 114 rfl 95 rfl (fun c => absurd c (by decide)) (fun _ => ?_)
  refine nk_aloadn C dX5_init_95 96 rfl rfl 1 rfl ?_
  refine nk_get C dX5_init_96 99 rfl qf_X5_44 0 rfl rfl ?_
  refine nk_iloadn C dX5_init_99 100 rfl rfl 0 rfl ?_
  refine nk_new C (ci := 2) tyX2 [.int 0, .int 0, .null] rfl uw_X2 tyX2_ok nw_269 nw_271 qw_120 nd_X2 dX5_init_100 103 rfl 47 487 rfl rfl (Nat.le_of_ble_eq_true rfl) (Nat.le_of_ble_eq_true rfl) (fun q15 => ?_)
  refine nk_dup C dX5_init_103 104 rfl rfl ?_
  refine nk_init C dX5_init_104 107 rfl (Or.inr ⟨_, qw_272⟩) qw_273 qc_X2_init rfl (n_X2_init l G q15) rfl rfl (Nat.le_of_ble_eq_true rfl) ⟨(Nat.le_of_ble_eq_true rfl), (Nat.le_of_ble_eq_true rfl)⟩ 48 527 rfl rfl (Nat.le_of_ble_eq_true rfl) (Nat.le_of_ble_eq_true rfl) (fun w16 hw16 => ?_)
  obtain ⟨a16, rfl⟩ := hw16
  refine nk_ws ((q, .inr (5, [.ref q1, .ref q3, .ref q5, .int (nI 0), .ref q7, .ref q9, .ref q11, .ref q12])) :: ((((((((nL G q1 a2 f2 ++ nL G q3 a4 f4) ++ nL G q5 a6 f6) ++ [(q7, .inr (3, [.ref a8, .int (nI 0), .int (nI 0), .int (nI 0), .int (nI 0), .int (nI 0)])), (a8, .inl (G.2.1 0, 120, .inl (fun _ => 0)))]) ++ [(q9, .inr (4, [.ref q7, .ref q3, .int (nI 0), .int (nI 0)]))]) ++ [(q11, .inl (G.2.1 2, 4, .inr (.inr (.inr (.inr (va_up (fun _ => none) 0 (some q13)))))))]) ++ [(q12, .inl (G.2.1 0, 7, .inl (fun _ => 0)))]) ++ [(q13, .inr (2, [.int (nI 0), .int (nI 0), .ref a14])), (a14, .inl (G.2.1 0, 40, .inl (fun _ => 0)))]) ++ [(q15, .inr (2, [.int (nI 0), .int (nI 0), .ref a16])), (a16, .inl (G.2.1 0, 40, .inl (fun _ => 0)))])) rfl ?_
  refine nk_astq C dX5_init_107 108 rfl 43 2 47 2 rfl rfl rfl rfl 1 rfl (by omega) (by omega) ((q, .inr (5, [.ref q1, .ref q3, .ref q5, .int (nI 0), .ref q7, .ref q9, .ref q11, .ref q12])) :: ((((((((nL G q1 a2 f2 ++ nL G q3 a4 f4) ++ nL G q5 a6 f6) ++ [(q7, .inr (3, [.ref a8, .int (nI 0), .int (nI 0), .int (nI 0), .int (nI 0), .int (nI 0)])), (a8, .inl (G.2.1 0, 120, .inl (fun _ => 0)))]) ++ [(q9, .inr (4, [.ref q7, .ref q3, .int (nI 0), .int (nI 0)]))]) ++ [(q11, .inl (G.2.1 2, 4, .inr (.inr (.inr (.inr (va_up (va_up (fun _ => none) 0 (some q13)) 1 (some q15)))))))]) ++ [(q12, .inl (G.2.1 0, 7, .inl (fun _ => 0)))]) ++ [(q13, .inr (2, [.int (nI 0), .int (nI 0), .ref a14])), (a14, .inl (G.2.1 0, 40, .inl (fun _ => 0)))]) ++ [(q15, .inr (2, [.int (nI 0), .int (nI 0), .ref a16])), (a16, .inl (G.2.1 0, 40, .inl (fun _ => 0)))])) rfl ?_
  refine nk_iinc C (nI 2) dX5_init_108 111 rfl 0 rfl rfl (by decide) rfl ?_
  refine nk_goto C dX5_init_111 90 rfl ?_
  refine nk_iloadn C dX5_init_90 91 rfl rfl 0 rfl ?_
  refine nk_iconst C (nI 4) dX5_init_91 92 rfl rfl ?_
  refine nk_icmp_ge C dX5_init_92 114 rfl 95 rfl (fun c => absurd c (by decide)) (fun _ => ?_)
  refine nk_aloadn C dX5_init_95 96 rfl rfl 1 rfl ?_
  refine nk_get C dX5_init_96 99 rfl qf_X5_44 0 rfl rfl ?_
  refine nk_iloadn C dX5_init_99 100 rfl rfl 0 rfl ?_
  refine nk_new C (ci := 2) tyX2 [.int 0, .int 0, .null] rfl uw_X2 tyX2_ok nw_269 nw_271 qw_120 nd_X2 dX5_init_100 103 rfl 49 530 rfl rfl (Nat.le_of_ble_eq_true rfl) (Nat.le_of_ble_eq_true rfl) (fun q17 => ?_)
  refine nk_dup C dX5_init_103 104 rfl rfl ?_
  refine nk_init C dX5_init_104 107 rfl (Or.inr ⟨_, qw_272⟩) qw_273 qc_X2_init rfl (n_X2_init l G q17) rfl rfl (Nat.le_of_ble_eq_true rfl) ⟨(Nat.le_of_ble_eq_true rfl), (Nat.le_of_ble_eq_true rfl)⟩ 50 570 rfl rfl (Nat.le_of_ble_eq_true rfl) (Nat.le_of_ble_eq_true rfl) (fun w18 hw18 => ?_)
  obtain ⟨a18, rfl⟩ := hw18
  refine nk_ws ((q, .inr (5, [.ref q1, .ref q3, .ref q5, .int (nI 0), .ref q7, .ref q9, .ref q11, .ref q12])) :: (((((((((nL G q1 a2 f2 ++ nL G q3 a4 f4) ++ nL G q5 a6 f6) ++ [(q7, .inr (3, [.ref a8, .int (nI 0), .int (nI 0), .int (nI 0), .int (nI 0), .int (nI 0)])), (a8, .inl (G.2.1 0, 120, .inl (fun _ => 0)))]) ++ [(q9, .inr (4, [.ref q7, .ref q3, .int (nI 0), .int (nI 0)]))]) ++ [(q11, .inl (G.2.1 2, 4, .inr (.inr (.inr (.inr (va_up (va_up (fun _ => none) 0 (some q13)) 1 (some q15)))))))]) ++ [(q12, .inl (G.2.1 0, 7, .inl (fun _ => 0)))]) ++ [(q13, .inr (2, [.int (nI 0), .int (nI 0), .ref a14])), (a14, .inl (G.2.1 0, 40, .inl (fun _ => 0)))]) ++ [(q15, .inr (2, [.int (nI 0), .int (nI 0), .ref a16])), (a16, .inl (G.2.1 0, 40, .inl (fun _ => 0)))]) ++ [(q17, .inr (2, [.int (nI 0), .int (nI 0), .ref a18])), (a18, .inl (G.2.1 0, 40, .inl (fun _ => 0)))])) rfl ?_
  refine nk_astq C dX5_init_107 108 rfl 43 2 49 2 rfl rfl rfl rfl 2 rfl (by omega) (by omega) ((q, .inr (5, [.ref q1, .ref q3, .ref q5, .int (nI 0), .ref q7, .ref q9, .ref q11, .ref q12])) :: (((((((((nL G q1 a2 f2 ++ nL G q3 a4 f4) ++ nL G q5 a6 f6) ++ [(q7, .inr (3, [.ref a8, .int (nI 0), .int (nI 0), .int (nI 0), .int (nI 0), .int (nI 0)])), (a8, .inl (G.2.1 0, 120, .inl (fun _ => 0)))]) ++ [(q9, .inr (4, [.ref q7, .ref q3, .int (nI 0), .int (nI 0)]))]) ++ [(q11, .inl (G.2.1 2, 4, .inr (.inr (.inr (.inr (va_up (va_up (va_up (fun _ => none) 0 (some q13)) 1 (some q15)) 2 (some q17)))))))]) ++ [(q12, .inl (G.2.1 0, 7, .inl (fun _ => 0)))]) ++ [(q13, .inr (2, [.int (nI 0), .int (nI 0), .ref a14])), (a14, .inl (G.2.1 0, 40, .inl (fun _ => 0)))]) ++ [(q15, .inr (2, [.int (nI 0), .int (nI 0), .ref a16])), (a16, .inl (G.2.1 0, 40, .inl (fun _ => 0)))]) ++ [(q17, .inr (2, [.int (nI 0), .int (nI 0), .ref a18])), (a18, .inl (G.2.1 0, 40, .inl (fun _ => 0)))])) rfl ?_
  refine nk_iinc C (nI 3) dX5_init_108 111 rfl 0 rfl rfl (by decide) rfl ?_
  refine nk_goto C dX5_init_111 90 rfl ?_
  refine nk_iloadn C dX5_init_90 91 rfl rfl 0 rfl ?_
  refine nk_iconst C (nI 4) dX5_init_91 92 rfl rfl ?_
  refine nk_icmp_ge C dX5_init_92 114 rfl 95 rfl (fun c => absurd c (by decide)) (fun _ => ?_)
  refine nk_aloadn C dX5_init_95 96 rfl rfl 1 rfl ?_
  refine nk_get C dX5_init_96 99 rfl qf_X5_44 0 rfl rfl ?_
  refine nk_iloadn C dX5_init_99 100 rfl rfl 0 rfl ?_
  refine nk_new C (ci := 2) tyX2 [.int 0, .int 0, .null] rfl uw_X2 tyX2_ok nw_269 nw_271 qw_120 nd_X2 dX5_init_100 103 rfl 51 573 rfl rfl (Nat.le_of_ble_eq_true rfl) (Nat.le_of_ble_eq_true rfl) (fun q19 => ?_)
  refine nk_dup C dX5_init_103 104 rfl rfl ?_
  refine nk_init C dX5_init_104 107 rfl (Or.inr ⟨_, qw_272⟩) qw_273 qc_X2_init rfl (n_X2_init l G q19) rfl rfl (Nat.le_of_ble_eq_true rfl) ⟨(Nat.le_of_ble_eq_true rfl), (Nat.le_of_ble_eq_true rfl)⟩ 52 613 rfl rfl (Nat.le_of_ble_eq_true rfl) (Nat.le_of_ble_eq_true rfl) (fun w20 hw20 => ?_)
  obtain ⟨a20, rfl⟩ := hw20
  refine nk_ws ((q, .inr (5, [.ref q1, .ref q3, .ref q5, .int (nI 0), .ref q7, .ref q9, .ref q11, .ref q12])) :: ((((((((((nL G q1 a2 f2 ++ nL G q3 a4 f4) ++ nL G q5 a6 f6) ++ [(q7, .inr (3, [.ref a8, .int (nI 0), .int (nI 0), .int (nI 0), .int (nI 0), .int (nI 0)])), (a8, .inl (G.2.1 0, 120, .inl (fun _ => 0)))]) ++ [(q9, .inr (4, [.ref q7, .ref q3, .int (nI 0), .int (nI 0)]))]) ++ [(q11, .inl (G.2.1 2, 4, .inr (.inr (.inr (.inr (va_up (va_up (va_up (fun _ => none) 0 (some q13)) 1 (some q15)) 2 (some q17)))))))]) ++ [(q12, .inl (G.2.1 0, 7, .inl (fun _ => 0)))]) ++ [(q13, .inr (2, [.int (nI 0), .int (nI 0), .ref a14])), (a14, .inl (G.2.1 0, 40, .inl (fun _ => 0)))]) ++ [(q15, .inr (2, [.int (nI 0), .int (nI 0), .ref a16])), (a16, .inl (G.2.1 0, 40, .inl (fun _ => 0)))]) ++ [(q17, .inr (2, [.int (nI 0), .int (nI 0), .ref a18])), (a18, .inl (G.2.1 0, 40, .inl (fun _ => 0)))]) ++ [(q19, .inr (2, [.int (nI 0), .int (nI 0), .ref a20])), (a20, .inl (G.2.1 0, 40, .inl (fun _ => 0)))])) rfl ?_
  refine nk_astq C dX5_init_107 108 rfl 43 2 51 2 rfl rfl rfl rfl 3 rfl (by omega) (by omega) ((q, .inr (5, [.ref q1, .ref q3, .ref q5, .int (nI 0), .ref q7, .ref q9, .ref q11, .ref q12])) :: ((((((((((nL G q1 a2 f2 ++ nL G q3 a4 f4) ++ nL G q5 a6 f6) ++ [(q7, .inr (3, [.ref a8, .int (nI 0), .int (nI 0), .int (nI 0), .int (nI 0), .int (nI 0)])), (a8, .inl (G.2.1 0, 120, .inl (fun _ => 0)))]) ++ [(q9, .inr (4, [.ref q7, .ref q3, .int (nI 0), .int (nI 0)]))]) ++ [(q11, .inl (G.2.1 2, 4, .inr (.inr (.inr (.inr (va_up (va_up (va_up (va_up (fun _ => none) 0 (some q13)) 1 (some q15)) 2 (some q17)) 3 (some q19)))))))]) ++ [(q12, .inl (G.2.1 0, 7, .inl (fun _ => 0)))]) ++ [(q13, .inr (2, [.int (nI 0), .int (nI 0), .ref a14])), (a14, .inl (G.2.1 0, 40, .inl (fun _ => 0)))]) ++ [(q15, .inr (2, [.int (nI 0), .int (nI 0), .ref a16])), (a16, .inl (G.2.1 0, 40, .inl (fun _ => 0)))]) ++ [(q17, .inr (2, [.int (nI 0), .int (nI 0), .ref a18])), (a18, .inl (G.2.1 0, 40, .inl (fun _ => 0)))]) ++ [(q19, .inr (2, [.int (nI 0), .int (nI 0), .ref a20])), (a20, .inl (G.2.1 0, 40, .inl (fun _ => 0)))])) rfl ?_
  refine nk_iinc C (nI 4) dX5_init_108 111 rfl 0 rfl rfl (by decide) rfl ?_
  refine nk_goto C dX5_init_111 90 rfl ?_
  refine nk_iloadn C dX5_init_90 91 rfl rfl 0 rfl ?_
  refine nk_iconst C (nI 4) dX5_init_91 92 rfl rfl ?_
  refine nk_icmp_ge C dX5_init_92 114 rfl 95 rfl (fun _ => ?_) (fun c => absurd (by decide) c)
  exact hret _ _ _ dX5_init_114 (⟨(fun i => [q1, q3, q5, q7, a8, q9, q11, q12].getD i 0), a2, a4, a6, (fun i => [q13, q15, q17, q19].getD i 0), (fun i => [a14, a16, a18, a20].getD i 0), f2, f4, f6, _, hf2, hf4, hf6, n_4 rfl rfl rfl rfl, rfl⟩)
/-- the model's twelve cells -/
def nM (G : qx_G) (q : Nat) (c : Nat → Nat) (h : Nat → Option Nat) : va_W := [(q, .inr (6, [.ref (c 0), .ref (c 1), .ref (c 2), .int 0, .ref (c 3), .ref (c 4), .int 0, .int 0, .int 0, .int 0, .int 0, .int 0, .ref (c 5), .ref (c 6), .int 0, .int 0, .ref (c 7), .ref (c 8), .ref (c 9), .ref (c 10)])), (c 0, .inl (G.2.1 0, 88, .inl (z0 6 10))), (c 1, .inl (G.2.1 0, 88, .inl (fun _ => 0))), (c 2, .inl (G.2.1 0, 88, .inl (fun _ => 0))), (c 3, .inl (G.2.1 0, 8, .inl (fun _ => 0))), (c 4, .inl (G.2.1 0, 120, .inl (fun _ => 0))), (c 5, .inl (G.2.1 3, 7, .inr (.inr (.inr (.inr h))))), (c 6, .inl (G.2.1 0, 600, .inl (fun _ => 0))), (c 7, .inl (G.2.1 0, 4, .inl (fun _ => 0))), (c 8, .inl (G.2.1 0, 4, .inl (fun _ => 0))), (c 9, .inl (G.2.1 0, 160, .inl (fun _ => 0))), (c 10, .inl (G.2.1 0, 40, .inl (fun _ => 0)))]
set_option maxHeartbeats 8000000 in
theorem n_X6_init (l : Launch) (G : qx_G) (q : Nat) : nx_Ct l G yX6_init cX6_init 2 1 12 11 1207 [.ref q] [(q, .inr (6, [.null, .null, .null, .int 0, .null, .null, .int 0, .int 0, .int 0, .int 0, .int 0, .int 0, .null, .null, .int 0, .int 0, .null, .null, .null, .null]))] (fun w => ∃ (c : Nat → Nat) (h : Nat → Option Nat), (∀ i, i < 7 → h i = some (qx_ad G (100 + i))) ∧ w = nM G q c h) := by
  refine nx_of (lo := [(0, .ref q)]) (by decide +kernel) rfl (Nat.le_of_ble_eq_true rfl) rfl (fun Δ (C : nx_C G Δ cX6_init RX6 2 1 12 11 1207) hi hret => ?_)
  refine nk_aloadn C dX6_init_0 1 rfl rfl 0 rfl ?_
  refine nk_oinit C qw_859 qw_135 nw_136 dX6_init_1 4 rfl ⟨(Nat.le_of_ble_eq_true rfl), (Nat.le_of_ble_eq_true rfl)⟩ ?_
  refine nk_aloadn C dX6_init_4 5 rfl rfl 0 rfl ?_
  refine nk_bipush C (nI 88) dX6_init_5 7 rfl rfl ?_
  refine nk_newa C nw_184 88 rfl (by omega) dX6_init_7 9 rfl 1 88 rfl rfl (Nat.le_of_ble_eq_true rfl) (Nat.le_of_ble_eq_true rfl) (fun q1 => ?_)
  refine nk_ws [(q, .inr (6, [.null, .null, .null, .int 0, .null, .null, .int 0, .int 0, .int 0, .int 0, .int 0, .int 0, .null, .null, .int 0, .int 0, .null, .null, .null, .null])), (q1, .inl (G.2.1 0, 88, .inl (fun _ => 0)))] rfl ?_
  refine nk_putF C hi (.array .int) dX6_init_9 12 rfl qff_X6_9 0 rfl (fun q hq => by cases hq; rfl) rfl rfl (Nat.le_of_ble_eq_true rfl) [(q, .inr (6, [.ref q1, .null, .null, .int 0, .null, .null, .int 0, .int 0, .int 0, .int 0, .int 0, .int 0, .null, .null, .int 0, .int 0, .null, .null, .null, .null])), (q1, .inl (G.2.1 0, 88, .inl (fun _ => 0)))] rfl ?_
  refine nk_aloadn C dX6_init_12 13 rfl rfl 0 rfl ?_
  refine nk_bipush C (nI 88) dX6_init_13 15 rfl rfl ?_
  refine nk_newa C nw_184 88 rfl (by omega) dX6_init_15 17 rfl 2 176 rfl rfl (Nat.le_of_ble_eq_true rfl) (Nat.le_of_ble_eq_true rfl) (fun q2 => ?_)
  refine nk_ws [(q, .inr (6, [.ref q1, .null, .null, .int 0, .null, .null, .int 0, .int 0, .int 0, .int 0, .int 0, .int 0, .null, .null, .int 0, .int 0, .null, .null, .null, .null])), (q1, .inl (G.2.1 0, 88, .inl (fun _ => 0))), (q2, .inl (G.2.1 0, 88, .inl (fun _ => 0)))] rfl ?_
  refine nk_putF C hi (.array .int) dX6_init_17 20 rfl qff_X6_13 0 rfl (fun q hq => by cases hq; rfl) rfl rfl (Nat.le_of_ble_eq_true rfl) [(q, .inr (6, [.ref q1, .ref q2, .null, .int 0, .null, .null, .int 0, .int 0, .int 0, .int 0, .int 0, .int 0, .null, .null, .int 0, .int 0, .null, .null, .null, .null])), (q1, .inl (G.2.1 0, 88, .inl (fun _ => 0))), (q2, .inl (G.2.1 0, 88, .inl (fun _ => 0)))] rfl ?_
  refine nk_aloadn C dX6_init_20 21 rfl rfl 0 rfl ?_
  refine nk_bipush C (nI 88) dX6_init_21 23 rfl rfl ?_
  refine nk_newa C nw_184 88 rfl (by omega) dX6_init_23 25 rfl 3 264 rfl rfl (Nat.le_of_ble_eq_true rfl) (Nat.le_of_ble_eq_true rfl) (fun q3 => ?_)
  refine nk_ws [(q, .inr (6, [.ref q1, .ref q2, .null, .int 0, .null, .null, .int 0, .int 0, .int 0, .int 0, .int 0, .int 0, .null, .null, .int 0, .int 0, .null, .null, .null, .null])), (q1, .inl (G.2.1 0, 88, .inl (fun _ => 0))), (q2, .inl (G.2.1 0, 88, .inl (fun _ => 0))), (q3, .inl (G.2.1 0, 88, .inl (fun _ => 0)))] rfl ?_
  refine nk_putF C hi (.array .int) dX6_init_25 28 rfl qff_X6_16 0 rfl (fun q hq => by cases hq; rfl) rfl rfl (Nat.le_of_ble_eq_true rfl) [(q, .inr (6, [.ref q1, .ref q2, .ref q3, .int 0, .null, .null, .int 0, .int 0, .int 0, .int 0, .int 0, .int 0, .null, .null, .int 0, .int 0, .null, .null, .null, .null])), (q1, .inl (G.2.1 0, 88, .inl (fun _ => 0))), (q2, .inl (G.2.1 0, 88, .inl (fun _ => 0))), (q3, .inl (G.2.1 0, 88, .inl (fun _ => 0)))] rfl ?_
  refine nk_aloadn C dX6_init_28 29 rfl rfl 0 rfl ?_
  refine nk_bipush C (nI 8) dX6_init_29 31 rfl rfl ?_
  refine nk_newa C nw_184 8 rfl (by omega) dX6_init_31 33 rfl 4 272 rfl rfl (Nat.le_of_ble_eq_true rfl) (Nat.le_of_ble_eq_true rfl) (fun q4 => ?_)
  refine nk_ws [(q, .inr (6, [.ref q1, .ref q2, .ref q3, .int 0, .null, .null, .int 0, .int 0, .int 0, .int 0, .int 0, .int 0, .null, .null, .int 0, .int 0, .null, .null, .null, .null])), (q1, .inl (G.2.1 0, 88, .inl (fun _ => 0))), (q2, .inl (G.2.1 0, 88, .inl (fun _ => 0))), (q3, .inl (G.2.1 0, 88, .inl (fun _ => 0))), (q4, .inl (G.2.1 0, 8, .inl (fun _ => 0)))] rfl ?_
  refine nk_putF C hi (.array .int) dX6_init_33 36 rfl qff_X6_19 0 rfl (fun q hq => by cases hq; rfl) rfl rfl (Nat.le_of_ble_eq_true rfl) [(q, .inr (6, [.ref q1, .ref q2, .ref q3, .int 0, .ref q4, .null, .int 0, .int 0, .int 0, .int 0, .int 0, .int 0, .null, .null, .int 0, .int 0, .null, .null, .null, .null])), (q1, .inl (G.2.1 0, 88, .inl (fun _ => 0))), (q2, .inl (G.2.1 0, 88, .inl (fun _ => 0))), (q3, .inl (G.2.1 0, 88, .inl (fun _ => 0))), (q4, .inl (G.2.1 0, 8, .inl (fun _ => 0)))] rfl ?_
  refine nk_aloadn C dX6_init_36 37 rfl rfl 0 rfl ?_
  refine nk_bipush C (nI 120) dX6_init_37 39 rfl rfl ?_
  refine nk_newa C nw_184 120 rfl (by omega) dX6_init_39 41 rfl 5 392 rfl rfl (Nat.le_of_ble_eq_true rfl) (Nat.le_of_ble_eq_true rfl) (fun q5 => ?_)
  refine nk_ws [(q, .inr (6, [.ref q1, .ref q2, .ref q3, .int 0, .ref q4, .null, .int 0, .int 0, .int 0, .int 0, .int 0, .int 0, .null, .null, .int 0, .int 0, .null, .null, .null, .null])), (q1, .inl (G.2.1 0, 88, .inl (fun _ => 0))), (q2, .inl (G.2.1 0, 88, .inl (fun _ => 0))), (q3, .inl (G.2.1 0, 88, .inl (fun _ => 0))), (q4, .inl (G.2.1 0, 8, .inl (fun _ => 0))), (q5, .inl (G.2.1 0, 120, .inl (fun _ => 0)))] rfl ?_
  refine nk_putF C hi (.array .int) dX6_init_41 44 rfl qff_X6_22 0 rfl (fun q hq => by cases hq; rfl) rfl rfl (Nat.le_of_ble_eq_true rfl) [(q, .inr (6, [.ref q1, .ref q2, .ref q3, .int 0, .ref q4, .ref q5, .int 0, .int 0, .int 0, .int 0, .int 0, .int 0, .null, .null, .int 0, .int 0, .null, .null, .null, .null])), (q1, .inl (G.2.1 0, 88, .inl (fun _ => 0))), (q2, .inl (G.2.1 0, 88, .inl (fun _ => 0))), (q3, .inl (G.2.1 0, 88, .inl (fun _ => 0))), (q4, .inl (G.2.1 0, 8, .inl (fun _ => 0))), (q5, .inl (G.2.1 0, 120, .inl (fun _ => 0)))] rfl ?_
  refine nk_aloadn C dX6_init_44 45 rfl rfl 0 rfl ?_
  refine nk_bipush C (nI 7) dX6_init_45 47 rfl rfl ?_
  refine nk_newq C 3 (by omega) rfl nw_860 (by decide) 7 rfl (by omega) dX6_init_47 50 rfl 6 399 rfl rfl (Nat.le_of_ble_eq_true rfl) (Nat.le_of_ble_eq_true rfl) (fun q6 => ?_)
  refine nk_ws [(q, .inr (6, [.ref q1, .ref q2, .ref q3, .int 0, .ref q4, .ref q5, .int 0, .int 0, .int 0, .int 0, .int 0, .int 0, .null, .null, .int 0, .int 0, .null, .null, .null, .null])), (q1, .inl (G.2.1 0, 88, .inl (fun _ => 0))), (q2, .inl (G.2.1 0, 88, .inl (fun _ => 0))), (q3, .inl (G.2.1 0, 88, .inl (fun _ => 0))), (q4, .inl (G.2.1 0, 8, .inl (fun _ => 0))), (q5, .inl (G.2.1 0, 120, .inl (fun _ => 0))), (q6, .inl (G.2.1 3, 7, .inr (.inr (.inr (.inr (fun _ => none))))))] rfl ?_
  refine nk_dup C dX6_init_50 51 rfl rfl ?_
  refine nk_iconst C (nI 0) dX6_init_51 52 rfl rfl ?_
  refine nk_ldcS C 0 (tx := "bust") dX6_init_52 54 rfl (by decide) ?_
  refine nk_astS C dX6_init_54 55 rfl 6 rfl (by omega) 0 rfl (by omega) (by omega) [(q, .inr (6, [.ref q1, .ref q2, .ref q3, .int 0, .ref q4, .ref q5, .int 0, .int 0, .int 0, .int 0, .int 0, .int 0, .null, .null, .int 0, .int 0, .null, .null, .null, .null])), (q1, .inl (G.2.1 0, 88, .inl (fun _ => 0))), (q2, .inl (G.2.1 0, 88, .inl (fun _ => 0))), (q3, .inl (G.2.1 0, 88, .inl (fun _ => 0))), (q4, .inl (G.2.1 0, 8, .inl (fun _ => 0))), (q5, .inl (G.2.1 0, 120, .inl (fun _ => 0))), (q6, .inl (G.2.1 3, 7, .inr (.inr (.inr (.inr (va_up (fun _ => none) 0 (some (qx_ad G (100 + 0)))))))))] rfl ?_
  refine nk_dup C dX6_init_55 56 rfl rfl ?_
  refine nk_iconst C (nI 1) dX6_init_56 57 rfl rfl ?_
  refine nk_ldcS C 1 (tx := "poet") dX6_init_57 59 rfl (by decide) ?_
  refine nk_astS C dX6_init_59 60 rfl 6 rfl (by omega) 1 rfl (by omega) (by omega) [(q, .inr (6, [.ref q1, .ref q2, .ref q3, .int 0, .ref q4, .ref q5, .int 0, .int 0, .int 0, .int 0, .int 0, .int 0, .null, .null, .int 0, .int 0, .null, .null, .null, .null])), (q1, .inl (G.2.1 0, 88, .inl (fun _ => 0))), (q2, .inl (G.2.1 0, 88, .inl (fun _ => 0))), (q3, .inl (G.2.1 0, 88, .inl (fun _ => 0))), (q4, .inl (G.2.1 0, 8, .inl (fun _ => 0))), (q5, .inl (G.2.1 0, 120, .inl (fun _ => 0))), (q6, .inl (G.2.1 3, 7, .inr (.inr (.inr (.inr (va_up (va_up (fun _ => none) 0 (some (qx_ad G (100 + 0)))) 1 (some (qx_ad G (100 + 1)))))))))] rfl ?_
  refine nk_dup C dX6_init_60 61 rfl rfl ?_
  refine nk_iconst C (nI 2) dX6_init_61 62 rfl rfl ?_
  refine nk_ldcS C 2 (tx := "stoic") dX6_init_62 64 rfl (by decide) ?_
  refine nk_astS C dX6_init_64 65 rfl 6 rfl (by omega) 2 rfl (by omega) (by omega) [(q, .inr (6, [.ref q1, .ref q2, .ref q3, .int 0, .ref q4, .ref q5, .int 0, .int 0, .int 0, .int 0, .int 0, .int 0, .null, .null, .int 0, .int 0, .null, .null, .null, .null])), (q1, .inl (G.2.1 0, 88, .inl (fun _ => 0))), (q2, .inl (G.2.1 0, 88, .inl (fun _ => 0))), (q3, .inl (G.2.1 0, 88, .inl (fun _ => 0))), (q4, .inl (G.2.1 0, 8, .inl (fun _ => 0))), (q5, .inl (G.2.1 0, 120, .inl (fun _ => 0))), (q6, .inl (G.2.1 3, 7, .inr (.inr (.inr (.inr (va_up (va_up (va_up (fun _ => none) 0 (some (qx_ad G (100 + 0)))) 1 (some (qx_ad G (100 + 1)))) 2 (some (qx_ad G (100 + 2)))))))))] rfl ?_
  refine nk_dup C dX6_init_65 66 rfl rfl ?_
  refine nk_iconst C (nI 3) dX6_init_66 67 rfl rfl ?_
  refine nk_ldcS C 3 (tx := "orator") dX6_init_67 69 rfl (by decide) ?_
  refine nk_astS C dX6_init_69 70 rfl 6 rfl (by omega) 3 rfl (by omega) (by omega) [(q, .inr (6, [.ref q1, .ref q2, .ref q3, .int 0, .ref q4, .ref q5, .int 0, .int 0, .int 0, .int 0, .int 0, .int 0, .null, .null, .int 0, .int 0, .null, .null, .null, .null])), (q1, .inl (G.2.1 0, 88, .inl (fun _ => 0))), (q2, .inl (G.2.1 0, 88, .inl (fun _ => 0))), (q3, .inl (G.2.1 0, 88, .inl (fun _ => 0))), (q4, .inl (G.2.1 0, 8, .inl (fun _ => 0))), (q5, .inl (G.2.1 0, 120, .inl (fun _ => 0))), (q6, .inl (G.2.1 3, 7, .inr (.inr (.inr (.inr (va_up (va_up (va_up (va_up (fun _ => none) 0 (some (qx_ad G (100 + 0)))) 1 (some (qx_ad G (100 + 1)))) 2 (some (qx_ad G (100 + 2)))) 3 (some (qx_ad G (100 + 3)))))))))] rfl ?_
  refine nk_dup C dX6_init_70 71 rfl rfl ?_
  refine nk_iconst C (nI 4) dX6_init_71 72 rfl rfl ?_
  refine nk_ldcS C 4 (tx := "cicero") dX6_init_72 74 rfl (by decide) ?_
  refine nk_astS C dX6_init_74 75 rfl 6 rfl (by omega) 4 rfl (by omega) (by omega) [(q, .inr (6, [.ref q1, .ref q2, .ref q3, .int 0, .ref q4, .ref q5, .int 0, .int 0, .int 0, .int 0, .int 0, .int 0, .null, .null, .int 0, .int 0, .null, .null, .null, .null])), (q1, .inl (G.2.1 0, 88, .inl (fun _ => 0))), (q2, .inl (G.2.1 0, 88, .inl (fun _ => 0))), (q3, .inl (G.2.1 0, 88, .inl (fun _ => 0))), (q4, .inl (G.2.1 0, 8, .inl (fun _ => 0))), (q5, .inl (G.2.1 0, 120, .inl (fun _ => 0))), (q6, .inl (G.2.1 3, 7, .inr (.inr (.inr (.inr (va_up (va_up (va_up (va_up (va_up (fun _ => none) 0 (some (qx_ad G (100 + 0)))) 1 (some (qx_ad G (100 + 1)))) 2 (some (qx_ad G (100 + 2)))) 3 (some (qx_ad G (100 + 3)))) 4 (some (qx_ad G (100 + 4)))))))))] rfl ?_
  refine nk_dup C dX6_init_75 76 rfl rfl ?_
  refine nk_iconst C (nI 5) dX6_init_76 77 rfl rfl ?_
  refine nk_ldcS C 5 (tx := "torso") dX6_init_77 79 rfl (by decide) ?_
  refine nk_astS C dX6_init_79 80 rfl 6 rfl (by omega) 5 rfl (by omega) (by omega) [(q, .inr (6, [.ref q1, .ref q2, .ref q3, .int 0, .ref q4, .ref q5, .int 0, .int 0, .int 0, .int 0, .int 0, .int 0, .null, .null, .int 0, .int 0, .null, .null, .null, .null])), (q1, .inl (G.2.1 0, 88, .inl (fun _ => 0))), (q2, .inl (G.2.1 0, 88, .inl (fun _ => 0))), (q3, .inl (G.2.1 0, 88, .inl (fun _ => 0))), (q4, .inl (G.2.1 0, 8, .inl (fun _ => 0))), (q5, .inl (G.2.1 0, 120, .inl (fun _ => 0))), (q6, .inl (G.2.1 3, 7, .inr (.inr (.inr (.inr (va_up (va_up (va_up (va_up (va_up (va_up (fun _ => none) 0 (some (qx_ad G (100 + 0)))) 1 (some (qx_ad G (100 + 1)))) 2 (some (qx_ad G (100 + 2)))) 3 (some (qx_ad G (100 + 3)))) 4 (some (qx_ad G (100 + 4)))) 5 (some (qx_ad G (100 + 5)))))))))] rfl ?_
  refine nk_dup C dX6_init_80 81 rfl rfl ?_
  refine nk_bipush C (nI 6) dX6_init_81 83 rfl rfl ?_
  refine nk_ldcS C 6 (tx := "homer") dX6_init_83 85 rfl (by decide) ?_
  refine nk_astS C dX6_init_85 86 rfl 6 rfl (by omega) 6 rfl (by omega) (by omega) [(q, .inr (6, [.ref q1, .ref q2, .ref q3, .int 0, .ref q4, .ref q5, .int 0, .int 0, .int 0, .int 0, .int 0, .int 0, .null, .null, .int 0, .int 0, .null, .null, .null, .null])), (q1, .inl (G.2.1 0, 88, .inl (fun _ => 0))), (q2, .inl (G.2.1 0, 88, .inl (fun _ => 0))), (q3, .inl (G.2.1 0, 88, .inl (fun _ => 0))), (q4, .inl (G.2.1 0, 8, .inl (fun _ => 0))), (q5, .inl (G.2.1 0, 120, .inl (fun _ => 0))), (q6, .inl (G.2.1 3, 7, .inr (.inr (.inr (.inr (va_up (va_up (va_up (va_up (va_up (va_up (va_up (fun _ => none) 0 (some (qx_ad G (100 + 0)))) 1 (some (qx_ad G (100 + 1)))) 2 (some (qx_ad G (100 + 2)))) 3 (some (qx_ad G (100 + 3)))) 4 (some (qx_ad G (100 + 4)))) 5 (some (qx_ad G (100 + 5)))) 6 (some (qx_ad G (100 + 6)))))))))] rfl ?_
  refine nk_putF C hi (.array (.object "java/lang/String")) dX6_init_86 89 rfl qff_X6_41 0 rfl (fun q hq => by cases hq; rfl) rfl rfl (Nat.le_of_ble_eq_true rfl) [(q, .inr (6, [.ref q1, .ref q2, .ref q3, .int 0, .ref q4, .ref q5, .int 0, .int 0, .int 0, .int 0, .int 0, .int 0, .ref q6, .null, .int 0, .int 0, .null, .null, .null, .null])), (q1, .inl (G.2.1 0, 88, .inl (fun _ => 0))), (q2, .inl (G.2.1 0, 88, .inl (fun _ => 0))), (q3, .inl (G.2.1 0, 88, .inl (fun _ => 0))), (q4, .inl (G.2.1 0, 8, .inl (fun _ => 0))), (q5, .inl (G.2.1 0, 120, .inl (fun _ => 0))), (q6, .inl (G.2.1 3, 7, .inr (.inr (.inr (.inr (va_up (va_up (va_up (va_up (va_up (va_up (va_up (fun _ => none) 0 (some (qx_ad G (100 + 0)))) 1 (some (qx_ad G (100 + 1)))) 2 (some (qx_ad G (100 + 2)))) 3 (some (qx_ad G (100 + 3)))) 4 (some (qx_ad G (100 + 4)))) 5 (some (qx_ad G (100 + 5)))) 6 (some (qx_ad G (100 + 6)))))))))] rfl ?_
  refine nk_aloadn C dX6_init_89 90 rfl rfl 0 rfl ?_
  refine nk_sipush C (nI 600) dX6_init_90 93 rfl rfl ?_
  refine nk_newa C nw_184 600 rfl (by omega) dX6_init_93 95 rfl 7 999 rfl rfl (Nat.le_of_ble_eq_true rfl) (Nat.le_of_ble_eq_true rfl) (fun q7 => ?_)
  refine nk_ws [(q, .inr (6, [.ref q1, .ref q2, .ref q3, .int 0, .ref q4, .ref q5, .int 0, .int 0, .int 0, .int 0, .int 0, .int 0, .ref q6, .null, .int 0, .int 0, .null, .null, .null, .null])), (q1, .inl (G.2.1 0, 88, .inl (fun _ => 0))), (q2, .inl (G.2.1 0, 88, .inl (fun _ => 0))), (q3, .inl (G.2.1 0, 88, .inl (fun _ => 0))), (q4, .inl (G.2.1 0, 8, .inl (fun _ => 0))), (q5, .inl (G.2.1 0, 120, .inl (fun _ => 0))), (q6, .inl (G.2.1 3, 7, .inr (.inr (.inr (.inr (va_up (va_up (va_up (va_up (va_up (va_up (va_up (fun _ => none) 0 (some (qx_ad G (100 + 0)))) 1 (some (qx_ad G (100 + 1)))) 2 (some (qx_ad G (100 + 2)))) 3 (some (qx_ad G (100 + 3)))) 4 (some (qx_ad G (100 + 4)))) 5 (some (qx_ad G (100 + 5)))) 6 (some (qx_ad G (100 + 6))))))))), (q7, .inl (G.2.1 0, 600, .inl (fun _ => 0)))] rfl ?_
  refine nk_putF C hi (.array .int) dX6_init_95 98 rfl qff_X6_45 0 rfl (fun q hq => by cases hq; rfl) rfl rfl (Nat.le_of_ble_eq_true rfl) [(q, .inr (6, [.ref q1, .ref q2, .ref q3, .int 0, .ref q4, .ref q5, .int 0, .int 0, .int 0, .int 0, .int 0, .int 0, .ref q6, .ref q7, .int 0, .int 0, .null, .null, .null, .null])), (q1, .inl (G.2.1 0, 88, .inl (fun _ => 0))), (q2, .inl (G.2.1 0, 88, .inl (fun _ => 0))), (q3, .inl (G.2.1 0, 88, .inl (fun _ => 0))), (q4, .inl (G.2.1 0, 8, .inl (fun _ => 0))), (q5, .inl (G.2.1 0, 120, .inl (fun _ => 0))), (q6, .inl (G.2.1 3, 7, .inr (.inr (.inr (.inr (va_up (va_up (va_up (va_up (va_up (va_up (va_up (fun _ => none) 0 (some (qx_ad G (100 + 0)))) 1 (some (qx_ad G (100 + 1)))) 2 (some (qx_ad G (100 + 2)))) 3 (some (qx_ad G (100 + 3)))) 4 (some (qx_ad G (100 + 4)))) 5 (some (qx_ad G (100 + 5)))) 6 (some (qx_ad G (100 + 6))))))))), (q7, .inl (G.2.1 0, 600, .inl (fun _ => 0)))] rfl ?_
  refine nk_aloadn C dX6_init_98 99 rfl rfl 0 rfl ?_
  refine nk_iconst C (nI 4) dX6_init_99 100 rfl rfl ?_
  refine nk_newa C nw_184 4 rfl (by omega) dX6_init_100 102 rfl 8 1003 rfl rfl (Nat.le_of_ble_eq_true rfl) (Nat.le_of_ble_eq_true rfl) (fun q8 => ?_)
  refine nk_ws [(q, .inr (6, [.ref q1, .ref q2, .ref q3, .int 0, .ref q4, .ref q5, .int 0, .int 0, .int 0, .int 0, .int 0, .int 0, .ref q6, .ref q7, .int 0, .int 0, .null, .null, .null, .null])), (q1, .inl (G.2.1 0, 88, .inl (fun _ => 0))), (q2, .inl (G.2.1 0, 88, .inl (fun _ => 0))), (q3, .inl (G.2.1 0, 88, .inl (fun _ => 0))), (q4, .inl (G.2.1 0, 8, .inl (fun _ => 0))), (q5, .inl (G.2.1 0, 120, .inl (fun _ => 0))), (q6, .inl (G.2.1 3, 7, .inr (.inr (.inr (.inr (va_up (va_up (va_up (va_up (va_up (va_up (va_up (fun _ => none) 0 (some (qx_ad G (100 + 0)))) 1 (some (qx_ad G (100 + 1)))) 2 (some (qx_ad G (100 + 2)))) 3 (some (qx_ad G (100 + 3)))) 4 (some (qx_ad G (100 + 4)))) 5 (some (qx_ad G (100 + 5)))) 6 (some (qx_ad G (100 + 6))))))))), (q7, .inl (G.2.1 0, 600, .inl (fun _ => 0))), (q8, .inl (G.2.1 0, 4, .inl (fun _ => 0)))] rfl ?_
  refine nk_putF C hi (.array .int) dX6_init_102 105 rfl qff_X6_48 0 rfl (fun q hq => by cases hq; rfl) rfl rfl (Nat.le_of_ble_eq_true rfl) [(q, .inr (6, [.ref q1, .ref q2, .ref q3, .int 0, .ref q4, .ref q5, .int 0, .int 0, .int 0, .int 0, .int 0, .int 0, .ref q6, .ref q7, .int 0, .int 0, .ref q8, .null, .null, .null])), (q1, .inl (G.2.1 0, 88, .inl (fun _ => 0))), (q2, .inl (G.2.1 0, 88, .inl (fun _ => 0))), (q3, .inl (G.2.1 0, 88, .inl (fun _ => 0))), (q4, .inl (G.2.1 0, 8, .inl (fun _ => 0))), (q5, .inl (G.2.1 0, 120, .inl (fun _ => 0))), (q6, .inl (G.2.1 3, 7, .inr (.inr (.inr (.inr (va_up (va_up (va_up (va_up (va_up (va_up (va_up (fun _ => none) 0 (some (qx_ad G (100 + 0)))) 1 (some (qx_ad G (100 + 1)))) 2 (some (qx_ad G (100 + 2)))) 3 (some (qx_ad G (100 + 3)))) 4 (some (qx_ad G (100 + 4)))) 5 (some (qx_ad G (100 + 5)))) 6 (some (qx_ad G (100 + 6))))))))), (q7, .inl (G.2.1 0, 600, .inl (fun _ => 0))), (q8, .inl (G.2.1 0, 4, .inl (fun _ => 0)))] rfl ?_
  refine nk_aloadn C dX6_init_105 106 rfl rfl 0 rfl ?_
  refine nk_iconst C (nI 4) dX6_init_106 107 rfl rfl ?_
  refine nk_newa C nw_184 4 rfl (by omega) dX6_init_107 109 rfl 9 1007 rfl rfl (Nat.le_of_ble_eq_true rfl) (Nat.le_of_ble_eq_true rfl) (fun q9 => ?_)
  refine nk_ws [(q, .inr (6, [.ref q1, .ref q2, .ref q3, .int 0, .ref q4, .ref q5, .int 0, .int 0, .int 0, .int 0, .int 0, .int 0, .ref q6, .ref q7, .int 0, .int 0, .ref q8, .null, .null, .null])), (q1, .inl (G.2.1 0, 88, .inl (fun _ => 0))), (q2, .inl (G.2.1 0, 88, .inl (fun _ => 0))), (q3, .inl (G.2.1 0, 88, .inl (fun _ => 0))), (q4, .inl (G.2.1 0, 8, .inl (fun _ => 0))), (q5, .inl (G.2.1 0, 120, .inl (fun _ => 0))), (q6, .inl (G.2.1 3, 7, .inr (.inr (.inr (.inr (va_up (va_up (va_up (va_up (va_up (va_up (va_up (fun _ => none) 0 (some (qx_ad G (100 + 0)))) 1 (some (qx_ad G (100 + 1)))) 2 (some (qx_ad G (100 + 2)))) 3 (some (qx_ad G (100 + 3)))) 4 (some (qx_ad G (100 + 4)))) 5 (some (qx_ad G (100 + 5)))) 6 (some (qx_ad G (100 + 6))))))))), (q7, .inl (G.2.1 0, 600, .inl (fun _ => 0))), (q8, .inl (G.2.1 0, 4, .inl (fun _ => 0))), (q9, .inl (G.2.1 0, 4, .inl (fun _ => 0)))] rfl ?_
  refine nk_putF C hi (.array .int) dX6_init_109 112 rfl qff_X6_51 0 rfl (fun q hq => by cases hq; rfl) rfl rfl (Nat.le_of_ble_eq_true rfl) [(q, .inr (6, [.ref q1, .ref q2, .ref q3, .int 0, .ref q4, .ref q5, .int 0, .int 0, .int 0, .int 0, .int 0, .int 0, .ref q6, .ref q7, .int 0, .int 0, .ref q8, .ref q9, .null, .null])), (q1, .inl (G.2.1 0, 88, .inl (fun _ => 0))), (q2, .inl (G.2.1 0, 88, .inl (fun _ => 0))), (q3, .inl (G.2.1 0, 88, .inl (fun _ => 0))), (q4, .inl (G.2.1 0, 8, .inl (fun _ => 0))), (q5, .inl (G.2.1 0, 120, .inl (fun _ => 0))), (q6, .inl (G.2.1 3, 7, .inr (.inr (.inr (.inr (va_up (va_up (va_up (va_up (va_up (va_up (va_up (fun _ => none) 0 (some (qx_ad G (100 + 0)))) 1 (some (qx_ad G (100 + 1)))) 2 (some (qx_ad G (100 + 2)))) 3 (some (qx_ad G (100 + 3)))) 4 (some (qx_ad G (100 + 4)))) 5 (some (qx_ad G (100 + 5)))) 6 (some (qx_ad G (100 + 6))))))))), (q7, .inl (G.2.1 0, 600, .inl (fun _ => 0))), (q8, .inl (G.2.1 0, 4, .inl (fun _ => 0))), (q9, .inl (G.2.1 0, 4, .inl (fun _ => 0)))] rfl ?_
  refine nk_aloadn C dX6_init_112 113 rfl rfl 0 rfl ?_
  refine nk_sipush C (nI 160) dX6_init_113 116 rfl rfl ?_
  refine nk_newa C nw_184 160 rfl (by omega) dX6_init_116 118 rfl 10 1167 rfl rfl (Nat.le_of_ble_eq_true rfl) (Nat.le_of_ble_eq_true rfl) (fun q10 => ?_)
  refine nk_ws [(q, .inr (6, [.ref q1, .ref q2, .ref q3, .int 0, .ref q4, .ref q5, .int 0, .int 0, .int 0, .int 0, .int 0, .int 0, .ref q6, .ref q7, .int 0, .int 0, .ref q8, .ref q9, .null, .null])), (q1, .inl (G.2.1 0, 88, .inl (fun _ => 0))), (q2, .inl (G.2.1 0, 88, .inl (fun _ => 0))), (q3, .inl (G.2.1 0, 88, .inl (fun _ => 0))), (q4, .inl (G.2.1 0, 8, .inl (fun _ => 0))), (q5, .inl (G.2.1 0, 120, .inl (fun _ => 0))), (q6, .inl (G.2.1 3, 7, .inr (.inr (.inr (.inr (va_up (va_up (va_up (va_up (va_up (va_up (va_up (fun _ => none) 0 (some (qx_ad G (100 + 0)))) 1 (some (qx_ad G (100 + 1)))) 2 (some (qx_ad G (100 + 2)))) 3 (some (qx_ad G (100 + 3)))) 4 (some (qx_ad G (100 + 4)))) 5 (some (qx_ad G (100 + 5)))) 6 (some (qx_ad G (100 + 6))))))))), (q7, .inl (G.2.1 0, 600, .inl (fun _ => 0))), (q8, .inl (G.2.1 0, 4, .inl (fun _ => 0))), (q9, .inl (G.2.1 0, 4, .inl (fun _ => 0))), (q10, .inl (G.2.1 0, 160, .inl (fun _ => 0)))] rfl ?_
  refine nk_putF C hi (.array .int) dX6_init_118 121 rfl qff_X6_54 0 rfl (fun q hq => by cases hq; rfl) rfl rfl (Nat.le_of_ble_eq_true rfl) [(q, .inr (6, [.ref q1, .ref q2, .ref q3, .int 0, .ref q4, .ref q5, .int 0, .int 0, .int 0, .int 0, .int 0, .int 0, .ref q6, .ref q7, .int 0, .int 0, .ref q8, .ref q9, .ref q10, .null])), (q1, .inl (G.2.1 0, 88, .inl (fun _ => 0))), (q2, .inl (G.2.1 0, 88, .inl (fun _ => 0))), (q3, .inl (G.2.1 0, 88, .inl (fun _ => 0))), (q4, .inl (G.2.1 0, 8, .inl (fun _ => 0))), (q5, .inl (G.2.1 0, 120, .inl (fun _ => 0))), (q6, .inl (G.2.1 3, 7, .inr (.inr (.inr (.inr (va_up (va_up (va_up (va_up (va_up (va_up (va_up (fun _ => none) 0 (some (qx_ad G (100 + 0)))) 1 (some (qx_ad G (100 + 1)))) 2 (some (qx_ad G (100 + 2)))) 3 (some (qx_ad G (100 + 3)))) 4 (some (qx_ad G (100 + 4)))) 5 (some (qx_ad G (100 + 5)))) 6 (some (qx_ad G (100 + 6))))))))), (q7, .inl (G.2.1 0, 600, .inl (fun _ => 0))), (q8, .inl (G.2.1 0, 4, .inl (fun _ => 0))), (q9, .inl (G.2.1 0, 4, .inl (fun _ => 0))), (q10, .inl (G.2.1 0, 160, .inl (fun _ => 0)))] rfl ?_
  refine nk_aloadn C dX6_init_121 122 rfl rfl 0 rfl ?_
  refine nk_bipush C (nI 40) dX6_init_122 124 rfl rfl ?_
  refine nk_newa C nw_184 40 rfl (by omega) dX6_init_124 126 rfl 11 1207 rfl rfl (Nat.le_of_ble_eq_true rfl) (Nat.le_of_ble_eq_true rfl) (fun q11 => ?_)
  refine nk_ws [(q, .inr (6, [.ref q1, .ref q2, .ref q3, .int 0, .ref q4, .ref q5, .int 0, .int 0, .int 0, .int 0, .int 0, .int 0, .ref q6, .ref q7, .int 0, .int 0, .ref q8, .ref q9, .ref q10, .null])), (q1, .inl (G.2.1 0, 88, .inl (fun _ => 0))), (q2, .inl (G.2.1 0, 88, .inl (fun _ => 0))), (q3, .inl (G.2.1 0, 88, .inl (fun _ => 0))), (q4, .inl (G.2.1 0, 8, .inl (fun _ => 0))), (q5, .inl (G.2.1 0, 120, .inl (fun _ => 0))), (q6, .inl (G.2.1 3, 7, .inr (.inr (.inr (.inr (va_up (va_up (va_up (va_up (va_up (va_up (va_up (fun _ => none) 0 (some (qx_ad G (100 + 0)))) 1 (some (qx_ad G (100 + 1)))) 2 (some (qx_ad G (100 + 2)))) 3 (some (qx_ad G (100 + 3)))) 4 (some (qx_ad G (100 + 4)))) 5 (some (qx_ad G (100 + 5)))) 6 (some (qx_ad G (100 + 6))))))))), (q7, .inl (G.2.1 0, 600, .inl (fun _ => 0))), (q8, .inl (G.2.1 0, 4, .inl (fun _ => 0))), (q9, .inl (G.2.1 0, 4, .inl (fun _ => 0))), (q10, .inl (G.2.1 0, 160, .inl (fun _ => 0))), (q11, .inl (G.2.1 0, 40, .inl (fun _ => 0)))] rfl ?_
  refine nk_putF C hi (.array .int) dX6_init_126 129 rfl qff_X6_57 0 rfl (fun q hq => by cases hq; rfl) rfl rfl (Nat.le_of_ble_eq_true rfl) [(q, .inr (6, [.ref q1, .ref q2, .ref q3, .int 0, .ref q4, .ref q5, .int 0, .int 0, .int 0, .int 0, .int 0, .int 0, .ref q6, .ref q7, .int 0, .int 0, .ref q8, .ref q9, .ref q10, .ref q11])), (q1, .inl (G.2.1 0, 88, .inl (fun _ => 0))), (q2, .inl (G.2.1 0, 88, .inl (fun _ => 0))), (q3, .inl (G.2.1 0, 88, .inl (fun _ => 0))), (q4, .inl (G.2.1 0, 8, .inl (fun _ => 0))), (q5, .inl (G.2.1 0, 120, .inl (fun _ => 0))), (q6, .inl (G.2.1 3, 7, .inr (.inr (.inr (.inr (va_up (va_up (va_up (va_up (va_up (va_up (va_up (fun _ => none) 0 (some (qx_ad G (100 + 0)))) 1 (some (qx_ad G (100 + 1)))) 2 (some (qx_ad G (100 + 2)))) 3 (some (qx_ad G (100 + 3)))) 4 (some (qx_ad G (100 + 4)))) 5 (some (qx_ad G (100 + 5)))) 6 (some (qx_ad G (100 + 6))))))))), (q7, .inl (G.2.1 0, 600, .inl (fun _ => 0))), (q8, .inl (G.2.1 0, 4, .inl (fun _ => 0))), (q9, .inl (G.2.1 0, 4, .inl (fun _ => 0))), (q10, .inl (G.2.1 0, 160, .inl (fun _ => 0))), (q11, .inl (G.2.1 0, 40, .inl (fun _ => 0)))] rfl ?_
  refine nk_aloadn C dX6_init_129 130 rfl rfl 0 rfl ?_
  refine nk_get C dX6_init_130 133 rfl qf_X6_9 0 rfl rfl ?_
  refine nk_iconst C (nI 2) dX6_init_133 134 rfl rfl ?_
  refine nk_iconst C (nI 1) dX6_init_134 135 rfl rfl ?_
  refine nk_iast C dX6_init_135 136 rfl 1 rfl 2 rfl (by omega) (by omega) [(q, .inr (6, [.ref q1, .ref q2, .ref q3, .int 0, .ref q4, .ref q5, .int 0, .int 0, .int 0, .int 0, .int 0, .int 0, .ref q6, .ref q7, .int 0, .int 0, .ref q8, .ref q9, .ref q10, .ref q11])), (q1, .inl (G.2.1 0, 88, .inl (upd (fun _ => 0) 2 (nI 1)))), (q2, .inl (G.2.1 0, 88, .inl (fun _ => 0))), (q3, .inl (G.2.1 0, 88, .inl (fun _ => 0))), (q4, .inl (G.2.1 0, 8, .inl (fun _ => 0))), (q5, .inl (G.2.1 0, 120, .inl (fun _ => 0))), (q6, .inl (G.2.1 3, 7, .inr (.inr (.inr (.inr (va_up (va_up (va_up (va_up (va_up (va_up (va_up (fun _ => none) 0 (some (qx_ad G (100 + 0)))) 1 (some (qx_ad G (100 + 1)))) 2 (some (qx_ad G (100 + 2)))) 3 (some (qx_ad G (100 + 3)))) 4 (some (qx_ad G (100 + 4)))) 5 (some (qx_ad G (100 + 5)))) 6 (some (qx_ad G (100 + 6))))))))), (q7, .inl (G.2.1 0, 600, .inl (fun _ => 0))), (q8, .inl (G.2.1 0, 4, .inl (fun _ => 0))), (q9, .inl (G.2.1 0, 4, .inl (fun _ => 0))), (q10, .inl (G.2.1 0, 160, .inl (fun _ => 0))), (q11, .inl (G.2.1 0, 40, .inl (fun _ => 0)))] rfl ?_
  refine nk_iconst C (nI 0) dX6_init_136 137 rfl rfl ?_
  refine nk_istoren C dX6_init_137 138 rfl rfl (by decide) rfl ?_
  refine nk_ws [(q, .inr (6, [.ref q1, .ref q2, .ref q3, .int 0, .ref q4, .ref q5, .int 0, .int 0, .int 0, .int 0, .int 0, .int 0, .ref q6, .ref q7, .int 0, .int 0, .ref q8, .ref q9, .ref q10, .ref q11])), (q1, .inl (G.2.1 0, 88, .inl (z0 0 0))), (q2, .inl (G.2.1 0, 88, .inl (fun _ => 0))), (q3, .inl (G.2.1 0, 88, .inl (fun _ => 0))), (q4, .inl (G.2.1 0, 8, .inl (fun _ => 0))), (q5, .inl (G.2.1 0, 120, .inl (fun _ => 0))), (q6, .inl (G.2.1 3, 7, .inr (.inr (.inr (.inr (va_up (va_up (va_up (va_up (va_up (va_up (va_up (fun _ => none) 0 (some (qx_ad G (100 + 0)))) 1 (some (qx_ad G (100 + 1)))) 2 (some (qx_ad G (100 + 2)))) 3 (some (qx_ad G (100 + 3)))) 4 (some (qx_ad G (100 + 4)))) 5 (some (qx_ad G (100 + 5)))) 6 (some (qx_ad G (100 + 6))))))))), (q7, .inl (G.2.1 0, 600, .inl (fun _ => 0))), (q8, .inl (G.2.1 0, 4, .inl (fun _ => 0))), (q9, .inl (G.2.1 0, 4, .inl (fun _ => 0))), (q10, .inl (G.2.1 0, 160, .inl (fun _ => 0))), (q11, .inl (G.2.1 0, 40, .inl (fun _ => 0)))] (by rw [show upd (fun _ => 0) 2 (nI 1) = z0 0 0 from z0_0]) ?_
  have lp_138 : ∀ (m i : Nat), i ≤ 6 → 6 - i < m → nx_K l G Δ [(q, .inr (6, [.ref q1, .ref q2, .ref q3, .int 0, .ref q4, .ref q5, .int 0, .int 0, .int 0, .int 0, .int 0, .int 0, .ref q6, .ref q7, .int 0, .int 0, .ref q8, .ref q9, .ref q10, .ref q11])), (q1, .inl (G.2.1 0, 88, .inl (z0 i 0))), (q2, .inl (G.2.1 0, 88, .inl (fun _ => 0))), (q3, .inl (G.2.1 0, 88, .inl (fun _ => 0))), (q4, .inl (G.2.1 0, 8, .inl (fun _ => 0))), (q5, .inl (G.2.1 0, 120, .inl (fun _ => 0))), (q6, .inl (G.2.1 3, 7, .inr (.inr (.inr (.inr (va_up (va_up (va_up (va_up (va_up (va_up (va_up (fun _ => none) 0 (some (qx_ad G (100 + 0)))) 1 (some (qx_ad G (100 + 1)))) 2 (some (qx_ad G (100 + 2)))) 3 (some (qx_ad G (100 + 3)))) 4 (some (qx_ad G (100 + 4)))) 5 (some (qx_ad G (100 + 5)))) 6 (some (qx_ad G (100 + 6))))))))), (q7, .inl (G.2.1 0, 600, .inl (fun _ => 0))), (q8, .inl (G.2.1 0, 4, .inl (fun _ => 0))), (q9, .inl (G.2.1 0, 4, .inl (fun _ => 0))), (q10, .inl (G.2.1 0, 160, .inl (fun _ => 0))), (q11, .inl (G.2.1 0, 40, .inl (fun _ => 0)))] 11 1207 138 [(1, .int (nI i)), (0, .ref q)] [] := by
    intro m
    induction m with
    | zero => intro _ _ h9; exact absurd h9 (Nat.not_lt_zero _)
    | succ m ih =>
      intro i hi1 hm
      refine nk_iloadn C dX6_init_138 139 rfl rfl 0 rfl ?_
      refine nk_bipush C (nI 6) dX6_init_139 141 rfl rfl ?_
      refine nk_icmp_ge C dX6_init_141 160 rfl 144 rfl (fun ct => ?_) (fun cf => ?_)
      · have hi6 : i = 6 := by have := (nI_leI (a := 6) (b := i) (by omega) (by omega)).mp ct; omega
        subst hi6
        refine nk_iconst C (nI 0) dX6_init_160 161 rfl rfl ?_
        refine nk_istoren C dX6_init_161 162 rfl rfl (by decide) rfl ?_
        have lp_162 : ∀ (m i : Nat), i ≤ 10 → 10 - i < m → nx_K l G Δ [(q, .inr (6, [.ref q1, .ref q2, .ref q3, .int 0, .ref q4, .ref q5, .int 0, .int 0, .int 0, .int 0, .int 0, .int 0, .ref q6, .ref q7, .int 0, .int 0, .ref q8, .ref q9, .ref q10, .ref q11])), (q1, .inl (G.2.1 0, 88, .inl (z0 6 i))), (q2, .inl (G.2.1 0, 88, .inl (fun _ => 0))), (q3, .inl (G.2.1 0, 88, .inl (fun _ => 0))), (q4, .inl (G.2.1 0, 8, .inl (fun _ => 0))), (q5, .inl (G.2.1 0, 120, .inl (fun _ => 0))), (q6, .inl (G.2.1 3, 7, .inr (.inr (.inr (.inr (va_up (va_up (va_up (va_up (va_up (va_up (va_up (fun _ => none) 0 (some (qx_ad G (100 + 0)))) 1 (some (qx_ad G (100 + 1)))) 2 (some (qx_ad G (100 + 2)))) 3 (some (qx_ad G (100 + 3)))) 4 (some (qx_ad G (100 + 4)))) 5 (some (qx_ad G (100 + 5)))) 6 (some (qx_ad G (100 + 6))))))))), (q7, .inl (G.2.1 0, 600, .inl (fun _ => 0))), (q8, .inl (G.2.1 0, 4, .inl (fun _ => 0))), (q9, .inl (G.2.1 0, 4, .inl (fun _ => 0))), (q10, .inl (G.2.1 0, 160, .inl (fun _ => 0))), (q11, .inl (G.2.1 0, 40, .inl (fun _ => 0)))] 11 1207 162 [(1, .int (nI i)), (0, .ref q)] [] := by
          intro m
          induction m with
          | zero => intro _ _ h9; exact absurd h9 (Nat.not_lt_zero _)
          | succ m ih =>
            intro i hi1 hm
            refine nk_iloadn C dX6_init_162 163 rfl rfl 0 rfl ?_
            refine nk_bipush C (nI 10) dX6_init_163 165 rfl rfl ?_
            refine nk_icmp_ge C dX6_init_165 184 rfl 168 rfl (fun ct => ?_) (fun cf => ?_)
            · have hi6 : i = 10 := by have := (nI_leI (a := 10) (b := i) (by omega) (by omega)).mp ct; omega
              subst hi6
              exact hret _ _ _ dX6_init_184 (⟨fun i => [q1, q2, q3, q4, q5, q6, q7, q8, q9, q10, q11].getD i 0, _, n_7 rfl rfl rfl rfl rfl rfl rfl, rfl⟩)
            · have hi6 : i < 10 := Nat.not_le.mp (fun q => cf (nI_le q (by omega)))
              refine nk_aloadn C dX6_init_168 169 rfl rfl 1 rfl ?_
              refine nk_get C dX6_init_169 172 rfl qf_X6_9 0 rfl rfl ?_
              refine nk_bipush C (nI 22) dX6_init_172 174 rfl rfl ?_
              refine nk_iloadn C dX6_init_174 175 rfl rfl 0 rfl ?_
              refine nk_iadd C dX6_init_175 176 rfl ?_
              refine nk_iconst C (-1) dX6_init_176 177 rfl rfl ?_
              refine nk_iast C dX6_init_177 178 rfl 1 rfl (22 + i) (nI_add 22 i) (by omega) (by omega) [(q, .inr (6, [.ref q1, .ref q2, .ref q3, .int 0, .ref q4, .ref q5, .int 0, .int 0, .int 0, .int 0, .int 0, .int 0, .ref q6, .ref q7, .int 0, .int 0, .ref q8, .ref q9, .ref q10, .ref q11])), (q1, .inl (G.2.1 0, 88, .inl (upd (z0 6 i) (22 + i) (-1)))), (q2, .inl (G.2.1 0, 88, .inl (fun _ => 0))), (q3, .inl (G.2.1 0, 88, .inl (fun _ => 0))), (q4, .inl (G.2.1 0, 8, .inl (fun _ => 0))), (q5, .inl (G.2.1 0, 120, .inl (fun _ => 0))), (q6, .inl (G.2.1 3, 7, .inr (.inr (.inr (.inr (va_up (va_up (va_up (va_up (va_up (va_up (va_up (fun _ => none) 0 (some (qx_ad G (100 + 0)))) 1 (some (qx_ad G (100 + 1)))) 2 (some (qx_ad G (100 + 2)))) 3 (some (qx_ad G (100 + 3)))) 4 (some (qx_ad G (100 + 4)))) 5 (some (qx_ad G (100 + 5)))) 6 (some (qx_ad G (100 + 6))))))))), (q7, .inl (G.2.1 0, 600, .inl (fun _ => 0))), (q8, .inl (G.2.1 0, 4, .inl (fun _ => 0))), (q9, .inl (G.2.1 0, 4, .inl (fun _ => 0))), (q10, .inl (G.2.1 0, 160, .inl (fun _ => 0))), (q11, .inl (G.2.1 0, 40, .inl (fun _ => 0)))] rfl ?_
              refine nk_ws [(q, .inr (6, [.ref q1, .ref q2, .ref q3, .int 0, .ref q4, .ref q5, .int 0, .int 0, .int 0, .int 0, .int 0, .int 0, .ref q6, .ref q7, .int 0, .int 0, .ref q8, .ref q9, .ref q10, .ref q11])), (q1, .inl (G.2.1 0, 88, .inl (z0 6 (i + 1)))), (q2, .inl (G.2.1 0, 88, .inl (fun _ => 0))), (q3, .inl (G.2.1 0, 88, .inl (fun _ => 0))), (q4, .inl (G.2.1 0, 8, .inl (fun _ => 0))), (q5, .inl (G.2.1 0, 120, .inl (fun _ => 0))), (q6, .inl (G.2.1 3, 7, .inr (.inr (.inr (.inr (va_up (va_up (va_up (va_up (va_up (va_up (va_up (fun _ => none) 0 (some (qx_ad G (100 + 0)))) 1 (some (qx_ad G (100 + 1)))) 2 (some (qx_ad G (100 + 2)))) 3 (some (qx_ad G (100 + 3)))) 4 (some (qx_ad G (100 + 4)))) 5 (some (qx_ad G (100 + 5)))) 6 (some (qx_ad G (100 + 6))))))))), (q7, .inl (G.2.1 0, 600, .inl (fun _ => 0))), (q8, .inl (G.2.1 0, 4, .inl (fun _ => 0))), (q9, .inl (G.2.1 0, 4, .inl (fun _ => 0))), (q10, .inl (G.2.1 0, 160, .inl (fun _ => 0))), (q11, .inl (G.2.1 0, 40, .inl (fun _ => 0)))] (by rw [show upd (z0 6 i) (22 + i) (-1) = z0 6 (i + 1) from z0_b (Nat.le_refl 6)]) ?_
              refine nk_iinc C (nI (i + 1)) dX6_init_178 181 rfl 0 rfl (nI_1 i) (by decide) rfl ?_
              refine nk_goto C dX6_init_181 162 rfl ?_
              exact ih (i + 1) (by omega) (by omega)
        exact lp_162 _ 0 (Nat.zero_le _) (Nat.lt_succ_self _)
      · have hi6 : i < 6 := Nat.not_le.mp (fun q => cf (nI_le q (by omega)))
        refine nk_aloadn C dX6_init_144 145 rfl rfl 1 rfl ?_
        refine nk_get C dX6_init_145 148 rfl qf_X6_9 0 rfl rfl ?_
        refine nk_iconst C (nI 4) dX6_init_148 149 rfl rfl ?_
        refine nk_iloadn C dX6_init_149 150 rfl rfl 0 rfl ?_
        refine nk_iadd C dX6_init_150 151 rfl ?_
        refine nk_bipush C (nI 12) dX6_init_151 153 rfl rfl ?_
        refine nk_iast C dX6_init_153 154 rfl 1 rfl (4 + i) (nI_add 4 i) (by omega) (by omega) [(q, .inr (6, [.ref q1, .ref q2, .ref q3, .int 0, .ref q4, .ref q5, .int 0, .int 0, .int 0, .int 0, .int 0, .int 0, .ref q6, .ref q7, .int 0, .int 0, .ref q8, .ref q9, .ref q10, .ref q11])), (q1, .inl (G.2.1 0, 88, .inl (upd (z0 i 0) (4 + i) (nI 12)))), (q2, .inl (G.2.1 0, 88, .inl (fun _ => 0))), (q3, .inl (G.2.1 0, 88, .inl (fun _ => 0))), (q4, .inl (G.2.1 0, 8, .inl (fun _ => 0))), (q5, .inl (G.2.1 0, 120, .inl (fun _ => 0))), (q6, .inl (G.2.1 3, 7, .inr (.inr (.inr (.inr (va_up (va_up (va_up (va_up (va_up (va_up (va_up (fun _ => none) 0 (some (qx_ad G (100 + 0)))) 1 (some (qx_ad G (100 + 1)))) 2 (some (qx_ad G (100 + 2)))) 3 (some (qx_ad G (100 + 3)))) 4 (some (qx_ad G (100 + 4)))) 5 (some (qx_ad G (100 + 5)))) 6 (some (qx_ad G (100 + 6))))))))), (q7, .inl (G.2.1 0, 600, .inl (fun _ => 0))), (q8, .inl (G.2.1 0, 4, .inl (fun _ => 0))), (q9, .inl (G.2.1 0, 4, .inl (fun _ => 0))), (q10, .inl (G.2.1 0, 160, .inl (fun _ => 0))), (q11, .inl (G.2.1 0, 40, .inl (fun _ => 0)))] rfl ?_
        refine nk_ws [(q, .inr (6, [.ref q1, .ref q2, .ref q3, .int 0, .ref q4, .ref q5, .int 0, .int 0, .int 0, .int 0, .int 0, .int 0, .ref q6, .ref q7, .int 0, .int 0, .ref q8, .ref q9, .ref q10, .ref q11])), (q1, .inl (G.2.1 0, 88, .inl (z0 (i + 1) 0))), (q2, .inl (G.2.1 0, 88, .inl (fun _ => 0))), (q3, .inl (G.2.1 0, 88, .inl (fun _ => 0))), (q4, .inl (G.2.1 0, 8, .inl (fun _ => 0))), (q5, .inl (G.2.1 0, 120, .inl (fun _ => 0))), (q6, .inl (G.2.1 3, 7, .inr (.inr (.inr (.inr (va_up (va_up (va_up (va_up (va_up (va_up (va_up (fun _ => none) 0 (some (qx_ad G (100 + 0)))) 1 (some (qx_ad G (100 + 1)))) 2 (some (qx_ad G (100 + 2)))) 3 (some (qx_ad G (100 + 3)))) 4 (some (qx_ad G (100 + 4)))) 5 (some (qx_ad G (100 + 5)))) 6 (some (qx_ad G (100 + 6))))))))), (q7, .inl (G.2.1 0, 600, .inl (fun _ => 0))), (q8, .inl (G.2.1 0, 4, .inl (fun _ => 0))), (q9, .inl (G.2.1 0, 4, .inl (fun _ => 0))), (q10, .inl (G.2.1 0, 160, .inl (fun _ => 0))), (q11, .inl (G.2.1 0, 40, .inl (fun _ => 0)))] (by rw [show upd (z0 i 0) (4 + i) (nI 12) = z0 (i + 1) 0 from z0_a hi6]) ?_
        refine nk_iinc C (nI (i + 1)) dX6_init_154 157 rfl 0 rfl (nI_1 i) (by decide) rfl ?_
        refine nk_goto C dX6_init_157 138 rfl ?_
        exact ih (i + 1) (by omega) (by omega)
  exact lp_138 _ 0 (Nat.zero_le _) (Nat.lt_succ_self _)
