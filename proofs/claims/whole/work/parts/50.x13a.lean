/-! the law: its loop -/
abbrev law_lo (G : qx_G) (b i : Nat) : List (Nat × Value) := [(3, .int (nI i)), (0, .ref b), (1, .ref (qx_ad G 0)), (2, .ref (qx_ad G 53))]
theorem law_lt {i L : Nat} (hi : i ≤ 8000) (hL : L ≤ 3072) : nI L - 6 < nI i ↔ L < i + 6 := by
  rw [Int32.lt_iff_toInt_lt, show (6 : Int32) = nI 6 from rfl, pk_sub_toInt (by omega) (by omega), nI_toInt (by omega)]
  omega
theorem law_arm (l : Launch) (G : qx_G) {Δ : qx_T} (C : qx_C G Δ cL_law RL 4 12 474) {b L : Nat} {xs : Nat → Int32} (S : qx_Sc Δ b L xs) (i : Nat) (hi : i + 6 ≤ L) (σ : qx_Sg) (h : rel σ) (next : ∀ σ2, rel σ2 → qx_K l G Δ σ2 1426 (law_lo G b i) []) (x : Int32) : qx_K l G Δ σ 33 (law_lo G b i) [.int x] := by
  refine qk_eqc (0) (fun c => qk_tableIn C dL_law_33 (0) c (by decide) (by decide) rfl 212 rfl (law_0 l G C S i hi σ h next)) (fun c_0 => ?_)
  refine qk_eqc (1) (fun c => qk_tableIn C dL_law_33 (1) c (by decide) (by decide) rfl 245 rfl (law_1 l G C S i hi σ h next)) (fun c_1 => ?_)
  refine qk_eqc (2) (fun c => qk_tableIn C dL_law_33 (2) c (by decide) (by decide) rfl 268 rfl (law_2 l G C S i hi σ h next)) (fun c_2 => ?_)
  refine qk_eqc (3) (fun c => qk_tableIn C dL_law_33 (3) c (by decide) (by decide) rfl 291 rfl (law_3 l G C S i hi σ h next)) (fun c_3 => ?_)
  refine qk_eqc (4) (fun c => qk_tableIn C dL_law_33 (4) c (by decide) (by decide) rfl 324 rfl (law_4 l G C S i hi σ h next)) (fun c_4 => ?_)
  refine qk_eqc (5) (fun c => qk_tableIn C dL_law_33 (5) c (by decide) (by decide) rfl 357 rfl (law_5 l G C S i hi σ h next)) (fun c_5 => ?_)
  refine qk_eqc (6) (fun c => qk_tableIn C dL_law_33 (6) c (by decide) (by decide) rfl 400 rfl (law_6 l G C S i hi σ h next)) (fun c_6 => ?_)
  refine qk_eqc (7) (fun c => qk_tableIn C dL_law_33 (7) c (by decide) (by decide) rfl 433 rfl (law_7 l G C S i hi σ h next)) (fun c_7 => ?_)
  refine qk_eqc (8) (fun c => qk_tableIn C dL_law_33 (8) c (by decide) (by decide) rfl 456 rfl (law_8 l G C S i hi σ h next)) (fun c_8 => ?_)
  refine qk_eqc (9) (fun c => qk_tableIn C dL_law_33 (9) c (by decide) (by decide) rfl 489 rfl (law_9 l G C S i hi σ h next)) (fun c_9 => ?_)
  refine qk_eqc (10) (fun c => qk_tableIn C dL_law_33 (10) c (by decide) (by decide) rfl 512 rfl (law_10 l G C S i hi σ h next)) (fun c_10 => ?_)
  refine qk_eqc (11) (fun c => qk_tableIn C dL_law_33 (11) c (by decide) (by decide) rfl 535 rfl (law_11 l G C S i hi σ h next)) (fun c_11 => ?_)
  refine qk_eqc (12) (fun c => qk_tableIn C dL_law_33 (12) c (by decide) (by decide) rfl 578 rfl (law_12 l G C S i hi σ h next)) (fun c_12 => ?_)
  refine qk_eqc (13) (fun c => qk_tableIn C dL_law_33 (13) c (by decide) (by decide) rfl 601 rfl (law_13 l G C S i hi σ h next)) (fun c_13 => ?_)
  refine qk_eqc (14) (fun c => qk_tableIn C dL_law_33 (14) c (by decide) (by decide) rfl 634 rfl (law_14 l G C S i hi σ h next)) (fun c_14 => ?_)
  refine qk_eqc (15) (fun c => qk_tableIn C dL_law_33 (15) c (by decide) (by decide) rfl 657 rfl (law_15 l G C S i hi σ h next)) (fun c_15 => ?_)
  refine qk_eqc (16) (fun c => qk_tableIn C dL_law_33 (16) c (by decide) (by decide) rfl 690 rfl (law_16 l G C S i hi σ h next)) (fun c_16 => ?_)
  refine qk_eqc (17) (fun c => qk_tableIn C dL_law_33 (17) c (by decide) (by decide) rfl 733 rfl (law_17 l G C S i hi σ h next)) (fun c_17 => ?_)
  refine qk_eqc (18) (fun c => qk_tableIn C dL_law_33 (18) c (by decide) (by decide) rfl 776 rfl (law_18 l G C S i hi σ h next)) (fun c_18 => ?_)
  refine qk_eqc (19) (fun c => qk_tableIn C dL_law_33 (19) c (by decide) (by decide) rfl 809 rfl (law_19 l G C S i hi σ h next)) (fun c_19 => ?_)
  refine qk_eqc (20) (fun c => qk_tableIn C dL_law_33 (20) c (by decide) (by decide) rfl 842 rfl (law_20 l G C S i hi σ h next)) (fun c_20 => ?_)
  refine qk_eqc (21) (fun c => qk_tableIn C dL_law_33 (21) c (by decide) (by decide) rfl 865 rfl (law_21 l G C S i hi σ h next)) (fun c_21 => ?_)
  refine qk_eqc (22) (fun c => qk_tableIn C dL_law_33 (22) c (by decide) (by decide) rfl 898 rfl (law_22 l G C S i hi σ h next)) (fun c_22 => ?_)
  refine qk_eqc (23) (fun c => qk_tableIn C dL_law_33 (23) c (by decide) (by decide) rfl 931 rfl (law_23 l G C S i hi σ h next)) (fun c_23 => ?_)
  refine qk_eqc (24) (fun c => qk_tableIn C dL_law_33 (24) c (by decide) (by decide) rfl 954 rfl (law_24 l G C S i hi σ h next)) (fun c_24 => ?_)
  refine qk_eqc (25) (fun c => qk_tableIn C dL_law_33 (25) c (by decide) (by decide) rfl 998 rfl (law_25 l G C S i hi σ h next)) (fun c_25 => ?_)
  refine qk_eqc (26) (fun c => qk_tableIn C dL_law_33 (26) c (by decide) (by decide) rfl 1021 rfl (law_26 l G C S i hi σ h next)) (fun c_26 => ?_)
  refine qk_eqc (27) (fun c => qk_tableIn C dL_law_33 (27) c (by decide) (by decide) rfl 1054 rfl (law_27 l G C S i hi σ h next)) (fun c_27 => ?_)
  refine qk_eqc (28) (fun c => qk_tableIn C dL_law_33 (28) c (by decide) (by decide) rfl 1067 rfl (law_28 l G C S i hi σ h next)) (fun c_28 => ?_)
  refine qk_eqc (29) (fun c => qk_tableIn C dL_law_33 (29) c (by decide) (by decide) rfl 1080 rfl (law_29 l G C S i hi σ h next)) (fun c_29 => ?_)
  refine qk_eqc (30) (fun c => qk_tableIn C dL_law_33 (30) c (by decide) (by decide) rfl 1113 rfl (law_30 l G C S i hi σ h next)) (fun c_30 => ?_)
  refine qk_eqc (31) (fun c => qk_tableIn C dL_law_33 (31) c (by decide) (by decide) rfl 1146 rfl (law_31 l G C S i hi σ h next)) (fun c_31 => ?_)
  refine qk_eqc (32) (fun c => qk_tableIn C dL_law_33 (32) c (by decide) (by decide) rfl 1189 rfl (law_32 l G C S i hi σ h next)) (fun c_32 => ?_)
  refine qk_eqc (33) (fun c => qk_tableIn C dL_law_33 (33) c (by decide) (by decide) rfl 1232 rfl (law_33 l G C S i hi σ h next)) (fun c_33 => ?_)
  refine qk_eqc (34) (fun c => qk_tableIn C dL_law_33 (34) c (by decide) (by decide) rfl 1295 rfl (law_34 l G C S i hi σ h next)) (fun c_34 => ?_)
  refine qk_eqc (35) (fun c => qk_tableIn C dL_law_33 (35) c (by decide) (by decide) rfl 1318 rfl (law_35 l G C S i hi σ h next)) (fun c_35 => ?_)
  refine qk_eqc (36) (fun c => qk_tableIn C dL_law_33 (36) c (by decide) (by decide) rfl 1341 rfl (law_36 l G C S i hi σ h next)) (fun c_36 => ?_)
  refine qk_eqc (37) (fun c => qk_tableIn C dL_law_33 (37) c (by decide) (by decide) rfl 1354 rfl (law_37 l G C S i hi σ h next)) (fun c_37 => ?_)
  refine qk_eqc (38) (fun c => qk_tableIn C dL_law_33 (38) c (by decide) (by decide) rfl 1367 rfl (law_38 l G C S i hi σ h next)) (fun c_38 => ?_)
  refine qk_eqc (39) (fun c => qk_tableIn C dL_law_33 (39) c (by decide) (by decide) rfl 1380 rfl (law_39 l G C S i hi σ h next)) (fun c_39 => ?_)
  refine qk_eqc (40) (fun c => qk_tableIn C dL_law_33 (40) c (by decide) (by decide) rfl 1403 rfl (law_40 l G C S i hi σ h next)) (fun c_40 => ?_)
  refine qk_tableOut C dL_law_33 ?_ 1426 rfl (next σ h)
  have h0 := lv_neT c_0 (show (0 : Int32).toInt = 0 from rfl)
  have h1 := lv_neT c_1 (show (1 : Int32).toInt = 1 from rfl)
  have h2 := lv_neT c_2 (show (2 : Int32).toInt = 2 from rfl)
  have h3 := lv_neT c_3 (show (3 : Int32).toInt = 3 from rfl)
  have h4 := lv_neT c_4 (show (4 : Int32).toInt = 4 from rfl)
  have h5 := lv_neT c_5 (show (5 : Int32).toInt = 5 from rfl)
  have h6 := lv_neT c_6 (show (6 : Int32).toInt = 6 from rfl)
  have h7 := lv_neT c_7 (show (7 : Int32).toInt = 7 from rfl)
  have h8 := lv_neT c_8 (show (8 : Int32).toInt = 8 from rfl)
  have h9 := lv_neT c_9 (show (9 : Int32).toInt = 9 from rfl)
  have h10 := lv_neT c_10 (show (10 : Int32).toInt = 10 from rfl)
  have h11 := lv_neT c_11 (show (11 : Int32).toInt = 11 from rfl)
  have h12 := lv_neT c_12 (show (12 : Int32).toInt = 12 from rfl)
  have h13 := lv_neT c_13 (show (13 : Int32).toInt = 13 from rfl)
  have h14 := lv_neT c_14 (show (14 : Int32).toInt = 14 from rfl)
  have h15 := lv_neT c_15 (show (15 : Int32).toInt = 15 from rfl)
  have h16 := lv_neT c_16 (show (16 : Int32).toInt = 16 from rfl)
  have h17 := lv_neT c_17 (show (17 : Int32).toInt = 17 from rfl)
  have h18 := lv_neT c_18 (show (18 : Int32).toInt = 18 from rfl)
  have h19 := lv_neT c_19 (show (19 : Int32).toInt = 19 from rfl)
  have h20 := lv_neT c_20 (show (20 : Int32).toInt = 20 from rfl)
  have h21 := lv_neT c_21 (show (21 : Int32).toInt = 21 from rfl)
  have h22 := lv_neT c_22 (show (22 : Int32).toInt = 22 from rfl)
  have h23 := lv_neT c_23 (show (23 : Int32).toInt = 23 from rfl)
  have h24 := lv_neT c_24 (show (24 : Int32).toInt = 24 from rfl)
  have h25 := lv_neT c_25 (show (25 : Int32).toInt = 25 from rfl)
  have h26 := lv_neT c_26 (show (26 : Int32).toInt = 26 from rfl)
  have h27 := lv_neT c_27 (show (27 : Int32).toInt = 27 from rfl)
  have h28 := lv_neT c_28 (show (28 : Int32).toInt = 28 from rfl)
  have h29 := lv_neT c_29 (show (29 : Int32).toInt = 29 from rfl)
  have h30 := lv_neT c_30 (show (30 : Int32).toInt = 30 from rfl)
  have h31 := lv_neT c_31 (show (31 : Int32).toInt = 31 from rfl)
  have h32 := lv_neT c_32 (show (32 : Int32).toInt = 32 from rfl)
  have h33 := lv_neT c_33 (show (33 : Int32).toInt = 33 from rfl)
  have h34 := lv_neT c_34 (show (34 : Int32).toInt = 34 from rfl)
  have h35 := lv_neT c_35 (show (35 : Int32).toInt = 35 from rfl)
  have h36 := lv_neT c_36 (show (36 : Int32).toInt = 36 from rfl)
  have h37 := lv_neT c_37 (show (37 : Int32).toInt = 37 from rfl)
  have h38 := lv_neT c_38 (show (38 : Int32).toInt = 38 from rfl)
  have h39 := lv_neT c_39 (show (39 : Int32).toInt = 39 from rfl)
  have h40 := lv_neT c_40 (show (40 : Int32).toInt = 40 from rfl)
  omega
theorem law_st (l : Launch) (G : qx_G) {Δ : qx_T} (C : qx_C G Δ cL_law RL 4 12 474) {b L : Nat} {xs : Nat → Int32} (S : qx_Sc Δ b L xs) (i : Nat) (σ : qx_Sg) (h : rel σ) (hi : i ≤ 8000) (fin : qx_K l G Δ σ 1432 (law_lo G b i) []) (next : i + 6 ≤ L → ∀ σ2, rel σ2 → qx_K l G Δ σ2 18 (law_lo G b (i + 6)) []) : qx_K l G Δ σ 18 (law_lo G b i) [] := by
  refine qk_iloadn C dL_law_18 19 rfl rfl 0 rfl ?_
  refine qk_aloadn C dL_law_19 20 rfl rfl 1 rfl ?_
  refine qk_slen2 C S dL_law_20 21 rfl ?_
  refine qk_bipush C (6) dL_law_21 23 rfl rfl ?_
  refine qk_isub C dL_law_23 24 rfl ?_
  refine qk_icmp_gt C dL_law_24 1432 rfl 27 rfl (fun _ => fin) (fun c0 => ?_)
  have hi6 : i + 6 ≤ L := by
    rw [law_lt hi S.2.2.2] at c0
    omega
  refine qk_aloadn C dL_law_27 28 rfl rfl 1 rfl ?_
  refine qk_iloadn C dL_law_28 29 rfl rfl 0 rfl ?_
  refine qk_sld C S dL_law_29 30 rfl i rfl (by omega) ?_
  refine qk_bipush C (63) dL_law_30 32 rfl rfl ?_
  refine qk_iand C dL_law_32 33 rfl ?_
  refine law_arm l G C S i hi6 σ h (fun σ2 h2 => ?_) _
  refine qk_iinc C (nI (i + 6)) dL_law_1426 1429 rfl 0 rfl (nI_add i 6) (by decide) rfl ?_
  exact qk_goto C dL_law_1429 18 rfl (next hi6 σ2 h2)
theorem law_go (l : Launch) (G : qx_G) {Δ : qx_T} (C : qx_C G Δ cL_law RL 4 12 474) {b L : Nat} {xs : Nat → Int32} (S : qx_Sc Δ b L xs) (fin : ∀ (i : Nat) (σ : qx_Sg), qx_K l G Δ σ 1432 (law_lo G b i) []) : ∀ (d i : Nat) (σ : qx_Sg), rel σ → L + 6 ≤ i + d → i ≤ 8000 → qx_K l G Δ σ 18 (law_lo G b i) [] := by
  intro d
  induction d with
  | zero => exact fun i σ h h1 h2 => law_st l G C S i σ h h2 (fin i σ) (fun h3 => absurd h3 (by omega))
  | succ d ih => exact fun i σ h h1 h2 => law_st l G C S i σ h h2 (fin i σ) (fun h3 σ2 h4 => ih (i + 6) σ2 h4 (by omega) (by have := S.2.2.2; omega))
