/-! the methods of BustRest$Library, over a library L that holds the row v, N busts of it -/
theorem cL_X0_hasPart (l : Launch) (G : qx_G) (L N b : Nat) (hL : qx_isL L) (hN8 : N ≤ 8) (hb : b < N) (σ : qx_Sg) (v : Nat → Int32) (p : Int32) : qx_Ct l G yX0_hasPart cX0_hasPart 2 (some .boolean) 0 0 [.ref (qx_ad G (L + 5 + b)), .int p] (qL σ L N v) (qx_pi (qb (z_hs (v (32 + 7 * b + 2)) p)) (qL σ L N v)) := by
  have h := c_X0_hasPart l G (L + 5 + b) (qx_isB.of hL (show b < 8 by omega)) (qL σ L N v) p
  rw [qL_b hb] at h
  exact h
theorem cL_X0_takes (l : Launch) (G : qx_G) (L N b : Nat) (hL : qx_isL L) (hN8 : N ≤ 8) (hb : b < N) (σ : qx_Sg) (v : Nat → Int32) (p : Int32) : qx_Ct l G yX0_takes cX0_takes 5 (some .boolean) 1 21 [.ref (qx_ad G (L + 5 + b)), .int p] (qL σ L N v) (qx_pi (qb (z_tk (v (32 + 7 * b + 0)) (v (32 + 7 * b + 2)) p)) (qL σ L N v)) := by
  have h := c_X0_takes l G (L + 5 + b) (qx_isB.of hL (show b < 8 by omega)) (qL σ L N v) p
  rw [qL_b hb] at h
  exact h
theorem cL_X0_yearnsMore (l : Launch) (G : qx_G) (L N b : Nat) (hL : qx_isL L) (hN8 : N ≤ 8) (hb : b < N) (σ : qx_Sg) (v : Nat → Int32)  : qx_Ct l G yX0_yearnsMore cX0_yearnsMore 5 (some .int) 1 21 [.ref (qx_ad G (L + 5 + b))] (qL σ L N v) (qx_pi (z_yn (v (32 + 7 * b + 0)) (v (32 + 7 * b + 2))) (qL σ L N v)) := by
  have h := c_X0_yearnsMore l G (L + 5 + b) (qx_isB.of hL (show b < 8 by omega)) (qL σ L N v) 
  rw [qL_b hb] at h
  exact h
theorem cL_X0_stepsInADay (l : Launch) (G : qx_G) (L N b : Nat) (hL : qx_isL L) (hN8 : N ≤ 8) (hb : b < N) (σ : qx_Sg) (v : Nat → Int32)  : qx_Ct l G yX0_stepsInADay cX0_stepsInADay 4 (some .int) 1 21 [.ref (qx_ad G (L + 5 + b))] (qL σ L N v) (qx_pi (z_st (v (32 + 7 * b + 0)) (v (32 + 7 * b + 2))) (qL σ L N v)) := by
  have h := c_X0_stepsInADay l G (L + 5 + b) (qx_isB.of hL (show b < 8 by omega)) (qL σ L N v) 
  rw [qL_b hb] at h
  exact h
theorem cL_X0_says (l : Launch) (G : qx_G) (L N b : Nat) (hL : qx_isL L) (hN8 : N ≤ 8) (hb : b < N) (σ : qx_Sg) (v : Nat → Int32)  : qx_Ct l G yX0_says cX0_says 5 (some .int) 2 42 [.ref (qx_ad G (L + 5 + b))] (qL σ L N v) (qx_pi (z_say (z_row v b)) (qL σ L N v)) := by
  have h := c_X0_says l G (L + 5 + b) (qx_isB.of hL (show b < 8 by omega)) (qL σ L N v) 
  rw [qL_b hb] at h
  exact h
theorem cL_X0_told (l : Launch) (G : qx_G) (L N b : Nat) (hL : qx_isL L) (hN8 : N ≤ 8) (hb : b < N) (σ : qx_Sg) (v : Nat → Int32) (w : Int32) : qx_Ct l G yX0_told cX0_told 2 (some .int) 3 66 [.ref (qx_ad G (L + 5 + b)), .int w] (qL σ L N v) (qx_pi (z_tell (z_row v b) w) (qL σ L N v)) := by
  have h := c_X0_told l G (L + 5 + b) (qx_isB.of hL (show b < 8 by omega)) (qL σ L N v) w
  rw [qL_b hb] at h
  exact h
theorem cL_X0_wouldWalk (l : Launch) (G : qx_G) (L N b : Nat) (hL : qx_isL L) (hN8 : N ≤ 8) (hb : b < N) (σ : qx_Sg) (v : Nat → Int32)  : qx_Ct l G yX0_wouldWalk cX0_wouldWalk 1 (some .boolean) 1 23 [.ref (qx_ad G (L + 5 + b))] (qL σ L N v) (qx_pi (qb (z_ww (z_row v b))) (qL σ L N v)) := by
  have h := c_X0_wouldWalk l G (L + 5 + b) (qx_isB.of hL (show b < 8 by omega)) (qL σ L N v) 
  rw [qL_b hb] at h
  exact h
theorem cL_X0_takesBehind (l : Launch) (G : qx_G) (L N b : Nat) (hL : qx_isL L) (hN8 : N ≤ 8) (hb : b < N) (σ : qx_Sg) (v : Nat → Int32) (p : Int32) : qx_Ct l G yX0_takesBehind cX0_takesBehind 4 (some .boolean) 2 45 [.ref (qx_ad G (L + 5 + b)), .int p] (qL σ L N v) (qx_pi (qb (z_tkb (v (32 + 7 * b + 0)) (v (32 + 7 * b + 2)) p)) (qL σ L N v)) := by
  have h := c_X0_takesBehind l G (L + 5 + b) (qx_isB.of hL (show b < 8 by omega)) (qL σ L N v) p
  rw [qL_b hb] at h
  exact h
theorem cL_X0_pathUpTo (l : Launch) (G : qx_G) (L N b : Nat) (hL : qx_isL L) (hN8 : N ≤ 8) (hb : b < N) (σ : qx_Sg) (v : Nat → Int32) (p : Nat) (hp : p < 12) : qx_Ct l G yX0_pathUpTo cX0_pathUpTo 4 (some .int) 3 68 [.ref (qx_ad G (L + 5 + b)), .int (nI p)] (qL σ L N v) (qx_pi (z_pF (v (32 + 7 * b + 0)) (v (32 + 7 * b + 2)) p 0) (qL σ L N v)) := by
  have h := c_X0_pathUpTo l G (L + 5 + b) (qx_isB.of hL (show b < 8 by omega)) (qL σ L N v) p hp
  rw [qL_b hb] at h
  exact h
theorem cL_X0_isA (l : Launch) (G : qx_G) (L N b : Nat) (hL : qx_isL L) (hN8 : N ≤ 8) (hb : b < N) (σ : qx_Sg) (v : Nat → Int32) (j : Nat) (hj : v (32 + 7 * b + 0) = nI j) (hj7 : j < 7) (w : Int32) : qx_Ct l G yX0_isA cX0_isA 4 (some .boolean) 0 0 [.ref (qx_ad G (L + 5 + b)), .int w] (qL σ L N v) (qx_pi (qb (z_is j w)) (qL σ L N v)) := by
  exact c_X0_isA l G (L + 5 + b) (qx_isB.of hL (show b < 8 by omega)) (qL σ L N v) j ((qL_bf hb 0).trans hj) hj7 w
theorem cL_X0_receive (l : Launch) (G : qx_G) (L N b : Nat) (hL : qx_isL L) (hN8 : N ≤ 8) (hb : b < N) (σ : qx_Sg) (v : Nat → Int32) (p : Int32) : qx_Ct l G yX0_receive cX0_receive 2 none 0 0 [.ref (qx_ad G (L + 5 + b)), .int p] (qL σ L N v) (qx_pv (qL σ L N (upd v (32 + 7 * b + 2) (z_rc (v (32 + 7 * b + 2)) p)))) := by
  refine (c_X0_receive l G (L + 5 + b) (qx_isB.of hL (show b < 8 by omega)) (qL σ L N v) p).cg (fun _ _ => rfl) (qx_pv_cg (fun k hk => ?_))
  rw [qL_bf hb 2, qL_wb hL hN8 hb 2 (by omega) _ k hk]
theorem cL_X0_yearn (l : Launch) (G : qx_G) (L N b : Nat) (hL : qx_isL L) (hN8 : N ≤ 8) (hb : b < N) (σ : qx_Sg) (v : Nat → Int32) (m : Int32) : qx_Ct l G yX0_yearn cX0_yearn 2 none 1 21 [.ref (qx_ad G (L + 5 + b)), .int m] (qL σ L N v) (qx_pv (qL σ L N (upd v (32 + 7 * b + 4) (qx_mn 99 (v (32 + 7 * b + 4) + m))))) := by
  refine (c_X0_yearn l G (L + 5 + b) (qx_isB.of hL (show b < 8 by omega)) (qL σ L N v) m).cg (fun _ _ => rfl) (qx_pv_cg (fun k hk => ?_))
  rw [qL_bf hb 4, qL_wb hL hN8 hb 4 (by omega) _ k hk]
theorem cL_X0_become (l : Launch) (G : qx_G) (L N b : Nat) (hL : qx_isL L) (hN8 : N ≤ 8) (hb : b < N) (σ : qx_Sg) (v : Nat → Int32) (w : Nat) (hw : w < 7) (x : Int32) : qx_Ct l G yX0_become cX0_become 3 none 0 0 [.ref (qx_ad G (L + 5 + b)), .int (nI w), .int x] (qL σ L N v) (qx_pv (qL σ L N (upd v (32 + 7 * b + w) (x)))) := by
  refine (c_X0_become l G (L + 5 + b) (qx_isB.of hL (show b < 8 by omega)) (qL σ L N v) w hw x).cg (fun _ _ => rfl) (qx_pv_cg (fun k hk => ?_))
  rw [qL_wb hL hN8 hb w (by omega) _ k hk]
theorem c_X1_placeToday (l : Launch) (G : qx_G) (L N : Nat) (hL : qx_isL L) (σ : qx_Sg) (v : Nat → Int32) (d : Nat) (hd : d ≤ 99999) (ed : v 0 = nI d) : qx_Ct l G yX1_placeToday cX1_placeToday 1 (some .int) 0 0 [.ref (qx_ad G L)] (qL σ L N v) (qx_pi (nI (d % 6)) (qL σ L N v)) := by
  refine qx_of .int (lo := [(0, .ref (qx_ad G L))]) (by decide +kernel) (Nat.le_of_ble_eq_true rfl) rfl (fun Δ (C : qx_C G Δ cX1_placeToday RX1 1 0 0) hret => ?_)
  refine qk_aloadn C dX1_placeToday_0 1 rfl rfl 0 rfl ?_
  refine qk_get C dX1_placeToday_1 4 rfl qf_X1_9 _ hL.l65 (qx_Fl hL _) rfl ?_
  refine qk_cast qL_j0 ?_
  refine qk_cast ed ?_
  refine qk_bipush C (nI 6) dX1_placeToday_4 6 rfl rfl ?_
  refine qk_irem C dX1_placeToday_6 7 rfl (nI_ne0 (by omega) (by omega)) ?_
  exact hret _ _ _ _ dX1_placeToday_7 ⟨congrArg (fun x => some (Value.int x)) (pk_rem (by omega) (by omega) (by omega)), rfl⟩ rfl

theorem c_X1_heirOf (l : Launch) (G : qx_G) (L N : Nat) (hL : qx_isL L) (σ : qx_Sg) (v : Nat → Int32) (hI : qv_ok v N) (p : Int32) : qx_Ct l G yX1_heirOf cX1_heirOf 5 (some .int) 2 45 [.ref (qx_ad G L), .int p] (qL σ L N v) (qx_pi (z_oi (z_hr v p N)) (qL σ L N v)) := by
  refine qx_of .int (lo := [(0, .ref (qx_ad G L)), (1, .int p)]) (by decide +kernel) (Nat.le_of_ble_eq_true rfl) rfl (fun Δ (C : qx_C G Δ cX1_heirOf RX1 5 2 45) hret => ?_)
  have hN8 := hI.1
  have hN1 := hI.2.1
  refine qk_iconst C ((-1)) dX1_heirOf_0 1 rfl rfl ?_
  refine qk_istoren C dX1_heirOf_1 2 rfl rfl (by decide) rfl ?_
  refine qk_iconst C (nI 0) dX1_heirOf_2 3 rfl rfl ?_
  refine qk_istoren C dX1_heirOf_3 4 rfl rfl (by decide) rfl ?_
  have lp_4 : ∀ (n_4 : Nat) (b : Nat) (o : Option Nat), (b ≤ N ∧ o = z_hr v p b) → N - b < n_4 → qx_K l G Δ (qL σ L N v) 4 [(3, .int (nI b)), (2, .int (z_oi o)), (0, .ref (qx_ad G L)), (1, .int p)] [] := by
    intro n_4
    induction n_4 with
    | zero => intro _ _ _ h9; exact absurd h9 (Nat.not_lt_zero _)
    | succ n_4 ih_4 =>
      intro b o hi hm_4
      refine qk_iloadn C dX1_heirOf_4 5 rfl rfl 0 rfl ?_
      refine qk_aloadn C dX1_heirOf_5 6 rfl rfl 2 rfl ?_
      refine qk_get C dX1_heirOf_6 9 rfl qf_X1_21 _ hL.l65 (qx_Fl hL _) rfl ?_
      refine qk_cast qL_j3 ?_
      refine qk_cast hN1 ?_
      refine qk_icmp_ge C dX1_heirOf_9 82 rfl 12 rfl (fun c_9 => ?_) (fun c_9 => ?_)
      · have hbN : N ≤ b := (nI_leI (by omega) (by omega)).mp c_9
        refine qk_iloadn C dX1_heirOf_82 83 rfl rfl 1 rfl ?_
        exact hret _ _ _ _ dX1_heirOf_83 ⟨congrArg (fun x => some (Value.int x)) (by rw [hi.2, show b = N by omega]), rfl⟩ rfl
      · have hbN : b < N := Nat.not_le.mp (fun q => c_9 (nI_le q (by omega)))
        rcases o with _ | h
        · refine qk_iloadn C dX1_heirOf_12 13 rfl rfl 1 rfl ?_
          refine qk_if_lt C dX1_heirOf_13 37 rfl 16 rfl (fun _ => ?_) (fun c => absurd (by decide) c)
          refine qk_iconst C (1) dX1_heirOf_37 38 rfl rfl ?_
          refine qk_goto C dX1_heirOf_38 42 rfl ?_
          refine qk_istore C dX1_heirOf_42 44 rfl (by decide) rfl ?_
          refine qk_iload C dX1_heirOf_44 46 rfl 0 rfl ?_
          refine qk_if_eq C dX1_heirOf_46 76 rfl 49 rfl (fun c => absurd c (by decide)) (fun _ => ?_)
          refine qk_aloadn C dX1_heirOf_49 50 rfl rfl 3 rfl ?_
          refine qk_get C dX1_heirOf_50 53 rfl qf_X1_36 _ hL.l65 (qx_Fl hL _) rfl ?_
          refine qk_iloadn C dX1_heirOf_53 54 rfl rfl 1 rfl ?_
          refine qk_aald C dX1_heirOf_54 55 rfl (L + 4) hL.l4 1 (qx_Fl4 hL _) rfl (b) rfl (by omega) (by decide) rfl ?_
          refine qk_get C dX1_heirOf_55 58 rfl qf_X1_58 _ (qx_isB.of hL (show b < 8 by omega)).lt (qx_Fb (qx_isB.of hL (show b < 8 by omega)) _) rfl ?_
          refine qk_cast (qL_bf hbN _) ?_
          refine qk_if_ne C dX1_heirOf_58 76 rfl 61 rfl (fun c_58 => ?_) (fun c_58 => ?_)
          · refine qk_iinc C (nI (b + 1)) dX1_heirOf_76 79 rfl 1 rfl (nI_1 b) (by decide) rfl ?_
            refine qk_goto C dX1_heirOf_79 4 rfl ?_
            exact qk_lo [0, 2, 3, 4] rfl (ih_4 (b + 1) none ⟨by omega, by rw [hi.2]; exact (z_h1_f (fun q => c_58 q.1)).symm⟩ (by omega))
          · refine qk_aloadn C dX1_heirOf_61 62 rfl rfl 3 rfl ?_
            refine qk_get C dX1_heirOf_62 65 rfl qf_X1_36 _ hL.l65 (qx_Fl hL _) rfl ?_
            refine qk_iloadn C dX1_heirOf_65 66 rfl rfl 1 rfl ?_
            refine qk_aald C dX1_heirOf_66 67 rfl (L + 4) hL.l4 1 (qx_Fl4 hL _) rfl (b) rfl (by omega) (by decide) rfl ?_
            refine qk_iloadn C dX1_heirOf_67 68 rfl rfl 4 rfl ?_
            refine qk_callV C dX1_heirOf_68 71 rfl ql_X1_61 qc_X0_takes _ (qx_isB.of hL (show b < 8 by omega)).lt (qx_Fb (qx_isB.of hL (show b < 8 by omega)) _) rfl (cL_X0_takes l G L N b hL hN8 hbN σ v _) rfl rfl (Nat.le_of_ble_eq_true rfl) ⟨(Nat.le_of_ble_eq_true rfl), (Nat.le_of_ble_eq_true rfl)⟩ (qx_Ki ?_)
            refine qk_if_eqB C dX1_heirOf_71 76 rfl 74 rfl (fun c_71 => ?_) (fun c_71 => ?_)
            · refine qk_iinc C (nI (b + 1)) dX1_heirOf_76 79 rfl 1 rfl (nI_1 b) (by decide) rfl ?_
              refine qk_goto C dX1_heirOf_79 4 rfl ?_
              exact qk_lo [0, 2, 3, 4] rfl (ih_4 (b + 1) none ⟨by omega, by rw [hi.2]; exact (z_h1_f (fun q => c_71 q.2.1)).symm⟩ (by omega))
            · refine qk_iloadn C dX1_heirOf_74 75 rfl rfl 1 rfl ?_
              refine qk_istoren C dX1_heirOf_75 76 rfl rfl (by decide) rfl ?_
              refine qk_iinc C (nI (b + 1)) dX1_heirOf_76 79 rfl 2 rfl (nI_1 b) (by decide) rfl ?_
              refine qk_goto C dX1_heirOf_79 4 rfl ?_
              exact qk_lo [0, 1, 3, 4] rfl (ih_4 (b + 1) (some b) ⟨by omega, by exact (z_h1_t ⟨c_58, c_71, fun h e => by rw [← hi.2] at e; cases e⟩).symm⟩ (by omega))
        · have hh : h < b := z_hr_lt hi.2.symm
          refine qk_iloadn C dX1_heirOf_12 13 rfl rfl 1 rfl ?_
          refine qk_if_lt C dX1_heirOf_13 37 rfl 16 rfl (fun c_13 => absurd c_13 (nI_pos (by omega))) (fun c_13 => ?_)
          refine qk_aloadn C dX1_heirOf_16 17 rfl rfl 2 rfl ?_
          refine qk_get C dX1_heirOf_17 20 rfl qf_X1_36 _ hL.l65 (qx_Fl hL _) rfl ?_
          refine qk_iloadn C dX1_heirOf_20 21 rfl rfl 0 rfl ?_
          refine qk_aald C dX1_heirOf_21 22 rfl (L + 4) hL.l4 1 (qx_Fl4 hL _) rfl (b) rfl (by omega) (by decide) rfl ?_
          refine qk_get C dX1_heirOf_22 25 rfl qf_X1_55 _ (qx_isB.of hL (show b < 8 by omega)).lt (qx_Fb (qx_isB.of hL (show b < 8 by omega)) _) rfl ?_
          refine qk_cast (qL_bf hbN _) ?_
          refine qk_aloadn C dX1_heirOf_25 26 rfl rfl 2 rfl ?_
          refine qk_get C dX1_heirOf_26 29 rfl qf_X1_36 _ hL.l65 (qx_Fl hL _) rfl ?_
          refine qk_iloadn C dX1_heirOf_29 30 rfl rfl 1 rfl ?_
          refine qk_aald C dX1_heirOf_30 31 rfl (L + 4) hL.l4 1 (qx_Fl4 hL _) rfl (h) rfl (by omega) (by decide) rfl ?_
          refine qk_get C dX1_heirOf_31 34 rfl qf_X1_55 _ (qx_isB.of hL (show h < 8 by omega)).lt (qx_Fb (qx_isB.of hL (show h < 8 by omega)) _) rfl ?_
          refine qk_cast (qL_bf (show h < N by omega) _) ?_
          refine qk_icmp_ge C dX1_heirOf_34 41 rfl 37 rfl (fun c_34 => ?_) (fun c_34 => ?_)
          · refine qk_iconst C (0) dX1_heirOf_41 42 rfl rfl ?_
            refine qk_istore C dX1_heirOf_42 44 rfl (by decide) rfl ?_
            refine qk_iload C dX1_heirOf_44 46 rfl 0 rfl ?_
            refine qk_if_eq C dX1_heirOf_46 76 rfl 49 rfl (fun _ => ?_) (fun c => absurd rfl c)
            refine qk_iinc C (nI (b + 1)) dX1_heirOf_76 79 rfl 1 rfl (nI_1 b) (by decide) rfl ?_
            refine qk_goto C dX1_heirOf_79 4 rfl ?_
            exact qk_lo [0, 2, 3, 4] rfl (ih_4 (b + 1) (some h) ⟨by omega, by rw [hi.2]; exact (z_h1_f (fun q => q.2.2 h hi.2.symm c_34)).symm⟩ (by omega))
          · refine qk_iconst C (1) dX1_heirOf_37 38 rfl rfl ?_
            refine qk_goto C dX1_heirOf_38 42 rfl ?_
            refine qk_istore C dX1_heirOf_42 44 rfl (by decide) rfl ?_
            refine qk_iload C dX1_heirOf_44 46 rfl 0 rfl ?_
            refine qk_if_eq C dX1_heirOf_46 76 rfl 49 rfl (fun c => absurd c (by decide)) (fun _ => ?_)
            refine qk_aloadn C dX1_heirOf_49 50 rfl rfl 3 rfl ?_
            refine qk_get C dX1_heirOf_50 53 rfl qf_X1_36 _ hL.l65 (qx_Fl hL _) rfl ?_
            refine qk_iloadn C dX1_heirOf_53 54 rfl rfl 1 rfl ?_
            refine qk_aald C dX1_heirOf_54 55 rfl (L + 4) hL.l4 1 (qx_Fl4 hL _) rfl (b) rfl (by omega) (by decide) rfl ?_
            refine qk_get C dX1_heirOf_55 58 rfl qf_X1_58 _ (qx_isB.of hL (show b < 8 by omega)).lt (qx_Fb (qx_isB.of hL (show b < 8 by omega)) _) rfl ?_
            refine qk_cast (qL_bf hbN _) ?_
            refine qk_if_ne C dX1_heirOf_58 76 rfl 61 rfl (fun c_58 => ?_) (fun c_58 => ?_)
            · refine qk_iinc C (nI (b + 1)) dX1_heirOf_76 79 rfl 1 rfl (nI_1 b) (by decide) rfl ?_
              refine qk_goto C dX1_heirOf_79 4 rfl ?_
              exact qk_lo [0, 2, 3, 4] rfl (ih_4 (b + 1) (some h) ⟨by omega, by rw [hi.2]; exact (z_h1_f (fun q => c_58 q.1)).symm⟩ (by omega))
            · refine qk_aloadn C dX1_heirOf_61 62 rfl rfl 3 rfl ?_
              refine qk_get C dX1_heirOf_62 65 rfl qf_X1_36 _ hL.l65 (qx_Fl hL _) rfl ?_
              refine qk_iloadn C dX1_heirOf_65 66 rfl rfl 1 rfl ?_
              refine qk_aald C dX1_heirOf_66 67 rfl (L + 4) hL.l4 1 (qx_Fl4 hL _) rfl (b) rfl (by omega) (by decide) rfl ?_
              refine qk_iloadn C dX1_heirOf_67 68 rfl rfl 4 rfl ?_
              refine qk_callV C dX1_heirOf_68 71 rfl ql_X1_61 qc_X0_takes _ (qx_isB.of hL (show b < 8 by omega)).lt (qx_Fb (qx_isB.of hL (show b < 8 by omega)) _) rfl (cL_X0_takes l G L N b hL hN8 hbN σ v _) rfl rfl (Nat.le_of_ble_eq_true rfl) ⟨(Nat.le_of_ble_eq_true rfl), (Nat.le_of_ble_eq_true rfl)⟩ (qx_Ki ?_)
              refine qk_if_eqB C dX1_heirOf_71 76 rfl 74 rfl (fun c_71 => ?_) (fun c_71 => ?_)
              · refine qk_iinc C (nI (b + 1)) dX1_heirOf_76 79 rfl 1 rfl (nI_1 b) (by decide) rfl ?_
                refine qk_goto C dX1_heirOf_79 4 rfl ?_
                exact qk_lo [0, 2, 3, 4] rfl (ih_4 (b + 1) (some h) ⟨by omega, by rw [hi.2]; exact (z_h1_f (fun q => c_71 q.2.1)).symm⟩ (by omega))
              · refine qk_iloadn C dX1_heirOf_74 75 rfl rfl 1 rfl ?_
                refine qk_istoren C dX1_heirOf_75 76 rfl rfl (by decide) rfl ?_
                refine qk_iinc C (nI (b + 1)) dX1_heirOf_76 79 rfl 2 rfl (nI_1 b) (by decide) rfl ?_
                refine qk_goto C dX1_heirOf_79 4 rfl ?_
                exact qk_lo [0, 1, 3, 4] rfl (ih_4 (b + 1) (some b) ⟨by omega, by exact (z_h1_t ⟨c_58, c_71, fun h0 e => by rw [← hi.2] at e; cases e; exact c_34⟩).symm⟩ (by omega))
  exact lp_4 _ 0 none ⟨Nat.zero_le _, rfl⟩ (Nat.lt_succ_self _)

theorem c_X1_bequeath (l : Launch) (G : qx_G) (L N : Nat) (hL : qx_isL L) (σ : qx_Sg) (v : Nat → Int32) (hI : qv_ok v N) (q : Nat) (hq : q < 12) (o : Option Nat) (ho : ∀ b, o = some b → b < N) : qx_Ct l G yX1_bequeath cX1_bequeath 3 none 1 21 [.ref (qx_ad G L), .int (nI q), .int (z_oi o)] (qL σ L N v) (qx_pv (qL σ L N (z_bq v q o))) := by
  refine qx_ofV (lo := [(0, .ref (qx_ad G L)), (1, .int (nI q)), (2, .int (z_oi o))]) (by decide +kernel) (Nat.le_of_ble_eq_true rfl) rfl (fun Δ (C : qx_C G Δ cX1_bequeath RX1 3 1 21) hret => ?_)
  have hN8 := hI.1
  have hN1 := hI.2.1
  rcases o with _ | h
  · refine qk_iloadn C dX1_bequeath_0 1 rfl rfl 2 rfl ?_
    refine qk_if_lt C dX1_bequeath_1 17 rfl 4 rfl (fun _ => ?_) (fun c => absurd (by decide) c)
    refine qk_aloadn C dX1_bequeath_17 18 rfl rfl 0 rfl ?_
    refine qk_get C dX1_bequeath_18 21 rfl qf_X1_28 _ hL.l65 (qx_Fl hL _) rfl ?_
    refine qk_iloadn C dX1_bequeath_21 22 rfl rfl 1 rfl ?_
    refine qk_bipush C (99) dX1_bequeath_22 24 rfl rfl ?_
    refine qk_aloadn C dX1_bequeath_24 25 rfl rfl 0 rfl ?_
    refine qk_get C dX1_bequeath_25 28 rfl qf_X1_28 _ hL.l65 (qx_Fl hL _) rfl ?_
    refine qk_iloadn C dX1_bequeath_28 29 rfl rfl 1 rfl ?_
    refine qk_iald C dX1_bequeath_29 30 rfl (L + 2) hL.l2 (qx_Fl2 hL) q rfl hq (by decide) ?_
    refine qk_cast (qL_a2 q) ?_
    refine qk_iconst C (1) dX1_bequeath_30 31 rfl rfl ?_
    refine qk_iadd C dX1_bequeath_31 32 rfl ?_
    refine qk_min C dX1_bequeath_32 35 rfl ql_X1_83 ⟨(Nat.le_of_ble_eq_true rfl), (Nat.le_of_ble_eq_true rfl)⟩ ?_
    refine qk_iast C dX1_bequeath_35 36 rfl (L + 2) hL.l2 (qx_Fl2 hL) q rfl hq (by decide) ?_
    refine qk_cg _ (qL_w2 hL hN8 q hq _) ?_
    exact hret _ _ _ dX1_bequeath_36 ⟨rfl, rfl⟩
  · have hh : h < N := ho h rfl
    refine qk_iloadn C dX1_bequeath_0 1 rfl rfl 2 rfl ?_
    refine qk_if_lt C dX1_bequeath_1 17 rfl 4 rfl (fun c_1 => absurd c_1 (nI_pos (by omega))) (fun c_1 => ?_)
    refine qk_aloadn C dX1_bequeath_4 5 rfl rfl 0 rfl ?_
    refine qk_get C dX1_bequeath_5 8 rfl qf_X1_36 _ hL.l65 (qx_Fl hL _) rfl ?_
    refine qk_iloadn C dX1_bequeath_8 9 rfl rfl 2 rfl ?_
    refine qk_aald C dX1_bequeath_9 10 rfl (L + 4) hL.l4 1 (qx_Fl4 hL _) rfl (h) rfl (by omega) (by decide) rfl ?_
    refine qk_iloadn C dX1_bequeath_10 11 rfl rfl 1 rfl ?_
    refine qk_callV C dX1_bequeath_11 14 rfl ql_X1_89 qc_X0_receive _ (qx_isB.of hL (show h < 8 by omega)).lt (qx_Fb (qx_isB.of hL (show h < 8 by omega)) _) rfl (cL_X0_receive l G L N h hL hN8 hh σ v _) rfl rfl (Nat.le_of_ble_eq_true rfl) ⟨(Nat.le_of_ble_eq_true rfl), (Nat.le_of_ble_eq_true rfl)⟩ (qx_Kv ?_)
    refine qk_goto C dX1_bequeath_14 36 rfl ?_
    exact hret _ _ _ dX1_bequeath_36 ⟨rfl, rfl⟩

theorem c_X1_passDayOf (l : Launch) (G : qx_G) (L N : Nat) (hL : qx_isL L) (σ : qx_Sg) (v : Nat → Int32) (hN8 : N ≤ 8) (b : Nat) (hb : b < N) : qx_Ct l G yX1_passDayOf cX1_passDayOf 2 none 2 45 [.ref (qx_ad G L), .ref (qx_ad G (L + 5 + b))] (qL σ L N v) (qx_pv (qL σ L N (z_dB v b))) := by
  refine qx_ofV (lo := [(0, .ref (qx_ad G L)), (1, .ref (qx_ad G (L + 5 + b)))]) (by decide +kernel) (Nat.le_of_ble_eq_true rfl) rfl (fun Δ (C : qx_C G Δ cX1_passDayOf RX1 2 2 45) hret => ?_)
  refine qk_aloadn C dX1_passDayOf_0 1 rfl rfl 1 rfl ?_
  refine qk_aloadn C dX1_passDayOf_1 2 rfl rfl 1 rfl ?_
  refine qk_callV C dX1_passDayOf_2 5 rfl ql_X1_93 qc_X0_yearnsMore _ (qx_isB.of hL (show b < 8 by omega)).lt (qx_Fb (qx_isB.of hL (show b < 8 by omega)) _) rfl (cL_X0_yearnsMore l G L N b hL hN8 hb σ v) rfl rfl (Nat.le_of_ble_eq_true rfl) ⟨(Nat.le_of_ble_eq_true rfl), (Nat.le_of_ble_eq_true rfl)⟩ (qx_Ki ?_)
  refine qk_callV C dX1_passDayOf_5 8 rfl ql_X1_96 qc_X0_yearn _ (qx_isB.of hL (show b < 8 by omega)).lt (qx_Fb (qx_isB.of hL (show b < 8 by omega)) _) rfl (cL_X0_yearn l G L N b hL hN8 hb σ v _) rfl rfl (Nat.le_of_ble_eq_true rfl) ⟨(Nat.le_of_ble_eq_true rfl), (Nat.le_of_ble_eq_true rfl)⟩ (qx_Kv ?_)
  refine qk_aloadn C dX1_passDayOf_8 9 rfl rfl 1 rfl ?_
  refine qk_callV C dX1_passDayOf_9 12 rfl ql_X1_99 qc_X0_wouldWalk _ (qx_isB.of hL (show b < 8 by omega)).lt (qx_Fb (qx_isB.of hL (show b < 8 by omega)) _) rfl (cL_X0_wouldWalk l G L N b hL hN8 hb σ _) rfl rfl (Nat.le_of_ble_eq_true rfl) ⟨(Nat.le_of_ble_eq_true rfl), (Nat.le_of_ble_eq_true rfl)⟩ (qx_Ki ?_)
  refine qk_if_neB C dX1_passDayOf_12 16 rfl 15 rfl (fun c_12 => ?_) (fun c_12 => ?_)
  · refine qk_aloadn C dX1_passDayOf_16 17 rfl rfl 1 rfl ?_
    refine qk_bipush C (15) dX1_passDayOf_17 19 rfl rfl ?_
    refine qk_aloadn C dX1_passDayOf_19 20 rfl rfl 1 rfl ?_
    refine qk_get C dX1_passDayOf_20 23 rfl qf_X1_103 _ (qx_isB.of hL (show b < 8 by omega)).lt (qx_Fb (qx_isB.of hL (show b < 8 by omega)) _) rfl ?_
    refine qk_cast (qL_bf hb _) ?_
    refine qk_aloadn C dX1_passDayOf_23 24 rfl rfl 1 rfl ?_
    refine qk_callV C dX1_passDayOf_24 27 rfl ql_X1_106 qc_X0_stepsInADay _ (qx_isB.of hL (show b < 8 by omega)).lt (qx_Fb (qx_isB.of hL (show b < 8 by omega)) _) rfl (cL_X0_stepsInADay l G L N b hL hN8 hb σ _) rfl rfl (Nat.le_of_ble_eq_true rfl) ⟨(Nat.le_of_ble_eq_true rfl), (Nat.le_of_ble_eq_true rfl)⟩ (qx_Ki ?_)
    refine qk_iadd C dX1_passDayOf_27 28 rfl ?_
    refine qk_min C dX1_passDayOf_28 31 rfl ql_X1_83 ⟨(Nat.le_of_ble_eq_true rfl), (Nat.le_of_ble_eq_true rfl)⟩ ?_
    refine qk_put C .int dX1_passDayOf_31 34 rfl qf_X1_103 _ (qx_isB.of hL (show b < 8 by omega)).lt (qx_Fb (qx_isB.of hL (show b < 8 by omega)) _) (fun q hq => by cases hq; rfl) rfl rfl (Nat.le_of_ble_eq_true rfl) (qx_Fb (qx_isB.of hL (show b < 8 by omega)) _) ?_
    refine qk_cg _ (qL_wb hL hN8 hb 3 (by decide) _) ?_
    refine qk_aloadn C dX1_passDayOf_34 35 rfl rfl 1 rfl ?_
    refine qk_get C dX1_passDayOf_35 38 rfl qf_X1_103 _ (qx_isB.of hL (show b < 8 by omega)).lt (qx_Fb (qx_isB.of hL (show b < 8 by omega)) _) rfl ?_
    refine qk_cast (qL_bf hb _) ?_
    refine qk_bipush C (15) dX1_passDayOf_38 40 rfl rfl ?_
    refine qk_icmp_ne C dX1_passDayOf_40 64 rfl 43 rfl (fun c_40 => ?_) (fun c_40 => ?_)
    · exact hret _ _ _ dX1_passDayOf_64 ⟨rfl, congrArg (qL σ L N) (by first | exact ((z_selr_t c_12).trans (z_selr_t c_40)).symm | exact ((z_selr_t c_12).trans (z_selr_f c_40)).symm)⟩
    · refine qk_aloadn C dX1_passDayOf_43 44 rfl rfl 1 rfl ?_
      refine qk_iconst C (1) dX1_passDayOf_44 45 rfl rfl ?_
      refine qk_put C .int dX1_passDayOf_45 48 rfl qf_X1_58 _ (qx_isB.of hL (show b < 8 by omega)).lt (qx_Fb (qx_isB.of hL (show b < 8 by omega)) _) (fun q hq => by cases hq; rfl) rfl rfl (Nat.le_of_ble_eq_true rfl) (qx_Fb (qx_isB.of hL (show b < 8 by omega)) _) ?_
      refine qk_cg _ (qL_wb hL hN8 hb 6 (by decide) _) ?_
      refine qk_aloadn C dX1_passDayOf_48 49 rfl rfl 0 rfl ?_
      refine qk_sipush C (9999) dX1_passDayOf_49 52 rfl rfl ?_
      refine qk_aloadn C dX1_passDayOf_52 53 rfl rfl 0 rfl ?_
      refine qk_get C dX1_passDayOf_53 56 rfl qf_X1_15 _ hL.l65 (qx_Fl hL _) rfl ?_
      refine qk_cast qL_j1 ?_
      refine qk_iconst C (1) dX1_passDayOf_56 57 rfl rfl ?_
      refine qk_iadd C dX1_passDayOf_57 58 rfl ?_
      refine qk_min C dX1_passDayOf_58 61 rfl ql_X1_83 ⟨(Nat.le_of_ble_eq_true rfl), (Nat.le_of_ble_eq_true rfl)⟩ ?_
      refine qk_put C .int dX1_passDayOf_61 64 rfl qf_X1_15 _ hL.l65 (qx_Fl hL _) (fun q hq => by cases hq; rfl) rfl rfl (Nat.le_of_ble_eq_true rfl) (qx_Fl hL _) ?_
      refine qk_cg _ (qL_w0 hL hN8 1 (by decide) _) ?_
      exact hret _ _ _ dX1_passDayOf_64 ⟨rfl, congrArg (qL σ L N) (by first | exact ((z_selr_t c_12).trans (z_selr_t c_40)).symm | exact ((z_selr_t c_12).trans (z_selr_f c_40)).symm)⟩
  · exact hret _ _ _ dX1_passDayOf_15 ⟨rfl, congrArg (qL σ L N) (z_selr_f c_12).symm⟩

theorem z_dF_1 {v : Nat → Int32} {b : Nat} : z_dF v b 1 = v 1 := by
  induction b with
  | zero => rfl
  | succ b ih =>
    show z_selr _ _ _ 1 = _
    rw [← ih]
    refine z_selr_all (R := fun w => w 1 = z_dF v b 1) ?_ rfl
    refine z_selr_all (R := fun w => w 1 = z_dF v b 1) (z_selr_all (R := fun w => w 1 = z_dF v b 1) ?_ ?_) ?_
    · unfold z_d4 z_d3 z_d2 z_d1
      rw [upd_ne (by omega), upd_ne (by omega), upd_ne (by omega), upd_ne (by omega)]
    · unfold z_d2 z_d1
      rw [upd_ne (by omega), upd_ne (by omega)]
    · unfold z_d1
      rw [upd_ne (by omega)]
theorem c_X1_passDay (l : Launch) (G : qx_G) (L N : Nat) (hL : qx_isL L) (σ : qx_Sg) (v : Nat → Int32) (hI : qv_ok v N) : qx_Ct l G yX1_passDay cX1_passDay 3 none 3 69 [.ref (qx_ad G L)] (qL σ L N v) (qx_pv (qL σ L N (z_day v N))) := by
  refine qx_ofV (lo := [(0, .ref (qx_ad G L))]) (by decide +kernel) (Nat.le_of_ble_eq_true rfl) rfl (fun Δ (C : qx_C G Δ cX1_passDay RX1 3 3 69) hret => ?_)
  have hN8 := hI.1
  have hN1 := hI.2.1
  obtain ⟨d, hd, ed⟩ := hI.2.2.1
  obtain ⟨q, hq, eq⟩ := hI.2.2.2.1 (d % 6) (Nat.mod_lt _ (by omega))
  have hq0 : z_dq v = q := z_dq_of ed hd eq hq
  refine qk_aloadn C dX1_passDay_0 1 rfl rfl 0 rfl ?_
  refine qk_get C dX1_passDay_1 4 rfl qf_X1_24 _ hL.l65 (qx_Fl hL _) rfl ?_
  refine qk_aloadn C dX1_passDay_4 5 rfl rfl 0 rfl ?_
  refine qk_callV C dX1_passDay_5 8 rfl ql_X1_68 qc_X1_placeToday _ hL.l65 (qx_Fl hL _) rfl (c_X1_placeToday l G L N hL σ v d hd ed) rfl rfl (Nat.le_of_ble_eq_true rfl) ⟨(Nat.le_of_ble_eq_true rfl), (Nat.le_of_ble_eq_true rfl)⟩ (qx_Ki ?_)
  refine qk_iald C dX1_passDay_8 9 rfl (L + 1) hL.l1 (qx_Fl1 hL) (d % 6) rfl (Nat.mod_lt _ (by omega)) (by decide) ?_
  refine qk_cast ((qL_a1 (d % 6)).trans eq) ?_
  refine qk_istoren C dX1_passDay_9 10 rfl rfl (by decide) rfl ?_
  refine qk_iloadn C dX1_passDay_10 11 rfl rfl 0 rfl ?_
  refine qk_bipush C (nI 12) dX1_passDay_11 13 rfl rfl ?_
  refine qk_icmp_ge C dX1_passDay_13 26 rfl 16 rfl (fun c_13 => ?_) (fun c_13 => ?_)
  · have h12 : 12 ≤ q := (nI_leI (by omega) (by omega)).mp c_13
    have lp_26 : ∀ (w : Nat → Int32), w = z_be v N q → qx_K l G Δ (qL σ L N w) 26 [(0, .ref (qx_ad G L))] [] := by
      intro w hw
      have hw2 : qv_ok w N := by rw [hw]; exact qv_be hI
      refine qk_iconst C (nI 0) dX1_passDay_26 27 rfl rfl ?_
      refine qk_istoren C dX1_passDay_27 28 rfl rfl (by decide) rfl ?_
      have lp_28 : ∀ (n_28 : Nat) (b : Nat), b ≤ N → N - b < n_28 → qx_K l G Δ (qL σ L N (z_dF w b)) 28 [(2, .int (nI b)), (0, .ref (qx_ad G L))] [] := by
        intro n_28
        induction n_28 with
        | zero => intro _ _ h9; exact absurd h9 (Nat.not_lt_zero _)
        | succ n_28 ih_28 =>
          intro b hi hm_28
          refine qk_iloadn C dX1_passDay_28 29 rfl rfl 0 rfl ?_
          refine qk_aloadn C dX1_passDay_29 30 rfl rfl 1 rfl ?_
          refine qk_get C dX1_passDay_30 33 rfl qf_X1_21 _ hL.l65 (qx_Fl hL _) rfl ?_
          refine qk_cast qL_j3 ?_
          refine qk_cast (z_dF_1.trans hw2.2.1) ?_
          refine qk_icmp_ge C dX1_passDay_33 64 rfl 36 rfl (fun c_33 => ?_) (fun c_33 => ?_)
          · have hbN : N ≤ b := (nI_leI (by omega) (by omega)).mp c_33
            refine qk_aloadn C dX1_passDay_64 65 rfl rfl 1 rfl ?_
            refine qk_ldc C dX1_passDay_65 67 rfl qw_471 ?_
            refine qk_aloadn C dX1_passDay_67 68 rfl rfl 1 rfl ?_
            refine qk_get C dX1_passDay_68 71 rfl qf_X1_9 _ hL.l65 (qx_Fl hL _) rfl ?_
            refine qk_cast qL_j0 ?_
            refine qk_iconst C (1) dX1_passDay_71 72 rfl rfl ?_
            refine qk_iadd C dX1_passDay_72 73 rfl ?_
            refine qk_min C dX1_passDay_73 76 rfl ql_X1_83 ⟨(Nat.le_of_ble_eq_true rfl), (Nat.le_of_ble_eq_true rfl)⟩ ?_
            refine qk_put C .int dX1_passDay_76 79 rfl qf_X1_9 _ hL.l65 (qx_Fl hL _) (fun q hq => by cases hq; rfl) rfl rfl (Nat.le_of_ble_eq_true rfl) (qx_Fl hL _) ?_
            refine qk_cg _ (qL_w0 hL hN8 0 (by decide) _) ?_
            exact hret _ _ _ dX1_passDay_79 ⟨rfl, (by have hbe : b = N := (by omega); rw [hw, hbe]; unfold z_day; rw [hq0]; rfl)⟩
          · have hbN : b < N := Nat.not_le.mp (fun q => c_33 (nI_le q (by omega)))
            refine qk_aloadn C dX1_passDay_36 37 rfl rfl 1 rfl ?_
            refine qk_get C dX1_passDay_37 40 rfl qf_X1_36 _ hL.l65 (qx_Fl hL _) rfl ?_
            refine qk_iloadn C dX1_passDay_40 41 rfl rfl 0 rfl ?_
            refine qk_aald C dX1_passDay_41 42 rfl (L + 4) hL.l4 1 (qx_Fl4 hL _) rfl (b) rfl (by omega) (by decide) rfl ?_
            refine qk_get C dX1_passDay_42 45 rfl qf_X1_58 _ (qx_isB.of hL (show b < 8 by omega)).lt (qx_Fb (qx_isB.of hL (show b < 8 by omega)) _) rfl ?_
            refine qk_cast (qL_bf hbN _) ?_
            refine qk_if_ne C dX1_passDay_45 58 rfl 48 rfl (fun c_45 => ?_) (fun c_45 => ?_)
            · refine qk_sg (qL σ L N (z_dF w (b + 1))) (congrArg (qL σ L N) (z_selr_f c_45).symm) ?_
              refine qk_iinc C (nI (b + 1)) dX1_passDay_58 61 rfl 0 rfl (nI_1 b) (by decide) rfl ?_
              refine qk_goto C dX1_passDay_61 28 rfl ?_
              exact ih_28 (b + 1) (by omega) (by omega)
            · refine qk_aloadn C dX1_passDay_48 49 rfl rfl 1 rfl ?_
              refine qk_aloadn C dX1_passDay_49 50 rfl rfl 1 rfl ?_
              refine qk_get C dX1_passDay_50 53 rfl qf_X1_36 _ hL.l65 (qx_Fl hL _) rfl ?_
              refine qk_iloadn C dX1_passDay_53 54 rfl rfl 0 rfl ?_
              refine qk_aald C dX1_passDay_54 55 rfl (L + 4) hL.l4 1 (qx_Fl4 hL _) rfl (b) rfl (by omega) (by decide) rfl ?_
              refine qk_callV C dX1_passDay_55 58 rfl ql_X1_79 qc_X1_passDayOf _ hL.l65 (qx_Fl hL _) rfl (c_X1_passDayOf l G L N hL σ _ hN8 b hbN) rfl rfl (Nat.le_of_ble_eq_true rfl) ⟨(Nat.le_of_ble_eq_true rfl), (Nat.le_of_ble_eq_true rfl)⟩ (qx_Kv ?_)
              refine qk_sg (qL σ L N (z_dF w (b + 1))) (congrArg (qL σ L N) (z_selr_t c_45).symm) ?_
              refine qk_iinc C (nI (b + 1)) dX1_passDay_58 61 rfl 0 rfl (nI_1 b) (by decide) rfl ?_
              refine qk_goto C dX1_passDay_61 28 rfl ?_
              exact ih_28 (b + 1) (by omega) (by omega)
      exact lp_28 _ 0 (Nat.zero_le _) (Nat.lt_succ_self _)
    exact qk_lo [1] rfl (lp_26 v (if_pos h12).symm)
  · have h12 : q < 12 := Nat.not_le.mp (fun q => c_13 (nI_le q (by omega)))
    refine qk_aloadn C dX1_passDay_16 17 rfl rfl 1 rfl ?_
    refine qk_iloadn C dX1_passDay_17 18 rfl rfl 0 rfl ?_
    refine qk_aloadn C dX1_passDay_18 19 rfl rfl 1 rfl ?_
    refine qk_iloadn C dX1_passDay_19 20 rfl rfl 0 rfl ?_
    refine qk_callV C dX1_passDay_20 23 rfl ql_X1_72 qc_X1_heirOf _ hL.l65 (qx_Fl hL _) rfl (c_X1_heirOf l G L N hL σ v hI _) rfl rfl (Nat.le_of_ble_eq_true rfl) ⟨(Nat.le_of_ble_eq_true rfl), (Nat.le_of_ble_eq_true rfl)⟩ (qx_Ki ?_)
    refine qk_callV C dX1_passDay_23 26 rfl ql_X1_76 qc_X1_bequeath _ hL.l65 (qx_Fl hL _) rfl (c_X1_bequeath l G L N hL σ v hI q h12 _ (fun b e => z_hr_lt e)) rfl rfl (Nat.le_of_ble_eq_true rfl) ⟨(Nat.le_of_ble_eq_true rfl), (Nat.le_of_ble_eq_true rfl)⟩ (qx_Kv ?_)
    have lp_26 : ∀ (w : Nat → Int32), w = z_be v N q → qx_K l G Δ (qL σ L N w) 26 [(0, .ref (qx_ad G L))] [] := by
      intro w hw
      have hw2 : qv_ok w N := by rw [hw]; exact qv_be hI
      refine qk_iconst C (nI 0) dX1_passDay_26 27 rfl rfl ?_
      refine qk_istoren C dX1_passDay_27 28 rfl rfl (by decide) rfl ?_
      have lp_28 : ∀ (n_28 : Nat) (b : Nat), b ≤ N → N - b < n_28 → qx_K l G Δ (qL σ L N (z_dF w b)) 28 [(2, .int (nI b)), (0, .ref (qx_ad G L))] [] := by
        intro n_28
        induction n_28 with
        | zero => intro _ _ h9; exact absurd h9 (Nat.not_lt_zero _)
        | succ n_28 ih_28 =>
          intro b hi hm_28
          refine qk_iloadn C dX1_passDay_28 29 rfl rfl 0 rfl ?_
          refine qk_aloadn C dX1_passDay_29 30 rfl rfl 1 rfl ?_
          refine qk_get C dX1_passDay_30 33 rfl qf_X1_21 _ hL.l65 (qx_Fl hL _) rfl ?_
          refine qk_cast qL_j3 ?_
          refine qk_cast (z_dF_1.trans hw2.2.1) ?_
          refine qk_icmp_ge C dX1_passDay_33 64 rfl 36 rfl (fun c_33 => ?_) (fun c_33 => ?_)
          · have hbN : N ≤ b := (nI_leI (by omega) (by omega)).mp c_33
            refine qk_aloadn C dX1_passDay_64 65 rfl rfl 1 rfl ?_
            refine qk_ldc C dX1_passDay_65 67 rfl qw_471 ?_
            refine qk_aloadn C dX1_passDay_67 68 rfl rfl 1 rfl ?_
            refine qk_get C dX1_passDay_68 71 rfl qf_X1_9 _ hL.l65 (qx_Fl hL _) rfl ?_
            refine qk_cast qL_j0 ?_
            refine qk_iconst C (1) dX1_passDay_71 72 rfl rfl ?_
            refine qk_iadd C dX1_passDay_72 73 rfl ?_
            refine qk_min C dX1_passDay_73 76 rfl ql_X1_83 ⟨(Nat.le_of_ble_eq_true rfl), (Nat.le_of_ble_eq_true rfl)⟩ ?_
            refine qk_put C .int dX1_passDay_76 79 rfl qf_X1_9 _ hL.l65 (qx_Fl hL _) (fun q hq => by cases hq; rfl) rfl rfl (Nat.le_of_ble_eq_true rfl) (qx_Fl hL _) ?_
            refine qk_cg _ (qL_w0 hL hN8 0 (by decide) _) ?_
            exact hret _ _ _ dX1_passDay_79 ⟨rfl, (by have hbe : b = N := (by omega); rw [hw, hbe]; unfold z_day; rw [hq0]; rfl)⟩
          · have hbN : b < N := Nat.not_le.mp (fun q => c_33 (nI_le q (by omega)))
            refine qk_aloadn C dX1_passDay_36 37 rfl rfl 1 rfl ?_
            refine qk_get C dX1_passDay_37 40 rfl qf_X1_36 _ hL.l65 (qx_Fl hL _) rfl ?_
            refine qk_iloadn C dX1_passDay_40 41 rfl rfl 0 rfl ?_
            refine qk_aald C dX1_passDay_41 42 rfl (L + 4) hL.l4 1 (qx_Fl4 hL _) rfl (b) rfl (by omega) (by decide) rfl ?_
            refine qk_get C dX1_passDay_42 45 rfl qf_X1_58 _ (qx_isB.of hL (show b < 8 by omega)).lt (qx_Fb (qx_isB.of hL (show b < 8 by omega)) _) rfl ?_
            refine qk_cast (qL_bf hbN _) ?_
            refine qk_if_ne C dX1_passDay_45 58 rfl 48 rfl (fun c_45 => ?_) (fun c_45 => ?_)
            · refine qk_sg (qL σ L N (z_dF w (b + 1))) (congrArg (qL σ L N) (z_selr_f c_45).symm) ?_
              refine qk_iinc C (nI (b + 1)) dX1_passDay_58 61 rfl 0 rfl (nI_1 b) (by decide) rfl ?_
              refine qk_goto C dX1_passDay_61 28 rfl ?_
              exact ih_28 (b + 1) (by omega) (by omega)
            · refine qk_aloadn C dX1_passDay_48 49 rfl rfl 1 rfl ?_
              refine qk_aloadn C dX1_passDay_49 50 rfl rfl 1 rfl ?_
              refine qk_get C dX1_passDay_50 53 rfl qf_X1_36 _ hL.l65 (qx_Fl hL _) rfl ?_
              refine qk_iloadn C dX1_passDay_53 54 rfl rfl 0 rfl ?_
              refine qk_aald C dX1_passDay_54 55 rfl (L + 4) hL.l4 1 (qx_Fl4 hL _) rfl (b) rfl (by omega) (by decide) rfl ?_
              refine qk_callV C dX1_passDay_55 58 rfl ql_X1_79 qc_X1_passDayOf _ hL.l65 (qx_Fl hL _) rfl (c_X1_passDayOf l G L N hL σ _ hN8 b hbN) rfl rfl (Nat.le_of_ble_eq_true rfl) ⟨(Nat.le_of_ble_eq_true rfl), (Nat.le_of_ble_eq_true rfl)⟩ (qx_Kv ?_)
              refine qk_sg (qL σ L N (z_dF w (b + 1))) (congrArg (qL σ L N) (z_selr_t c_45).symm) ?_
              refine qk_iinc C (nI (b + 1)) dX1_passDay_58 61 rfl 0 rfl (nI_1 b) (by decide) rfl ?_
              refine qk_goto C dX1_passDay_61 28 rfl ?_
              exact ih_28 (b + 1) (by omega) (by omega)
      exact lp_28 _ 0 (Nat.zero_le _) (Nat.lt_succ_self _)
    exact qk_lo [1] rfl (lp_26 _ (if_neg (by omega)).symm)

theorem c_X1_passDays (l : Launch) (G : qx_G) (L N : Nat) (hL : qx_isL L) (σ : qx_Sg) (v : Nat → Int32) (hI : qv_ok v N) (n : Nat) (hn : n < 2 ^ 31) : qx_Ct l G yX1_passDays cX1_passDays 3 none 4 91 [.ref (qx_ad G L), .int (nI n)] (qL σ L N v) (qx_pv (qL σ L N (z_dn v N n))) := by
  refine qx_ofV (lo := [(0, .ref (qx_ad G L)), (1, .int (nI n))]) (by decide +kernel) (Nat.le_of_ble_eq_true rfl) rfl (fun Δ (C : qx_C G Δ cX1_passDays RX1 3 4 91) hret => ?_)
  have hN8 := hI.1
  have hN1 := hI.2.1
  refine qk_iconst C (nI 0) dX1_passDays_0 1 rfl rfl ?_
  refine qk_istoren C dX1_passDays_1 2 rfl rfl (by decide) rfl ?_
  have lp_2 : ∀ (n_2 : Nat) (i : Nat), i ≤ n → n - i < n_2 → qx_K l G Δ (qL σ L N (z_dn v N i)) 2 [(2, .int (nI i)), (0, .ref (qx_ad G L)), (1, .int (nI n))] [] := by
    intro n_2
    induction n_2 with
    | zero => intro _ _ h9; exact absurd h9 (Nat.not_lt_zero _)
    | succ n_2 ih_2 =>
      intro i hi hm_2
      refine qk_iloadn C dX1_passDays_2 3 rfl rfl 0 rfl ?_
      refine qk_iloadn C dX1_passDays_3 4 rfl rfl 2 rfl ?_
      refine qk_icmp_ge C dX1_passDays_4 17 rfl 7 rfl (fun c_4 => ?_) (fun c_4 => ?_)
      · have hin : n ≤ i := (nI_leI (by omega) (by omega)).mp c_4
        exact hret _ _ _ dX1_passDays_17 ⟨rfl, by rw [show i = n by omega]⟩
      · have hin : i < n := Nat.not_le.mp (fun q => c_4 (nI_le q (by omega)))
        refine qk_aloadn C dX1_passDays_7 8 rfl rfl 1 rfl ?_
        refine qk_callV C dX1_passDays_8 11 rfl ql_X1_65 qc_X1_passDay _ hL.l65 (qx_Fl hL _) rfl (c_X1_passDay l G L N hL σ _ (qv_dn hI i)) rfl rfl (Nat.le_of_ble_eq_true rfl) ⟨(Nat.le_of_ble_eq_true rfl), (Nat.le_of_ble_eq_true rfl)⟩ (qx_Kv ?_)
        refine qk_iinc C (nI (i + 1)) dX1_passDays_11 14 rfl 0 rfl (nI_1 i) (by decide) rfl ?_
        refine qk_goto C dX1_passDays_14 2 rfl ?_
        exact ih_2 (i + 1) (by omega) (by omega)
  exact lp_2 _ 0 (Nat.zero_le _) (Nat.lt_succ_self _)

theorem c_X1_draw (l : Launch) (G : qx_G) (L N : Nat) (hL : qx_isL L) (hN8 : N ≤ 8) (σ : qx_Sg) (v : Nat → Int32) : qx_Ct l G yX1_draw cX1_draw 1 (some .int) 0 0 [.ref (qx_ad G L)] (qL σ L N v) (qx_pi (nI (z_rn (z_dr v 2))) (qL σ L N (z_dr v))) := by
  refine qx_of .int (lo := [(0, .ref (qx_ad G L))]) (by decide +kernel) (Nat.le_of_ble_eq_true rfl) rfl (fun Δ (C : qx_C G Δ cX1_draw RX1 1 0 0) hret => ?_)
  refine qk_aloadn C dX1_draw_0 1 rfl rfl 0 rfl ?_
  refine qk_aloadn C dX1_draw_1 2 rfl rfl 0 rfl ?_
  refine qk_get C dX1_draw_2 5 rfl qf_X1_18 _ hL.l65 (qx_Fl hL _) rfl ?_
  refine qk_cast qL_j2 ?_
  refine qk_ldc C dX1_draw_5 7 rfl qw_627 ?_
  refine qk_imul C dX1_draw_7 8 rfl ?_
  refine qk_sipush C (12345) dX1_draw_8 11 rfl rfl ?_
  refine qk_iadd C dX1_draw_11 12 rfl ?_
  refine qk_put C .int dX1_draw_12 15 rfl qf_X1_18 _ hL.l65 (qx_Fl hL _) (fun q hq => by cases hq; rfl) rfl rfl (Nat.le_of_ble_eq_true rfl) (qx_Fl hL _) ?_
  refine qk_cg _ (qL_w0 hL hN8 2 (by decide) _) ?_
  refine qk_aloadn C dX1_draw_15 16 rfl rfl 0 rfl ?_
  refine qk_get C dX1_draw_16 19 rfl qf_X1_18 _ hL.l65 (qx_Fl hL _) rfl ?_
  refine qk_cast qL_j2 ?_
  refine qk_bipush C (8) dX1_draw_19 21 rfl rfl ?_
  refine qk_iushr C dX1_draw_21 22 rfl ?_
  exact hret _ _ _ _ dX1_draw_22 ⟨congrArg (fun x => some (Value.int x)) (z_us8 _), rfl⟩ rfl

theorem c_X1_passDayByDraws (l : Launch) (G : qx_G) (L N : Nat) (hL : qx_isL L) (σ : qx_Sg) (v : Nat → Int32) (hI : qv_ok v N) : qx_Ct l G yX1_passDayByDraws cX1_passDayByDraws 3 none 4 91 [.ref (qx_ad G L)] (qL σ L N v) (qx_pv (qL σ L N (z_ch v N))) := by
  refine qx_ofV (lo := [(0, .ref (qx_ad G L))]) (by decide +kernel) (Nat.le_of_ble_eq_true rfl) rfl (fun Δ (C : qx_C G Δ cX1_passDayByDraws RX1 3 4 91) hret => ?_)
  have hN8 := hI.1
  have hN1 := hI.2.1
  obtain ⟨d, hd, ed⟩ := hI.2.2.1
  have hdd : z_dd v = d % 6 := z_dd_of ed hd
  have r1 := z_rn_lt (z_dr v 2)
  have r2 := z_rn_lt (z_dr (z_dr v) 2)
  refine qk_aloadn C dX1_passDayByDraws_0 1 rfl rfl 0 rfl ?_
  refine qk_callV C dX1_passDayByDraws_1 4 rfl ql_X1_110 qc_X1_draw _ hL.l65 (qx_Fl hL _) rfl (c_X1_draw l G L N hL hN8 σ v) rfl rfl (Nat.le_of_ble_eq_true rfl) ⟨(Nat.le_of_ble_eq_true rfl), (Nat.le_of_ble_eq_true rfl)⟩ (qx_Ki ?_)
  refine qk_bipush C (nI 13) dX1_passDayByDraws_4 6 rfl rfl ?_
  refine qk_irem C dX1_passDayByDraws_6 7 rfl (nI_ne0 (by omega) (by omega)) ?_
  refine qk_cast (pk_rem (by omega) (by omega) (by omega)) ?_
  refine qk_istoren C dX1_passDayByDraws_7 8 rfl rfl (by decide) rfl ?_
  refine qk_aloadn C dX1_passDayByDraws_8 9 rfl rfl 1 rfl ?_
  refine qk_callV C dX1_passDayByDraws_9 12 rfl ql_X1_110 qc_X1_draw _ hL.l65 (qx_Fl hL _) rfl (c_X1_draw l G L N hL hN8 σ _) rfl rfl (Nat.le_of_ble_eq_true rfl) ⟨(Nat.le_of_ble_eq_true rfl), (Nat.le_of_ble_eq_true rfl)⟩ (qx_Ki ?_)
  refine qk_bipush C (nI 8) dX1_passDayByDraws_12 14 rfl rfl ?_
  refine qk_irem C dX1_passDayByDraws_14 15 rfl (nI_ne0 (by omega) (by omega)) ?_
  refine qk_cast (pk_rem (by omega) (by omega) (by omega)) ?_
  refine qk_istoren C dX1_passDayByDraws_15 16 rfl rfl (by decide) rfl ?_
  refine qk_aloadn C dX1_passDayByDraws_16 17 rfl rfl 2 rfl ?_
  refine qk_get C dX1_passDayByDraws_17 20 rfl qf_X1_24 _ hL.l65 (qx_Fl hL _) rfl ?_
  refine qk_aloadn C dX1_passDayByDraws_20 21 rfl rfl 2 rfl ?_
  refine qk_callV C dX1_passDayByDraws_21 24 rfl ql_X1_68 qc_X1_placeToday _ hL.l65 (qx_Fl hL _) rfl (c_X1_placeToday l G L N hL σ _ d hd ed) rfl rfl (Nat.le_of_ble_eq_true rfl) ⟨(Nat.le_of_ble_eq_true rfl), (Nat.le_of_ble_eq_true rfl)⟩ (qx_Ki ?_)
  refine qk_iloadn C dX1_passDayByDraws_24 25 rfl rfl 1 rfl ?_
  refine qk_iast C dX1_passDayByDraws_25 26 rfl (L + 1) hL.l1 (qx_Fl1 hL) (d % 6) rfl (Nat.mod_lt _ (by omega)) (by decide) ?_
  refine qk_cg _ (qL_w1 hL hN8 (d % 6) (Nat.mod_lt _ (by omega)) _) ?_
  refine qk_sg (qL σ L N (z_c3 v)) (by unfold z_c3; rw [hdd]; rfl) ?_
  refine qk_iloadn C dX1_passDayByDraws_26 27 rfl rfl 0 rfl ?_
  refine qk_aloadn C dX1_passDayByDraws_27 28 rfl rfl 2 rfl ?_
  refine qk_get C dX1_passDayByDraws_28 31 rfl qf_X1_21 _ hL.l65 (qx_Fl hL _) rfl ?_
  refine qk_cast qL_j3 ?_
  refine qk_cast (qv_c3 hI).2.1 ?_
  refine qk_icmp_ge C dX1_passDayByDraws_31 45 rfl 34 rfl (fun c_31 => ?_) (fun c_31 => ?_)
  · have h4 : z_c4 v N = z_c3 v := if_neg (by
      have h5 : N ≤ z_q2 v := (nI_leI (by omega) (by have : z_q2 v < 8 := Nat.mod_lt _ (by omega); omega)).mp c_31
      omega)
    refine qk_sg (qL σ L N (z_c4 v N)) (by rw [h4]) ?_
    refine qk_aloadn C dX1_passDayByDraws_45 46 rfl rfl 2 rfl ?_
    refine qk_callV C dX1_passDayByDraws_46 49 rfl ql_X1_65 qc_X1_passDay _ hL.l65 (qx_Fl hL _) rfl (c_X1_passDay l G L N hL σ _ (qv_c4 hI)) rfl rfl (Nat.le_of_ble_eq_true rfl) ⟨(Nat.le_of_ble_eq_true rfl), (Nat.le_of_ble_eq_true rfl)⟩ (qx_Kv ?_)
    exact hret _ _ _ dX1_passDayByDraws_49 ⟨rfl, rfl⟩
  · have hq8 : z_q2 v < 8 := Nat.mod_lt _ (by omega)
    have hqN : z_q2 v < N := Nat.not_le.mp (fun q => c_31 (nI_le q (by omega)))
    refine qk_aloadn C dX1_passDayByDraws_34 35 rfl rfl 2 rfl ?_
    refine qk_get C dX1_passDayByDraws_35 38 rfl qf_X1_36 _ hL.l65 (qx_Fl hL _) rfl ?_
    refine qk_iloadn C dX1_passDayByDraws_38 39 rfl rfl 0 rfl ?_
    refine qk_aald C dX1_passDayByDraws_39 40 rfl (L + 4) hL.l4 1 (qx_Fl4 hL _) rfl (z_q2 v) rfl (by omega) (by decide) rfl ?_
    refine qk_bipush C (10) dX1_passDayByDraws_40 42 rfl rfl ?_
    refine qk_callV C dX1_passDayByDraws_42 45 rfl ql_X1_96 qc_X0_yearn _ (qx_isB.of hL (show z_q2 v < 8 by omega)).lt (qx_Fb (qx_isB.of hL (show z_q2 v < 8 by omega)) _) rfl (cL_X0_yearn l G L N (z_q2 v) hL hN8 hqN σ _ _) rfl rfl (Nat.le_of_ble_eq_true rfl) ⟨(Nat.le_of_ble_eq_true rfl), (Nat.le_of_ble_eq_true rfl)⟩ (qx_Kv ?_)
    refine qk_sg (qL σ L N (z_c4 v N)) (by unfold z_c4; rw [if_pos hqN]) ?_
    refine qk_aloadn C dX1_passDayByDraws_45 46 rfl rfl 2 rfl ?_
    refine qk_callV C dX1_passDayByDraws_46 49 rfl ql_X1_65 qc_X1_passDay _ hL.l65 (qx_Fl hL _) rfl (c_X1_passDay l G L N hL σ _ (qv_c4 hI)) rfl rfl (Nat.le_of_ble_eq_true rfl) ⟨(Nat.le_of_ble_eq_true rfl), (Nat.le_of_ble_eq_true rfl)⟩ (qx_Kv ?_)
    exact hret _ _ _ dX1_passDayByDraws_49 ⟨rfl, rfl⟩

theorem c_X1_storedTogether (l : Launch) (G : qx_G) (L N : Nat) (hL : qx_isL L) (σ : qx_Sg) (v : Nat → Int32) (hI : qv_ok v N) : qx_Ct l G yX1_storedTogether cX1_storedTogether 3 (some .int) 0 0 [.ref (qx_ad G L)] (qL σ L N v) (qx_pi (z_fo (z_Fst v) 12) (qL σ L N v)) := by
  refine qx_of .int (lo := [(0, .ref (qx_ad G L))]) (by decide +kernel) (Nat.le_of_ble_eq_true rfl) rfl (fun Δ (C : qx_C G Δ cX1_storedTogether RX1 3 0 0) hret => ?_)
  have hN8 := hI.1
  have hN1 := hI.2.1
  refine qk_iconst C (0) dX1_storedTogether_0 1 rfl rfl ?_
  refine qk_istoren C dX1_storedTogether_1 2 rfl rfl (by decide) rfl ?_
  refine qk_iconst C (nI 0) dX1_storedTogether_2 3 rfl rfl ?_
  refine qk_istoren C dX1_storedTogether_3 4 rfl rfl (by decide) rfl ?_
  have lp_4 : ∀ (n_4 : Nat) (b : Nat) (a : Int32), (b ≤ 12 ∧ a = z_fo (z_Fst v) b) → 12 - b < n_4 → qx_K l G Δ (qL σ L N v) 4 [(2, .int (nI b)), (1, .int a), (0, .ref (qx_ad G L))] [] := by
    intro n_4
    induction n_4 with
    | zero => intro _ _ _ h9; exact absurd h9 (Nat.not_lt_zero _)
    | succ n_4 ih_4 =>
      intro b a hi hm_4
      refine qk_iloadn C dX1_storedTogether_4 5 rfl rfl 0 rfl ?_
      refine qk_bipush C (nI 12) dX1_storedTogether_5 7 rfl rfl ?_
      refine qk_icmp_ge C dX1_storedTogether_7 25 rfl 10 rfl (fun c_7 => ?_) (fun c_7 => ?_)
      · have hbN : 12 ≤ b := (nI_leI (by omega) (by omega)).mp c_7
        refine qk_iloadn C dX1_storedTogether_25 26 rfl rfl 1 rfl ?_
        exact hret _ _ _ _ dX1_storedTogether_26 ⟨congrArg (fun x => some (Value.int x)) (by rw [hi.2, show b = 12 by omega]), rfl⟩ rfl
      · have hbN : b < 12 := Nat.not_le.mp (fun q => c_7 (nI_le q (by omega)))
        refine qk_iloadn C dX1_storedTogether_10 11 rfl rfl 1 rfl ?_
        refine qk_aloadn C dX1_storedTogether_11 12 rfl rfl 2 rfl ?_
        refine qk_get C dX1_storedTogether_12 15 rfl qf_X1_28 _ hL.l65 (qx_Fl hL _) rfl ?_
        refine qk_iloadn C dX1_storedTogether_15 16 rfl rfl 0 rfl ?_
        refine qk_iald C dX1_storedTogether_16 17 rfl (L + 2) hL.l2 (qx_Fl2 hL) b rfl (by omega) (by decide) ?_
        refine qk_cast (qL_a2 b) ?_
        refine qk_iadd C dX1_storedTogether_17 18 rfl ?_
        refine qk_istoren C dX1_storedTogether_18 19 rfl rfl (by decide) rfl ?_
        refine qk_iinc C (nI (b + 1)) dX1_storedTogether_19 22 rfl 1 rfl (nI_1 b) (by decide) rfl ?_
        refine qk_goto C dX1_storedTogether_22 4 rfl ?_
        exact ih_4 (b + 1) _ ⟨by omega, by rw [hi.2]; rfl⟩ (by omega)
  exact lp_4 _ 0 0 ⟨Nat.zero_le _, rfl⟩ (Nat.lt_succ_self _)

theorem c_X1_completeBusts (l : Launch) (G : qx_G) (L N : Nat) (hL : qx_isL L) (σ : qx_Sg) (v : Nat → Int32) (hI : qv_ok v N) : qx_Ct l G yX1_completeBusts cX1_completeBusts 3 (some .int) 0 0 [.ref (qx_ad G L)] (qL σ L N v) (qx_pi (z_fo (z_Fco v) N) (qL σ L N v)) := by
  refine qx_of .int (lo := [(0, .ref (qx_ad G L))]) (by decide +kernel) (Nat.le_of_ble_eq_true rfl) rfl (fun Δ (C : qx_C G Δ cX1_completeBusts RX1 3 0 0) hret => ?_)
  have hN8 := hI.1
  have hN1 := hI.2.1
  refine qk_iconst C (0) dX1_completeBusts_0 1 rfl rfl ?_
  refine qk_istoren C dX1_completeBusts_1 2 rfl rfl (by decide) rfl ?_
  refine qk_iconst C (nI 0) dX1_completeBusts_2 3 rfl rfl ?_
  refine qk_istoren C dX1_completeBusts_3 4 rfl rfl (by decide) rfl ?_
  have lp_4 : ∀ (n_4 : Nat) (b : Nat) (a : Int32), (b ≤ N ∧ a = z_fo (z_Fco v) b) → N - b < n_4 → qx_K l G Δ (qL σ L N v) 4 [(2, .int (nI b)), (1, .int a), (0, .ref (qx_ad G L))] [] := by
    intro n_4
    induction n_4 with
    | zero => intro _ _ _ h9; exact absurd h9 (Nat.not_lt_zero _)
    | succ n_4 ih_4 =>
      intro b a hi hm_4
      refine qk_iloadn C dX1_completeBusts_4 5 rfl rfl 0 rfl ?_
      refine qk_aloadn C dX1_completeBusts_5 6 rfl rfl 2 rfl ?_
      refine qk_get C dX1_completeBusts_6 9 rfl qf_X1_21 _ hL.l65 (qx_Fl hL _) rfl ?_
      refine qk_cast qL_j3 ?_
      refine qk_cast hN1 ?_
      refine qk_icmp_ge C dX1_completeBusts_9 51 rfl 12 rfl (fun c_9 => ?_) (fun c_9 => ?_)
      · have hbN : N ≤ b := (nI_leI (by omega) (by omega)).mp c_9
        refine qk_iloadn C dX1_completeBusts_51 52 rfl rfl 1 rfl ?_
        exact hret _ _ _ _ dX1_completeBusts_52 ⟨congrArg (fun x => some (Value.int x)) (by rw [hi.2, show b = N by omega]), rfl⟩ rfl
      · have hbN : b < N := Nat.not_le.mp (fun q => c_9 (nI_le q (by omega)))
        refine qk_aloadn C dX1_completeBusts_12 13 rfl rfl 2 rfl ?_
        refine qk_get C dX1_completeBusts_13 16 rfl qf_X1_36 _ hL.l65 (qx_Fl hL _) rfl ?_
        refine qk_iloadn C dX1_completeBusts_16 17 rfl rfl 0 rfl ?_
        refine qk_aald C dX1_completeBusts_17 18 rfl (L + 4) hL.l4 1 (qx_Fl4 hL _) rfl (b) rfl (by omega) (by decide) rfl ?_
        refine qk_get C dX1_completeBusts_18 21 rfl qf_X1_58 _ (qx_isB.of hL (show b < 8 by omega)).lt (qx_Fb (qx_isB.of hL (show b < 8 by omega)) _) rfl ?_
        refine qk_cast (qL_bf hbN _) ?_
        refine qk_if_ne C dX1_completeBusts_21 45 rfl 24 rfl (fun c_21 => ?_) (fun c_21 => ?_)
        · refine qk_iinc C (nI (b + 1)) dX1_completeBusts_45 48 rfl 0 rfl (nI_1 b) (by decide) rfl ?_
          refine qk_goto C dX1_completeBusts_48 4 rfl ?_
          exact ih_4 (b + 1) a ⟨by omega, by rw [hi.2]; exact (z_sel_f (fun q => c_21 q.1)).symm⟩ (by omega)
        · refine qk_aloadn C dX1_completeBusts_24 25 rfl rfl 2 rfl ?_
          refine qk_get C dX1_completeBusts_25 28 rfl qf_X1_36 _ hL.l65 (qx_Fl hL _) rfl ?_
          refine qk_iloadn C dX1_completeBusts_28 29 rfl rfl 0 rfl ?_
          refine qk_aald C dX1_completeBusts_29 30 rfl (L + 4) hL.l4 1 (qx_Fl4 hL _) rfl (b) rfl (by omega) (by decide) rfl ?_
          refine qk_get C dX1_completeBusts_30 33 rfl qf_X1_113 _ (qx_isB.of hL (show b < 8 by omega)).lt (qx_Fb (qx_isB.of hL (show b < 8 by omega)) _) rfl ?_
          refine qk_cast (qL_bf hbN _) ?_
          refine qk_sipush C (4095) dX1_completeBusts_33 36 rfl rfl ?_
          refine qk_icmp_ne C dX1_completeBusts_36 45 rfl 39 rfl (fun c_36 => ?_) (fun c_36 => ?_)
          · refine qk_iinc C (nI (b + 1)) dX1_completeBusts_45 48 rfl 0 rfl (nI_1 b) (by decide) rfl ?_
            refine qk_goto C dX1_completeBusts_48 4 rfl ?_
            exact ih_4 (b + 1) a ⟨by omega, by rw [hi.2]; exact (z_sel_f (fun q => c_36 q.2)).symm⟩ (by omega)
          · refine qk_iloadn C dX1_completeBusts_39 40 rfl rfl 1 rfl ?_
            refine qk_iconst C (1) dX1_completeBusts_40 41 rfl rfl ?_
            refine qk_iloadn C dX1_completeBusts_41 42 rfl rfl 0 rfl ?_
            refine qk_ishl C dX1_completeBusts_42 43 rfl ?_
            refine qk_ior C dX1_completeBusts_43 44 rfl ?_
            refine qk_istoren C dX1_completeBusts_44 45 rfl rfl (by decide) rfl ?_
            refine qk_iinc C (nI (b + 1)) dX1_completeBusts_45 48 rfl 1 rfl (nI_1 b) (by decide) rfl ?_
            refine qk_goto C dX1_completeBusts_48 4 rfl ?_
            exact ih_4 (b + 1) _ ⟨by omega, by rw [hi.2]; exact (z_sel_t ⟨c_21, c_36⟩).symm⟩ (by omega)
  exact lp_4 _ 0 0 ⟨Nat.zero_le _, rfl⟩ (Nat.lt_succ_self _)

theorem c_X1_walkers (l : Launch) (G : qx_G) (L N : Nat) (hL : qx_isL L) (σ : qx_Sg) (v : Nat → Int32) (hI : qv_ok v N) : qx_Ct l G yX1_walkers cX1_walkers 3 (some .int) 2 43 [.ref (qx_ad G L)] (qL σ L N v) (qx_pi (z_fo (z_Fwa v) N) (qL σ L N v)) := by
  refine qx_of .int (lo := [(0, .ref (qx_ad G L))]) (by decide +kernel) (Nat.le_of_ble_eq_true rfl) rfl (fun Δ (C : qx_C G Δ cX1_walkers RX1 3 2 43) hret => ?_)
  have hN8 := hI.1
  have hN1 := hI.2.1
  refine qk_iconst C (0) dX1_walkers_0 1 rfl rfl ?_
  refine qk_istoren C dX1_walkers_1 2 rfl rfl (by decide) rfl ?_
  refine qk_iconst C (nI 0) dX1_walkers_2 3 rfl rfl ?_
  refine qk_istoren C dX1_walkers_3 4 rfl rfl (by decide) rfl ?_
  have lp_4 : ∀ (n_4 : Nat) (b : Nat) (a : Int32), (b ≤ N ∧ a = z_fo (z_Fwa v) b) → N - b < n_4 → qx_K l G Δ (qL σ L N v) 4 [(2, .int (nI b)), (1, .int a), (0, .ref (qx_ad G L))] [] := by
    intro n_4
    induction n_4 with
    | zero => intro _ _ _ h9; exact absurd h9 (Nat.not_lt_zero _)
    | succ n_4 ih_4 =>
      intro b a hi hm_4
      refine qk_iloadn C dX1_walkers_4 5 rfl rfl 0 rfl ?_
      refine qk_aloadn C dX1_walkers_5 6 rfl rfl 2 rfl ?_
      refine qk_get C dX1_walkers_6 9 rfl qf_X1_21 _ hL.l65 (qx_Fl hL _) rfl ?_
      refine qk_cast qL_j3 ?_
      refine qk_cast hN1 ?_
      refine qk_icmp_ge C dX1_walkers_9 36 rfl 12 rfl (fun c_9 => ?_) (fun c_9 => ?_)
      · have hbN : N ≤ b := (nI_leI (by omega) (by omega)).mp c_9
        refine qk_iloadn C dX1_walkers_36 37 rfl rfl 1 rfl ?_
        exact hret _ _ _ _ dX1_walkers_37 ⟨congrArg (fun x => some (Value.int x)) (by rw [hi.2, show b = N by omega]), rfl⟩ rfl
      · have hbN : b < N := Nat.not_le.mp (fun q => c_9 (nI_le q (by omega)))
        refine qk_aloadn C dX1_walkers_12 13 rfl rfl 2 rfl ?_
        refine qk_get C dX1_walkers_13 16 rfl qf_X1_36 _ hL.l65 (qx_Fl hL _) rfl ?_
        refine qk_iloadn C dX1_walkers_16 17 rfl rfl 0 rfl ?_
        refine qk_aald C dX1_walkers_17 18 rfl (L + 4) hL.l4 1 (qx_Fl4 hL _) rfl (b) rfl (by omega) (by decide) rfl ?_
        refine qk_callV C dX1_walkers_18 21 rfl ql_X1_99 qc_X0_wouldWalk _ (qx_isB.of hL (show b < 8 by omega)).lt (qx_Fb (qx_isB.of hL (show b < 8 by omega)) _) rfl (cL_X0_wouldWalk l G L N b hL hN8 hbN σ v) rfl rfl (Nat.le_of_ble_eq_true rfl) ⟨(Nat.le_of_ble_eq_true rfl), (Nat.le_of_ble_eq_true rfl)⟩ (qx_Ki ?_)
        refine qk_if_eqB C dX1_walkers_21 30 rfl 24 rfl (fun c_21 => ?_) (fun c_21 => ?_)
        · refine qk_iinc C (nI (b + 1)) dX1_walkers_30 33 rfl 0 rfl (nI_1 b) (by decide) rfl ?_
          refine qk_goto C dX1_walkers_33 4 rfl ?_
          exact ih_4 (b + 1) a ⟨by omega, by rw [hi.2]; exact (z_sel_f c_21).symm⟩ (by omega)
        · refine qk_iloadn C dX1_walkers_24 25 rfl rfl 1 rfl ?_
          refine qk_iconst C (1) dX1_walkers_25 26 rfl rfl ?_
          refine qk_iloadn C dX1_walkers_26 27 rfl rfl 0 rfl ?_
          refine qk_ishl C dX1_walkers_27 28 rfl ?_
          refine qk_ior C dX1_walkers_28 29 rfl ?_
          refine qk_istoren C dX1_walkers_29 30 rfl rfl (by decide) rfl ?_
          refine qk_iinc C (nI (b + 1)) dX1_walkers_30 33 rfl 1 rfl (nI_1 b) (by decide) rfl ?_
          refine qk_goto C dX1_walkers_33 4 rfl ?_
          exact ih_4 (b + 1) _ ⟨by omega, by rw [hi.2]; exact (z_sel_t c_21).symm⟩ (by omega)
  exact lp_4 _ 0 0 ⟨Nat.zero_le _, rfl⟩ (Nat.lt_succ_self _)

theorem c_X1_yearningTogether (l : Launch) (G : qx_G) (L N : Nat) (hL : qx_isL L) (σ : qx_Sg) (v : Nat → Int32) (hI : qv_ok v N) : qx_Ct l G yX1_yearningTogether cX1_yearningTogether 3 (some .int) 0 0 [.ref (qx_ad G L)] (qL σ L N v) (qx_pi (z_fo (z_Fye v) N) (qL σ L N v)) := by
  refine qx_of .int (lo := [(0, .ref (qx_ad G L))]) (by decide +kernel) (Nat.le_of_ble_eq_true rfl) rfl (fun Δ (C : qx_C G Δ cX1_yearningTogether RX1 3 0 0) hret => ?_)
  have hN8 := hI.1
  have hN1 := hI.2.1
  refine qk_iconst C (0) dX1_yearningTogether_0 1 rfl rfl ?_
  refine qk_istoren C dX1_yearningTogether_1 2 rfl rfl (by decide) rfl ?_
  refine qk_iconst C (nI 0) dX1_yearningTogether_2 3 rfl rfl ?_
  refine qk_istoren C dX1_yearningTogether_3 4 rfl rfl (by decide) rfl ?_
  have lp_4 : ∀ (n_4 : Nat) (b : Nat) (a : Int32), (b ≤ N ∧ a = z_fo (z_Fye v) b) → N - b < n_4 → qx_K l G Δ (qL σ L N v) 4 [(2, .int (nI b)), (1, .int a), (0, .ref (qx_ad G L))] [] := by
    intro n_4
    induction n_4 with
    | zero => intro _ _ _ h9; exact absurd h9 (Nat.not_lt_zero _)
    | succ n_4 ih_4 =>
      intro b a hi hm_4
      refine qk_iloadn C dX1_yearningTogether_4 5 rfl rfl 0 rfl ?_
      refine qk_aloadn C dX1_yearningTogether_5 6 rfl rfl 2 rfl ?_
      refine qk_get C dX1_yearningTogether_6 9 rfl qf_X1_21 _ hL.l65 (qx_Fl hL _) rfl ?_
      refine qk_cast qL_j3 ?_
      refine qk_cast hN1 ?_
      refine qk_icmp_ge C dX1_yearningTogether_9 42 rfl 12 rfl (fun c_9 => ?_) (fun c_9 => ?_)
      · have hbN : N ≤ b := (nI_leI (by omega) (by omega)).mp c_9
        refine qk_iloadn C dX1_yearningTogether_42 43 rfl rfl 1 rfl ?_
        exact hret _ _ _ _ dX1_yearningTogether_43 ⟨congrArg (fun x => some (Value.int x)) (by rw [hi.2, show b = N by omega]), rfl⟩ rfl
      · have hbN : b < N := Nat.not_le.mp (fun q => c_9 (nI_le q (by omega)))
        refine qk_aloadn C dX1_yearningTogether_12 13 rfl rfl 2 rfl ?_
        refine qk_get C dX1_yearningTogether_13 16 rfl qf_X1_36 _ hL.l65 (qx_Fl hL _) rfl ?_
        refine qk_iloadn C dX1_yearningTogether_16 17 rfl rfl 0 rfl ?_
        refine qk_aald C dX1_yearningTogether_17 18 rfl (L + 4) hL.l4 1 (qx_Fl4 hL _) rfl (b) rfl (by omega) (by decide) rfl ?_
        refine qk_get C dX1_yearningTogether_18 21 rfl qf_X1_58 _ (qx_isB.of hL (show b < 8 by omega)).lt (qx_Fb (qx_isB.of hL (show b < 8 by omega)) _) rfl ?_
        refine qk_cast (qL_bf hbN _) ?_
        refine qk_if_ne C dX1_yearningTogether_21 36 rfl 24 rfl (fun c_21 => ?_) (fun c_21 => ?_)
        · refine qk_iinc C (nI (b + 1)) dX1_yearningTogether_36 39 rfl 0 rfl (nI_1 b) (by decide) rfl ?_
          refine qk_goto C dX1_yearningTogether_39 4 rfl ?_
          exact ih_4 (b + 1) a ⟨by omega, by rw [hi.2]; exact (z_sel_f c_21).symm⟩ (by omega)
        · refine qk_iloadn C dX1_yearningTogether_24 25 rfl rfl 1 rfl ?_
          refine qk_aloadn C dX1_yearningTogether_25 26 rfl rfl 2 rfl ?_
          refine qk_get C dX1_yearningTogether_26 29 rfl qf_X1_36 _ hL.l65 (qx_Fl hL _) rfl ?_
          refine qk_iloadn C dX1_yearningTogether_29 30 rfl rfl 0 rfl ?_
          refine qk_aald C dX1_yearningTogether_30 31 rfl (L + 4) hL.l4 1 (qx_Fl4 hL _) rfl (b) rfl (by omega) (by decide) rfl ?_
          refine qk_get C dX1_yearningTogether_31 34 rfl qf_X1_119 _ (qx_isB.of hL (show b < 8 by omega)).lt (qx_Fb (qx_isB.of hL (show b < 8 by omega)) _) rfl ?_
          refine qk_cast (qL_bf hbN _) ?_
          refine qk_iadd C dX1_yearningTogether_34 35 rfl ?_
          refine qk_istoren C dX1_yearningTogether_35 36 rfl rfl (by decide) rfl ?_
          refine qk_iinc C (nI (b + 1)) dX1_yearningTogether_36 39 rfl 1 rfl (nI_1 b) (by decide) rfl ?_
          refine qk_goto C dX1_yearningTogether_39 4 rfl ?_
          exact ih_4 (b + 1) _ ⟨by omega, by rw [hi.2]; exact (z_sel_t c_21).symm⟩ (by omega)
  exact lp_4 _ 0 0 ⟨Nat.zero_le _, rfl⟩ (Nat.lt_succ_self _)

theorem c_X1_goneBusts (l : Launch) (G : qx_G) (L N : Nat) (hL : qx_isL L) (σ : qx_Sg) (v : Nat → Int32) (hI : qv_ok v N) : qx_Ct l G yX1_goneBusts cX1_goneBusts 3 (some .int) 0 0 [.ref (qx_ad G L)] (qL σ L N v) (qx_pi (z_fo (z_Fgo v) N) (qL σ L N v)) := by
  refine qx_of .int (lo := [(0, .ref (qx_ad G L))]) (by decide +kernel) (Nat.le_of_ble_eq_true rfl) rfl (fun Δ (C : qx_C G Δ cX1_goneBusts RX1 3 0 0) hret => ?_)
  have hN8 := hI.1
  have hN1 := hI.2.1
  refine qk_iconst C (0) dX1_goneBusts_0 1 rfl rfl ?_
  refine qk_istoren C dX1_goneBusts_1 2 rfl rfl (by decide) rfl ?_
  refine qk_iconst C (nI 0) dX1_goneBusts_2 3 rfl rfl ?_
  refine qk_istoren C dX1_goneBusts_3 4 rfl rfl (by decide) rfl ?_
  have lp_4 : ∀ (n_4 : Nat) (b : Nat) (a : Int32), (b ≤ N ∧ a = z_fo (z_Fgo v) b) → N - b < n_4 → qx_K l G Δ (qL σ L N v) 4 [(2, .int (nI b)), (1, .int a), (0, .ref (qx_ad G L))] [] := by
    intro n_4
    induction n_4 with
    | zero => intro _ _ _ h9; exact absurd h9 (Nat.not_lt_zero _)
    | succ n_4 ih_4 =>
      intro b a hi hm_4
      refine qk_iloadn C dX1_goneBusts_4 5 rfl rfl 0 rfl ?_
      refine qk_aloadn C dX1_goneBusts_5 6 rfl rfl 2 rfl ?_
      refine qk_get C dX1_goneBusts_6 9 rfl qf_X1_21 _ hL.l65 (qx_Fl hL _) rfl ?_
      refine qk_cast qL_j3 ?_
      refine qk_cast hN1 ?_
      refine qk_icmp_ge C dX1_goneBusts_9 37 rfl 12 rfl (fun c_9 => ?_) (fun c_9 => ?_)
      · have hbN : N ≤ b := (nI_leI (by omega) (by omega)).mp c_9
        refine qk_iloadn C dX1_goneBusts_37 38 rfl rfl 1 rfl ?_
        exact hret _ _ _ _ dX1_goneBusts_38 ⟨congrArg (fun x => some (Value.int x)) (by rw [hi.2, show b = N by omega]), rfl⟩ rfl
      · have hbN : b < N := Nat.not_le.mp (fun q => c_9 (nI_le q (by omega)))
        refine qk_aloadn C dX1_goneBusts_12 13 rfl rfl 2 rfl ?_
        refine qk_get C dX1_goneBusts_13 16 rfl qf_X1_36 _ hL.l65 (qx_Fl hL _) rfl ?_
        refine qk_iloadn C dX1_goneBusts_16 17 rfl rfl 0 rfl ?_
        refine qk_aald C dX1_goneBusts_17 18 rfl (L + 4) hL.l4 1 (qx_Fl4 hL _) rfl (b) rfl (by omega) (by decide) rfl ?_
        refine qk_get C dX1_goneBusts_18 21 rfl qf_X1_58 _ (qx_isB.of hL (show b < 8 by omega)).lt (qx_Fb (qx_isB.of hL (show b < 8 by omega)) _) rfl ?_
        refine qk_cast (qL_bf hbN _) ?_
        refine qk_iconst C (1) dX1_goneBusts_21 22 rfl rfl ?_
        refine qk_icmp_ne C dX1_goneBusts_22 31 rfl 25 rfl (fun c_22 => ?_) (fun c_22 => ?_)
        · refine qk_iinc C (nI (b + 1)) dX1_goneBusts_31 34 rfl 0 rfl (nI_1 b) (by decide) rfl ?_
          refine qk_goto C dX1_goneBusts_34 4 rfl ?_
          exact ih_4 (b + 1) a ⟨by omega, by rw [hi.2]; exact (z_sel_f c_22).symm⟩ (by omega)
        · refine qk_iloadn C dX1_goneBusts_25 26 rfl rfl 1 rfl ?_
          refine qk_iconst C (1) dX1_goneBusts_26 27 rfl rfl ?_
          refine qk_iloadn C dX1_goneBusts_27 28 rfl rfl 0 rfl ?_
          refine qk_ishl C dX1_goneBusts_28 29 rfl ?_
          refine qk_ior C dX1_goneBusts_29 30 rfl ?_
          refine qk_istoren C dX1_goneBusts_30 31 rfl rfl (by decide) rfl ?_
          refine qk_iinc C (nI (b + 1)) dX1_goneBusts_31 34 rfl 1 rfl (nI_1 b) (by decide) rfl ?_
          refine qk_goto C dX1_goneBusts_34 4 rfl ?_
          exact ih_4 (b + 1) _ ⟨by omega, by rw [hi.2]; exact (z_sel_t c_22).symm⟩ (by omega)
  exact lp_4 _ 0 0 ⟨Nat.zero_le _, rfl⟩ (Nat.lt_succ_self _)

theorem c_X1_spotsTaken (l : Launch) (G : qx_G) (L N : Nat) (hL : qx_isL L) (σ : qx_Sg) (v : Nat → Int32) (hI : qv_ok v N) : qx_Ct l G yX1_spotsTaken cX1_spotsTaken 3 (some .int) 0 0 [.ref (qx_ad G L)] (qL σ L N v) (qx_pi (z_fo (z_Fsp v) 10) (qL σ L N v)) := by
  refine qx_of .int (lo := [(0, .ref (qx_ad G L))]) (by decide +kernel) (Nat.le_of_ble_eq_true rfl) rfl (fun Δ (C : qx_C G Δ cX1_spotsTaken RX1 3 0 0) hret => ?_)
  have hN8 := hI.1
  have hN1 := hI.2.1
  refine qk_iconst C (0) dX1_spotsTaken_0 1 rfl rfl ?_
  refine qk_istoren C dX1_spotsTaken_1 2 rfl rfl (by decide) rfl ?_
  refine qk_iconst C (nI 0) dX1_spotsTaken_2 3 rfl rfl ?_
  refine qk_istoren C dX1_spotsTaken_3 4 rfl rfl (by decide) rfl ?_
  have lp_4 : ∀ (n_4 : Nat) (b : Nat) (a : Int32), (b ≤ 10 ∧ a = z_fo (z_Fsp v) b) → 10 - b < n_4 → qx_K l G Δ (qL σ L N v) 4 [(2, .int (nI b)), (1, .int a), (0, .ref (qx_ad G L))] [] := by
    intro n_4
    induction n_4 with
    | zero => intro _ _ _ h9; exact absurd h9 (Nat.not_lt_zero _)
    | succ n_4 ih_4 =>
      intro b a hi hm_4
      refine qk_iloadn C dX1_spotsTaken_4 5 rfl rfl 0 rfl ?_
      refine qk_bipush C (nI 10) dX1_spotsTaken_5 7 rfl rfl ?_
      refine qk_icmp_ge C dX1_spotsTaken_7 28 rfl 10 rfl (fun c_7 => ?_) (fun c_7 => ?_)
      · have hbN : 10 ≤ b := (nI_leI (by omega) (by omega)).mp c_7
        refine qk_iloadn C dX1_spotsTaken_28 29 rfl rfl 1 rfl ?_
        exact hret _ _ _ _ dX1_spotsTaken_29 ⟨congrArg (fun x => some (Value.int x)) (by rw [hi.2, show b = 10 by omega]), rfl⟩ rfl
      · have hbN : b < 10 := Nat.not_le.mp (fun q => c_7 (nI_le q (by omega)))
        refine qk_aloadn C dX1_spotsTaken_10 11 rfl rfl 2 rfl ?_
        refine qk_get C dX1_spotsTaken_11 14 rfl qf_X1_31 _ hL.l65 (qx_Fl hL _) rfl ?_
        refine qk_iloadn C dX1_spotsTaken_14 15 rfl rfl 0 rfl ?_
        refine qk_iald C dX1_spotsTaken_15 16 rfl (L + 3) hL.l3 (qx_Fl3 hL) b rfl (by omega) (by decide) ?_
        refine qk_cast (qL_a3 b) ?_
        refine qk_if_lt C dX1_spotsTaken_16 22 rfl 19 rfl (fun c_16 => ?_) (fun c_16 => ?_)
        · refine qk_iinc C (nI (b + 1)) dX1_spotsTaken_22 25 rfl 0 rfl (nI_1 b) (by decide) rfl ?_
          refine qk_goto C dX1_spotsTaken_25 4 rfl ?_
          exact ih_4 (b + 1) a ⟨by omega, by rw [hi.2]; exact (z_sel_t c_16).symm⟩ (by omega)
        · refine qk_iinc C (a + 1) dX1_spotsTaken_19 22 rfl 1 rfl rfl (by decide) rfl ?_
          refine qk_iinc C (nI (b + 1)) dX1_spotsTaken_22 25 rfl 1 rfl (nI_1 b) (by decide) rfl ?_
          refine qk_goto C dX1_spotsTaken_25 4 rfl ?_
          exact ih_4 (b + 1) _ ⟨by omega, by rw [hi.2]; exact (z_sel_f c_16).symm⟩ (by omega)
  exact lp_4 _ 0 0 ⟨Nat.zero_le _, rfl⟩ (Nat.lt_succ_self _)

theorem c_X1_loudest (l : Launch) (G : qx_G) (L N : Nat) (hL : qx_isL L) (σ : qx_Sg) (v : Nat → Int32) (hI : qv_ok v N) : qx_Ct l G yX1_loudest cX1_loudest 4 (some .int) 3 66 [.ref (qx_ad G L)] (qL σ L N v) (qx_pi (z_oi (z_lo v N)) (qL σ L N v)) := by
  refine qx_of .int (lo := [(0, .ref (qx_ad G L))]) (by decide +kernel) (Nat.le_of_ble_eq_true rfl) rfl (fun Δ (C : qx_C G Δ cX1_loudest RX1 4 3 66) hret => ?_)
  have hN8 := hI.1
  have hN1 := hI.2.1
  refine qk_iconst C ((-1)) dX1_loudest_0 1 rfl rfl ?_
  refine qk_istoren C dX1_loudest_1 2 rfl rfl (by decide) rfl ?_
  refine qk_iconst C (nI 0) dX1_loudest_2 3 rfl rfl ?_
  refine qk_istoren C dX1_loudest_3 4 rfl rfl (by decide) rfl ?_
  have lp_4 : ∀ (n_4 : Nat) (b : Nat) (o : Option Nat), (b ≤ N ∧ o = z_lo v b) → N - b < n_4 → qx_K l G Δ (qL σ L N v) 4 [(2, .int (nI b)), (1, .int (z_oi o)), (0, .ref (qx_ad G L))] [] := by
    intro n_4
    induction n_4 with
    | zero => intro _ _ _ h9; exact absurd h9 (Nat.not_lt_zero _)
    | succ n_4 ih_4 =>
      intro b o hi hm_4
      refine qk_iloadn C dX1_loudest_4 5 rfl rfl 0 rfl ?_
      refine qk_aloadn C dX1_loudest_5 6 rfl rfl 2 rfl ?_
      refine qk_get C dX1_loudest_6 9 rfl qf_X1_21 _ hL.l65 (qx_Fl hL _) rfl ?_
      refine qk_cast qL_j3 ?_
      refine qk_cast hN1 ?_
      refine qk_icmp_ge C dX1_loudest_9 67 rfl 12 rfl (fun c_9 => ?_) (fun c_9 => ?_)
      · have hbN : N ≤ b := (nI_leI (by omega) (by omega)).mp c_9
        refine qk_iloadn C dX1_loudest_67 68 rfl rfl 1 rfl ?_
        exact hret _ _ _ _ dX1_loudest_68 ⟨congrArg (fun x => some (Value.int x)) (by rw [hi.2, show b = N by omega]), rfl⟩ rfl
      · have hbN : b < N := Nat.not_le.mp (fun q => c_9 (nI_le q (by omega)))
        rcases o with _ | h
        · refine qk_iloadn C dX1_loudest_12 13 rfl rfl 1 rfl ?_
          refine qk_if_lt C dX1_loudest_13 37 rfl 16 rfl (fun _ => ?_) (fun c => absurd (by decide) c)
          refine qk_iconst C (1) dX1_loudest_37 38 rfl rfl ?_
          refine qk_goto C dX1_loudest_38 42 rfl ?_
          refine qk_istoren C dX1_loudest_42 43 rfl rfl (by decide) rfl ?_
          refine qk_iloadn C dX1_loudest_43 44 rfl rfl 0 rfl ?_
          refine qk_if_eq C dX1_loudest_44 61 rfl 47 rfl (fun c => absurd c (by decide)) (fun _ => ?_)
          refine qk_aloadn C dX1_loudest_47 48 rfl rfl 3 rfl ?_
          refine qk_get C dX1_loudest_48 51 rfl qf_X1_36 _ hL.l65 (qx_Fl hL _) rfl ?_
          refine qk_iloadn C dX1_loudest_51 52 rfl rfl 1 rfl ?_
          refine qk_aald C dX1_loudest_52 53 rfl (L + 4) hL.l4 1 (qx_Fl4 hL _) rfl (b) rfl (by omega) (by decide) rfl ?_
          refine qk_get C dX1_loudest_53 56 rfl qf_X1_58 _ (qx_isB.of hL (show b < 8 by omega)).lt (qx_Fb (qx_isB.of hL (show b < 8 by omega)) _) rfl ?_
          refine qk_cast (qL_bf hbN _) ?_
          refine qk_if_ne C dX1_loudest_56 61 rfl 59 rfl (fun c_56 => ?_) (fun c_56 => ?_)
          · refine qk_iinc C (nI (b + 1)) dX1_loudest_61 64 rfl 1 rfl (nI_1 b) (by decide) rfl ?_
            refine qk_goto C dX1_loudest_64 4 rfl ?_
            exact qk_lo [0, 2, 3] rfl (ih_4 (b + 1) none ⟨by omega, by rw [hi.2]; exact (z_l1_f (fun q => c_56 q.1)).symm⟩ (by omega))
          · refine qk_iloadn C dX1_loudest_59 60 rfl rfl 1 rfl ?_
            refine qk_istoren C dX1_loudest_60 61 rfl rfl (by decide) rfl ?_
            refine qk_iinc C (nI (b + 1)) dX1_loudest_61 64 rfl 2 rfl (nI_1 b) (by decide) rfl ?_
            refine qk_goto C dX1_loudest_64 4 rfl ?_
            exact qk_lo [0, 1, 3] rfl (ih_4 (b + 1) (some b) ⟨by omega, by exact (z_l1_t ⟨c_56, fun h e => by rw [← hi.2] at e; cases e⟩).symm⟩ (by omega))
        · have hh : h < b := z_lo_lt hi.2.symm
          refine qk_iloadn C dX1_loudest_12 13 rfl rfl 1 rfl ?_
          refine qk_if_lt C dX1_loudest_13 37 rfl 16 rfl (fun c_13 => absurd c_13 (nI_pos (by omega))) (fun c_13 => ?_)
          refine qk_aloadn C dX1_loudest_16 17 rfl rfl 2 rfl ?_
          refine qk_get C dX1_loudest_17 20 rfl qf_X1_36 _ hL.l65 (qx_Fl hL _) rfl ?_
          refine qk_iloadn C dX1_loudest_20 21 rfl rfl 0 rfl ?_
          refine qk_aald C dX1_loudest_21 22 rfl (L + 4) hL.l4 1 (qx_Fl4 hL _) rfl (b) rfl (by omega) (by decide) rfl ?_
          refine qk_callV C dX1_loudest_22 25 rfl ql_X1_116 qc_X0_says _ (qx_isB.of hL (show b < 8 by omega)).lt (qx_Fb (qx_isB.of hL (show b < 8 by omega)) _) rfl (cL_X0_says l G L N b hL hN8 hbN σ v) rfl rfl (Nat.le_of_ble_eq_true rfl) ⟨(Nat.le_of_ble_eq_true rfl), (Nat.le_of_ble_eq_true rfl)⟩ (qx_Ki ?_)
          refine qk_aloadn C dX1_loudest_25 26 rfl rfl 2 rfl ?_
          refine qk_get C dX1_loudest_26 29 rfl qf_X1_36 _ hL.l65 (qx_Fl hL _) rfl ?_
          refine qk_iloadn C dX1_loudest_29 30 rfl rfl 1 rfl ?_
          refine qk_aald C dX1_loudest_30 31 rfl (L + 4) hL.l4 1 (qx_Fl4 hL _) rfl (h) rfl (by omega) (by decide) rfl ?_
          refine qk_callV C dX1_loudest_31 34 rfl ql_X1_116 qc_X0_says _ (qx_isB.of hL (show h < 8 by omega)).lt (qx_Fb (qx_isB.of hL (show h < 8 by omega)) _) rfl (cL_X0_says l G L N h hL hN8 (show h < N by omega) σ v) rfl rfl (Nat.le_of_ble_eq_true rfl) ⟨(Nat.le_of_ble_eq_true rfl), (Nat.le_of_ble_eq_true rfl)⟩ (qx_Ki ?_)
          refine qk_icmp_le C dX1_loudest_34 41 rfl 37 rfl (fun c_34 => ?_) (fun c_34 => ?_)
          · refine qk_iconst C (0) dX1_loudest_41 42 rfl rfl ?_
            refine qk_istoren C dX1_loudest_42 43 rfl rfl (by decide) rfl ?_
            refine qk_iloadn C dX1_loudest_43 44 rfl rfl 0 rfl ?_
            refine qk_if_eq C dX1_loudest_44 61 rfl 47 rfl (fun _ => ?_) (fun c => absurd rfl c)
            refine qk_iinc C (nI (b + 1)) dX1_loudest_61 64 rfl 1 rfl (nI_1 b) (by decide) rfl ?_
            refine qk_goto C dX1_loudest_64 4 rfl ?_
            exact qk_lo [0, 2, 3] rfl (ih_4 (b + 1) (some h) ⟨by omega, by rw [hi.2]; exact (z_l1_f (fun q => q.2 h hi.2.symm c_34)).symm⟩ (by omega))
          · refine qk_iconst C (1) dX1_loudest_37 38 rfl rfl ?_
            refine qk_goto C dX1_loudest_38 42 rfl ?_
            refine qk_istoren C dX1_loudest_42 43 rfl rfl (by decide) rfl ?_
            refine qk_iloadn C dX1_loudest_43 44 rfl rfl 0 rfl ?_
            refine qk_if_eq C dX1_loudest_44 61 rfl 47 rfl (fun c => absurd c (by decide)) (fun _ => ?_)
            refine qk_aloadn C dX1_loudest_47 48 rfl rfl 3 rfl ?_
            refine qk_get C dX1_loudest_48 51 rfl qf_X1_36 _ hL.l65 (qx_Fl hL _) rfl ?_
            refine qk_iloadn C dX1_loudest_51 52 rfl rfl 1 rfl ?_
            refine qk_aald C dX1_loudest_52 53 rfl (L + 4) hL.l4 1 (qx_Fl4 hL _) rfl (b) rfl (by omega) (by decide) rfl ?_
            refine qk_get C dX1_loudest_53 56 rfl qf_X1_58 _ (qx_isB.of hL (show b < 8 by omega)).lt (qx_Fb (qx_isB.of hL (show b < 8 by omega)) _) rfl ?_
            refine qk_cast (qL_bf hbN _) ?_
            refine qk_if_ne C dX1_loudest_56 61 rfl 59 rfl (fun c_56 => ?_) (fun c_56 => ?_)
            · refine qk_iinc C (nI (b + 1)) dX1_loudest_61 64 rfl 1 rfl (nI_1 b) (by decide) rfl ?_
              refine qk_goto C dX1_loudest_64 4 rfl ?_
              exact qk_lo [0, 2, 3] rfl (ih_4 (b + 1) (some h) ⟨by omega, by rw [hi.2]; exact (z_l1_f (fun q => c_56 q.1)).symm⟩ (by omega))
            · refine qk_iloadn C dX1_loudest_59 60 rfl rfl 1 rfl ?_
              refine qk_istoren C dX1_loudest_60 61 rfl rfl (by decide) rfl ?_
              refine qk_iinc C (nI (b + 1)) dX1_loudest_61 64 rfl 2 rfl (nI_1 b) (by decide) rfl ?_
              refine qk_goto C dX1_loudest_64 4 rfl ?_
              exact qk_lo [0, 1, 3] rfl (ih_4 (b + 1) (some b) ⟨by omega, by exact (z_l1_t ⟨c_56, fun h0 e => by rw [← hi.2] at e; cases e; exact c_34⟩).symm⟩ (by omega))
  exact lp_4 _ 0 none ⟨Nat.zero_le _, rfl⟩ (Nat.lt_succ_self _)

theorem c_X1_mayDifferAt (l : Launch) (G : qx_G) (L N : Nat) (hL : qx_isL L) (σ : qx_Sg) (v : Nat → Int32) (hI : qv_ok v N) (B : Nat) (hB : B < 8) (dt : Int32) : qx_Ct l G yX1_mayDifferAt cX1_mayDifferAt 4 (some .boolean) 0 0 [.ref (qx_ad G L), .int (nI B), .int dt] (qL σ L N v) (qx_pi (qb (z_md v N B dt)) (qL σ L N v)) := by
  refine qx_of .boolean (lo := [(0, .ref (qx_ad G L)), (1, .int (nI B)), (2, .int dt)]) (by decide +kernel) (Nat.le_of_ble_eq_true rfl) rfl (fun Δ (C : qx_C G Δ cX1_mayDifferAt RX1 4 0 0) hret => ?_)
  have hN8 := hI.1
  have hN1 := hI.2.1
  refine qk_iloadn C dX1_mayDifferAt_0 1 rfl rfl 2 rfl ?_
  refine qk_sipush C (999) dX1_mayDifferAt_1 4 rfl rfl ?_
  refine qk_icmp_ne C dX1_mayDifferAt_4 9 rfl 7 rfl (fun c_4 => ?_) (fun c_4 => ?_)
  · refine qk_iconst C (nI 0) dX1_mayDifferAt_9 10 rfl rfl ?_
    refine qk_istoren C dX1_mayDifferAt_10 11 rfl rfl (by decide) rfl ?_
    have lp_11 : ∀ (n_11 : Nat) (b : Nat), (b ≤ N ∧ ∀ c, c < b → ¬ (¬ c = B ∧ (v (32 + 7 * c + 1) = dt ∨ v (32 + 7 * c + 1) = dt + 1))) → N - b < n_11 → qx_K l G Δ (qL σ L N v) 11 [(3, .int (nI b)), (0, .ref (qx_ad G L)), (1, .int (nI B)), (2, .int dt)] [] := by
      intro n_11
      induction n_11 with
      | zero => intro _ _ h9; exact absurd h9 (Nat.not_lt_zero _)
      | succ n_11 ih_11 =>
        intro b hi hm_11
        refine qk_iloadn C dX1_mayDifferAt_11 12 rfl rfl 0 rfl ?_
        refine qk_aloadn C dX1_mayDifferAt_12 13 rfl rfl 1 rfl ?_
        refine qk_get C dX1_mayDifferAt_13 16 rfl qf_X1_21 _ hL.l65 (qx_Fl hL _) rfl ?_
        refine qk_cast qL_j3 ?_
        refine qk_cast hN1 ?_
        refine qk_icmp_ge C dX1_mayDifferAt_16 60 rfl 19 rfl (fun c_16 => ?_) (fun c_16 => ?_)
        · have hbN : N ≤ b := (nI_leI (by omega) (by omega)).mp c_16
          refine qk_iconst C (0) dX1_mayDifferAt_60 61 rfl rfl ?_
          exact hret _ _ _ _ dX1_mayDifferAt_61 ⟨congrArg (fun x => some (Value.int x)) ((qb_f (fun q => q.elim c_4 (fun ⟨c, hc, q1, q2⟩ => hi.2 c (by omega) ⟨q1, q2⟩))).symm), rfl⟩ rfl
        · have hbN : b < N := Nat.not_le.mp (fun q => c_16 (nI_le q (by omega)))
          refine qk_iloadn C dX1_mayDifferAt_19 20 rfl rfl 0 rfl ?_
          refine qk_iloadn C dX1_mayDifferAt_20 21 rfl rfl 2 rfl ?_
          refine qk_icmp_eq C dX1_mayDifferAt_21 54 rfl 24 rfl (fun c_21 => ?_) (fun c_21 => ?_)
          · refine qk_iinc C (nI (b + 1)) dX1_mayDifferAt_54 57 rfl 0 rfl (nI_1 b) (by decide) rfl ?_
            refine qk_goto C dX1_mayDifferAt_57 11 rfl ?_
            exact ih_11 (b + 1) ⟨by omega, lt_s hi.2 (fun q => q.1 ((nI_eq (by omega) (by omega)).mp c_21))⟩ (by omega)
          · refine qk_aloadn C dX1_mayDifferAt_24 25 rfl rfl 1 rfl ?_
            refine qk_get C dX1_mayDifferAt_25 28 rfl qf_X1_36 _ hL.l65 (qx_Fl hL _) rfl ?_
            refine qk_iloadn C dX1_mayDifferAt_28 29 rfl rfl 0 rfl ?_
            refine qk_aald C dX1_mayDifferAt_29 30 rfl (L + 4) hL.l4 1 (qx_Fl4 hL _) rfl (b) rfl (by omega) (by decide) rfl ?_
            refine qk_get C dX1_mayDifferAt_30 33 rfl qf_X1_55 _ (qx_isB.of hL (show b < 8 by omega)).lt (qx_Fb (qx_isB.of hL (show b < 8 by omega)) _) rfl ?_
            refine qk_cast (qL_bf hbN _) ?_
            refine qk_iloadn C dX1_mayDifferAt_33 34 rfl rfl 3 rfl ?_
            refine qk_icmp_eq C dX1_mayDifferAt_34 52 rfl 37 rfl (fun c_34 => ?_) (fun c_34 => ?_)
            · refine qk_iconst C (1) dX1_mayDifferAt_52 53 rfl rfl ?_
              exact hret _ _ _ _ dX1_mayDifferAt_53 ⟨congrArg (fun x => some (Value.int x)) ((qb_t (by
                          have hne : ¬ b = B := fun q => c_21 (by rw [q])
                          first | exact Or.inr ⟨b, hbN, hne, Or.inl c_34⟩ | exact Or.inr ⟨b, hbN, hne, Or.inr c_49⟩)).symm), rfl⟩ rfl
            · refine qk_aloadn C dX1_mayDifferAt_37 38 rfl rfl 1 rfl ?_
              refine qk_get C dX1_mayDifferAt_38 41 rfl qf_X1_36 _ hL.l65 (qx_Fl hL _) rfl ?_
              refine qk_iloadn C dX1_mayDifferAt_41 42 rfl rfl 0 rfl ?_
              refine qk_aald C dX1_mayDifferAt_42 43 rfl (L + 4) hL.l4 1 (qx_Fl4 hL _) rfl (b) rfl (by omega) (by decide) rfl ?_
              refine qk_get C dX1_mayDifferAt_43 46 rfl qf_X1_55 _ (qx_isB.of hL (show b < 8 by omega)).lt (qx_Fb (qx_isB.of hL (show b < 8 by omega)) _) rfl ?_
              refine qk_cast (qL_bf hbN _) ?_
              refine qk_iloadn C dX1_mayDifferAt_46 47 rfl rfl 3 rfl ?_
              refine qk_iconst C (1) dX1_mayDifferAt_47 48 rfl rfl ?_
              refine qk_iadd C dX1_mayDifferAt_48 49 rfl ?_
              refine qk_icmp_ne C dX1_mayDifferAt_49 54 rfl 52 rfl (fun c_49 => ?_) (fun c_49 => ?_)
              · refine qk_iinc C (nI (b + 1)) dX1_mayDifferAt_54 57 rfl 0 rfl (nI_1 b) (by decide) rfl ?_
                refine qk_goto C dX1_mayDifferAt_57 11 rfl ?_
                exact ih_11 (b + 1) ⟨by omega, lt_s hi.2 (fun q => q.2.elim c_34 c_49)⟩ (by omega)
              · refine qk_iconst C (1) dX1_mayDifferAt_52 53 rfl rfl ?_
                exact hret _ _ _ _ dX1_mayDifferAt_53 ⟨congrArg (fun x => some (Value.int x)) ((qb_t (by
                            have hne : ¬ b = B := fun q => c_21 (by rw [q])
                            first | exact Or.inr ⟨b, hbN, hne, Or.inl c_34⟩ | exact Or.inr ⟨b, hbN, hne, Or.inr c_49⟩)).symm), rfl⟩ rfl
    exact lp_11 _ 0 ⟨Nat.zero_le _, lt_0⟩ (Nat.lt_succ_self _)
  · refine qk_iconst C (1) dX1_mayDifferAt_7 8 rfl rfl ?_
    exact hret _ _ _ _ dX1_mayDifferAt_8 ⟨congrArg (fun x => some (Value.int x)) ((qb_t (Or.inl c_4)).symm), rfl⟩ rfl

theorem qx_F_pres {G : qx_G} {L : Nat} : True := trivial
/-- a library's cells hold the row v, N busts of it -/
def qH (σ : qx_Sg) (L N : Nat) (v : Nat → Int32) : Prop := (∀ j, j < 4 → σ L j = v (qx_pm j)) ∧ (∀ i, i < 6 → σ (L + 1) i = v (4 + i)) ∧ (∀ i, i < 12 → σ (L + 2) i = v (10 + i)) ∧ (∀ i, i < 10 → σ (L + 3) i = v (22 + i)) ∧ ∀ b, b < N → ∀ f, f < 7 → σ (L + 5 + b) f = v (32 + 7 * b + f)
theorem qH_qL {σ : qx_Sg} {L N : Nat} {v : Nat → Int32} : qH (qL σ L N v) L N v :=
  ⟨fun j _ => congrFun qL_0 j, fun i _ => qL_a1 i, fun i _ => qL_a2 i, fun i _ => qL_a3 i, fun _ hb f _ => qL_bf hb f⟩
/-- a library that is another one: nothing of it is seen in the cells of the first -/
theorem qL_ap {σ : qx_Sg} {L M N : Nat} {v : Nat → Int32} (hL : qx_isL L) (hM : qx_isL M) (hne : ¬ M = L) (hN8 : N ≤ 8) (e : Nat) (he : e < 13) : qL σ L N v (M + e) = σ (M + e) := by
  apply qL_o <;> rcases hL with rfl | rfl | rfl <;> rcases hM with rfl | rfl | rfl <;> omega
theorem qH_ap {σ : qx_Sg} {L M N n : Nat} {v w : Nat → Int32} (hL : qx_isL L) (hM : qx_isL M) (hne : ¬ M = L) (hN8 : N ≤ 8) (hn8 : n ≤ 8) (h : qH σ M N w) : qH (qL σ L n v) M N w := by
  obtain ⟨h0, h1, h2, h3, h5⟩ := h
  refine ⟨fun j hj => ?_, fun j hj => ?_, fun j hj => ?_, fun j hj => ?_, fun b hb f hf => ?_⟩
  · rw [show M = M + 0 from rfl, qL_ap hL hM hne hn8 0 (by omega)]; exact h0 j hj
  · rw [qL_ap hL hM hne hn8 1 (by omega)]; exact h1 j hj
  · rw [qL_ap hL hM hne hn8 2 (by omega)]; exact h2 j hj
  · rw [qL_ap hL hM hne hn8 3 (by omega)]; exact h3 j hj
  · rw [Nat.add_assoc, qL_ap hL hM hne hn8 (5 + b) (by omega), ← Nat.add_assoc]; exact h5 b hb f hf
theorem qx_far {L M e : Nat} (hL : qx_isL L) (hM : qx_isL M) (hne : ¬ M = L) (he : e < 13) (k : Nat) (hk : L ≤ k ∧ k < L + 13) : ¬ M + e = k := by
  rcases hL with rfl | rfl | rfl <;> rcases hM with rfl | rfl | rfl <;> omega
/-- the row as its four numbers and three rows are copied -/
theorem qL_cp0 {G : qx_G} {σ : qx_Sg} {L M N : Nat} {v : Nat → Int32} (hL : qx_isL L) (hM : qx_isL M) (hne : ¬ M = L) (h : qH σ M N v) {τ : qx_Sg} (h0 : ∀ j, j < 4 → τ L j = σ M j) (h1 : ∀ i, i < 6 → τ (L + 1) i = σ (M + 1) i) (h2 : ∀ i, i < 12 → τ (L + 2) i = σ (M + 2) i) (h3 : ∀ i, i < 10 → τ (L + 3) i = σ (M + 3) i) (ho : ∀ k, ¬ (L ≤ k ∧ k < L + 4) → τ k = σ k) : ∀ k, k < 65 → qx_F G k (τ k) = qx_F G k (qL σ L 0 v k) := by
  refine qL_same hL (by omega) (fun j hj => (h0 j hj).trans (h.1 j hj)) (fun i hi => (h1 i hi).trans (h.2.1 i hi)) (fun i hi => (h2 i hi).trans (h.2.2.1 i hi)) (fun i hi => (h3 i hi).trans (h.2.2.2.1 i hi)) (fun b hb => by omega) (fun b _ _ => ho _ (by omega)) (fun k hk => ho k (by omega))
theorem qL_cpb {G : qx_G} {σ : qx_Sg} {L M N b : Nat} {v : Nat → Int32} (hL : qx_isL L) (hM : qx_isL M) (hne : ¬ M = L) (hN8 : N ≤ 8) (hb : b < N) (h : qH σ M N v) : ∀ k, k < 65 → qx_F G k (va_up (qL σ L b v) (L + 5 + b) (qL σ L b v (M + 5 + b)) k) = qx_F G k (qL σ L (b + 1) v k) := by
  refine qL_same hL (by omega) (fun j hj => ?_) (fun i hi => ?_) (fun i hi => ?_) (fun i hi => ?_) (fun c hc f hf => ?_) (fun c hc hc8 => ?_) (fun k hk => ?_)
  · rw [qx_up_ne (by omega), qL_0]
  · rw [qx_up_ne (by omega), qL_1]
  · rw [qx_up_ne (by omega), qL_2]
  · rw [qx_up_ne (by omega), qL_3]
  · by_cases e : c = b
    · subst e
      rw [qx_up_eq, Nat.add_assoc M, qL_ap hL hM hne (by omega) (5 + c) (by omega), ← Nat.add_assoc]
      exact h.2.2.2.2 c hb f hf
    · rw [qx_up_ne (by omega), qL_b (by omega)]; rfl
  · rw [qx_up_ne (by omega), qL_s (by omega)]
  · rw [qx_up_ne (by omega), qL_o (by omega) (by omega)]
theorem c_X1_copyFrom (l : Launch) (G : qx_G) (L M N : Nat) (hL : qx_isL L) (hM : qx_isL M) (hne : ¬ M = L) (σ : qx_Sg) (v : Nat → Int32) (hI : qv_ok v N) (hH : qH σ M N v) : qx_Ct l G yX1_copyFrom cX1_copyFrom 3 none 1 60 [.ref (qx_ad G L), .ref (qx_ad G M)] (σ) (qx_pv (qL σ L N v)) := by
  refine qx_ofV (lo := [(0, .ref (qx_ad G L)), (1, .ref (qx_ad G M))]) (by decide +kernel) (Nat.le_of_ble_eq_true rfl) rfl (fun Δ (C : qx_C G Δ cX1_copyFrom RX1 3 1 60) hret => ?_)
  have hN8 := hI.1
  have hN1 := hI.2.1
  have a0 : ∀ e, e < 4 → ∀ d, d < 4 → ¬ M + e = L + d := fun e he d hd => qx_far hL hM hne (by omega) _ ⟨by omega, by omega⟩
  have b0 := a0 0 (by omega) 0 (by omega)
  have b1 := a0 0 (by omega) 1 (by omega)
  have b2 := a0 0 (by omega) 2 (by omega)
  have b3 := a0 0 (by omega) 3 (by omega)
  have c0 := a0 1 (by omega) 0 (by omega)
  have c1 := a0 1 (by omega) 1 (by omega)
  have d0 := a0 2 (by omega) 0 (by omega)
  have d1 := a0 2 (by omega) 1 (by omega)
  have d2 := a0 2 (by omega) 2 (by omega)
  have e0 := a0 3 (by omega) 0 (by omega)
  have e1 := a0 3 (by omega) 1 (by omega)
  have e2 := a0 3 (by omega) 2 (by omega)
  have e3 := a0 3 (by omega) 3 (by omega)
  simp only [Nat.add_zero] at b0 b1 b2 b3 c0 d0 e0
  refine qk_aloadn C dX1_copyFrom_0 1 rfl rfl 0 rfl ?_
  refine qk_aloadn C dX1_copyFrom_1 2 rfl rfl 1 rfl ?_
  refine qk_get C dX1_copyFrom_2 5 rfl qf_X1_9 _ hM.l65 (qx_Fl hM _) rfl ?_
  refine qk_cast (show _ = σ M 0 from by simp [va_up, upd, hne]) ?_
  refine qk_put C .int dX1_copyFrom_5 8 rfl qf_X1_9 _ hL.l65 (qx_Fl hL _) (fun q hq => by cases hq; rfl) rfl rfl (Nat.le_of_ble_eq_true rfl) (qx_Fl hL _) ?_
  refine qk_aloadn C dX1_copyFrom_8 9 rfl rfl 0 rfl ?_
  refine qk_aloadn C dX1_copyFrom_9 10 rfl rfl 1 rfl ?_
  refine qk_get C dX1_copyFrom_10 13 rfl qf_X1_15 _ hM.l65 (qx_Fl hM _) rfl ?_
  refine qk_cast (show _ = σ M 1 from by simp [va_up, upd, hne]) ?_
  refine qk_put C .int dX1_copyFrom_13 16 rfl qf_X1_15 _ hL.l65 (qx_Fl hL _) (fun q hq => by cases hq; rfl) rfl rfl (Nat.le_of_ble_eq_true rfl) (qx_Fl hL _) ?_
  refine qk_aloadn C dX1_copyFrom_16 17 rfl rfl 0 rfl ?_
  refine qk_aloadn C dX1_copyFrom_17 18 rfl rfl 1 rfl ?_
  refine qk_get C dX1_copyFrom_18 21 rfl qf_X1_18 _ hM.l65 (qx_Fl hM _) rfl ?_
  refine qk_cast (show _ = σ M 2 from by simp [va_up, upd, hne]) ?_
  refine qk_put C .int dX1_copyFrom_21 24 rfl qf_X1_18 _ hL.l65 (qx_Fl hL _) (fun q hq => by cases hq; rfl) rfl rfl (Nat.le_of_ble_eq_true rfl) (qx_Fl hL _) ?_
  refine qk_aloadn C dX1_copyFrom_24 25 rfl rfl 0 rfl ?_
  refine qk_aloadn C dX1_copyFrom_25 26 rfl rfl 1 rfl ?_
  refine qk_get C dX1_copyFrom_26 29 rfl qf_X1_21 _ hM.l65 (qx_Fl hM _) rfl ?_
  refine qk_cast (show _ = σ M 3 from by simp [va_up, upd, hne]) ?_
  refine qk_put C .int dX1_copyFrom_29 32 rfl qf_X1_21 _ hL.l65 (qx_Fl hL _) (fun q hq => by cases hq; rfl) rfl rfl (Nat.le_of_ble_eq_true rfl) (qx_Fl hL _) ?_
  refine qk_cg (va_up σ L (σ M)) (qL_world hL (fun j hj => by
    have : j = 0 ∨ j = 1 ∨ j = 2 ∨ j = 3 := by omega
    rcases this with rfl | rfl | rfl | rfl <;> simp [va_up, upd]) (fun _ _ => by simp [va_up]) (fun _ _ => by simp [va_up]) (fun _ _ => by simp [va_up]) (fun b _ f _ => by have e : ¬ L + 5 + b = L := (by omega); simp [va_up, e]) (fun k hk => by have e : ¬ k = L := (by omega); simp [va_up, e])) ?_
  refine qk_aloadn C dX1_copyFrom_32 33 rfl rfl 1 rfl ?_
  refine qk_get C dX1_copyFrom_33 36 rfl qf_X1_24 _ hM.l65 (qx_Fl hM _) rfl ?_
  refine qk_iconst C (nI 0) dX1_copyFrom_36 37 rfl rfl ?_
  refine qk_aloadn C dX1_copyFrom_37 38 rfl rfl 0 rfl ?_
  refine qk_get C dX1_copyFrom_38 41 rfl qf_X1_24 _ hL.l65 (qx_Fl hL _) rfl ?_
  refine qk_iconst C (nI 0) dX1_copyFrom_41 42 rfl rfl ?_
  refine qk_bipush C (nI 6) dX1_copyFrom_42 44 rfl rfl ?_
  refine qk_acopy C dX1_copyFrom_44 47 rfl ql_X1_41 (M + 1) (L + 1) hM.l1 hL.l1 (qx_Fl1 hM) (qx_Fl1 hL) 0 0 6 rfl rfl rfl (by decide) (by decide) (by decide) (by decide) ⟨(Nat.le_of_ble_eq_true rfl), (Nat.le_of_ble_eq_true rfl)⟩ ?_
  refine qk_aloadn C dX1_copyFrom_47 48 rfl rfl 1 rfl ?_
  refine qk_get C dX1_copyFrom_48 51 rfl qf_X1_28 _ hM.l65 (qx_Fl hM _) rfl ?_
  refine qk_iconst C (nI 0) dX1_copyFrom_51 52 rfl rfl ?_
  refine qk_aloadn C dX1_copyFrom_52 53 rfl rfl 0 rfl ?_
  refine qk_get C dX1_copyFrom_53 56 rfl qf_X1_28 _ hL.l65 (qx_Fl hL _) rfl ?_
  refine qk_iconst C (nI 0) dX1_copyFrom_56 57 rfl rfl ?_
  refine qk_bipush C (nI 12) dX1_copyFrom_57 59 rfl rfl ?_
  refine qk_acopy C dX1_copyFrom_59 62 rfl ql_X1_41 (M + 2) (L + 2) hM.l2 hL.l2 (qx_Fl2 hM) (qx_Fl2 hL) 0 0 12 rfl rfl rfl (by decide) (by decide) (by decide) (by decide) ⟨(Nat.le_of_ble_eq_true rfl), (Nat.le_of_ble_eq_true rfl)⟩ ?_
  refine qk_aloadn C dX1_copyFrom_62 63 rfl rfl 1 rfl ?_
  refine qk_get C dX1_copyFrom_63 66 rfl qf_X1_31 _ hM.l65 (qx_Fl hM _) rfl ?_
  refine qk_iconst C (nI 0) dX1_copyFrom_66 67 rfl rfl ?_
  refine qk_aloadn C dX1_copyFrom_67 68 rfl rfl 0 rfl ?_
  refine qk_get C dX1_copyFrom_68 71 rfl qf_X1_31 _ hL.l65 (qx_Fl hL _) rfl ?_
  refine qk_iconst C (nI 0) dX1_copyFrom_71 72 rfl rfl ?_
  refine qk_bipush C (nI 10) dX1_copyFrom_72 74 rfl rfl ?_
  refine qk_acopy C dX1_copyFrom_74 77 rfl ql_X1_41 (M + 3) (L + 3) hM.l3 hL.l3 (qx_Fl3 hM) (qx_Fl3 hL) 0 0 10 rfl rfl rfl (by decide) (by decide) (by decide) (by decide) ⟨(Nat.le_of_ble_eq_true rfl), (Nat.le_of_ble_eq_true rfl)⟩ ?_
  refine qk_cg (qL σ L 0 v) (qL_cp0 hL hM hne hH (fun j hj => by simp [va_up]) (fun i hi => by simp [va_up, va_cpy, c0, hi]) (fun i hi => by simp [va_up, va_cpy, d0, d1, hi]) (fun i hi => by simp [va_up, va_cpy, e0, e1, e2, hi]) (fun k hk => by rw [qx_up_ne (by omega), qx_up_ne (by omega), qx_up_ne (by omega), qx_up_ne (by omega)])) ?_
  refine qk_iconst C (nI 0) dX1_copyFrom_77 78 rfl rfl ?_
  refine qk_istoren C dX1_copyFrom_78 79 rfl rfl (by decide) rfl ?_
  have lp_79 : ∀ (n_79 : Nat) (b : Nat), b ≤ N → N - b < n_79 → qx_K l G Δ (qL σ L b v) 79 [(2, .int (nI b)), (0, .ref (qx_ad G L)), (1, .ref (qx_ad G M))] [] := by
    intro n_79
    induction n_79 with
    | zero => intro _ _ h9; exact absurd h9 (Nat.not_lt_zero _)
    | succ n_79 ih_79 =>
      intro b hi hm_79
      refine qk_iloadn C dX1_copyFrom_79 80 rfl rfl 0 rfl ?_
      refine qk_aloadn C dX1_copyFrom_80 81 rfl rfl 1 rfl ?_
      refine qk_get C dX1_copyFrom_81 84 rfl qf_X1_21 _ hL.l65 (qx_Fl hL _) rfl ?_
      refine qk_cast (qL_j3.trans hN1) ?_
      refine qk_icmp_ge C dX1_copyFrom_84 108 rfl 87 rfl (fun c_84 => ?_) (fun c_84 => ?_)
      · have hbN : N ≤ b := (nI_leI (by omega) (by omega)).mp c_84
        exact hret _ _ _ dX1_copyFrom_108 ⟨rfl, by rw [show b = N by omega]⟩
      · have hbN : b < N := Nat.not_le.mp (fun q => c_84 (nI_le q (by omega)))
        refine qk_aloadn C dX1_copyFrom_87 88 rfl rfl 1 rfl ?_
        refine qk_get C dX1_copyFrom_88 91 rfl qf_X1_36 _ hL.l65 (qx_Fl hL _) rfl ?_
        refine qk_iloadn C dX1_copyFrom_91 92 rfl rfl 0 rfl ?_
        refine qk_aald C dX1_copyFrom_92 93 rfl (L + 4) hL.l4 1 (qx_Fl4 hL _) rfl (b) rfl (by omega) (by decide) rfl ?_
        refine qk_aloadn C dX1_copyFrom_93 94 rfl rfl 2 rfl ?_
        refine qk_get C dX1_copyFrom_94 97 rfl qf_X1_36 _ hM.l65 (qx_Fl hM _) rfl ?_
        refine qk_iloadn C dX1_copyFrom_97 98 rfl rfl 0 rfl ?_
        refine qk_aald C dX1_copyFrom_98 99 rfl (M + 4) hM.l4 1 (qx_Fl4 hM _) rfl (b) rfl (by omega) (by decide) rfl ?_
        refine qk_callV C dX1_copyFrom_99 102 rfl ql_X1_47 qc_X0_copyFrom _ (qx_isB.of hL (show b < 8 by omega)).lt (qx_Fb (qx_isB.of hL (show b < 8 by omega)) _) rfl (c_X0_copyFrom l G (L + 5 + b) (qx_isB.of hL (by omega)) _ (M + 5 + b) (qx_isB.of hM (by omega)) (by rw [Nat.add_assoc]; exact qx_far hL hM hne (by omega) (L + 5 + b) ⟨by omega, by omega⟩)) rfl rfl (Nat.le_of_ble_eq_true rfl) ⟨(Nat.le_of_ble_eq_true rfl), (Nat.le_of_ble_eq_true rfl)⟩ (qx_Kv ?_)
        refine qk_cg _ (qL_cpb hL hM hne hN8 hbN hH) ?_
        refine qk_iinc C (nI (b + 1)) dX1_copyFrom_102 105 rfl 0 rfl (nI_1 b) (by decide) rfl ?_
        refine qk_goto C dX1_copyFrom_105 79 rfl ?_
        exact ih_79 (b + 1) (by omega) (by omega)
  exact lp_79 _ 0 (Nat.zero_le _) (Nat.lt_succ_self _)

theorem qL_add {G : qx_G} {σ : qx_Sg} {L N : Nat} {v : Nat → Int32} {kd dt : Int32} (hL : qx_isL L) (hN : N < 8) : ∀ k, k < 65 → qx_F G k (va_up (va_up (qL σ L N v) (L + 5 + N) (z_bg kd dt)) L (upd (va_up (qL σ L N v) (L + 5 + N) (z_bg kd dt) L) 3 (nI (N + 1))) k) = qx_F G k (qL σ L (N + 1) (z_cm v N kd dt) k) := by
  have hz : ∀ i, ¬ i = 1 → ¬ (32 + 7 * N ≤ i ∧ i < 32 + 7 * N + 7) → z_cm v N kd dt i = v i := fun i h1 h2 => by unfold z_cm; rw [if_neg h1, if_neg h2]
  refine qL_same hL (by omega) (fun j hj => ?_) (fun i hi => ?_) (fun i hi => ?_) (fun i hi => ?_) (fun c hc f hf => ?_) (fun c hc hc8 => ?_) (fun k hk => ?_)
  · rw [qx_up_eq, qx_up_ne (by omega), qL_0]
    have : j = 0 ∨ j = 1 ∨ j = 2 ∨ j = 3 := by omega
    rcases this with rfl | rfl | rfl | rfl
    · rw [upd_ne (by omega), hz _ (by decide) (by simp [qx_pm])]
    · rw [upd_ne (by omega), hz _ (by decide) (by simp [qx_pm]; omega)]
    · rw [upd_ne (by omega), hz _ (by decide) (by simp [qx_pm]; omega)]
    · rw [upd_eq]; rfl
  · rw [qx_up_ne (by omega), qx_up_ne (by omega), qL_1, hz _ (by omega) (by omega)]
  · rw [qx_up_ne (by omega), qx_up_ne (by omega), qL_2, hz _ (by omega) (by omega)]
  · rw [qx_up_ne (by omega), qx_up_ne (by omega), qL_3, hz _ (by omega) (by omega)]
  · rw [qx_up_ne (by omega)]
    by_cases e : c = N
    · subst e
      rw [qx_up_eq]
      unfold z_cm
      rw [if_neg (by omega), if_pos ⟨by omega, by omega⟩, show 32 + 7 * c + f - (32 + 7 * c) = f by omega]
    · rw [qx_up_ne (by omega), qL_b (by omega), hz _ (by omega) (by omega)]; rfl
  · rw [qx_up_ne (by omega), qx_up_ne (by omega), qL_s (by omega)]
  · rw [qx_up_ne (by omega), qx_up_ne (by omega), qL_o (by omega) (by omega)]
theorem qv_cm {v : Nat → Int32} {N : Nat} {kd dt : Int32} (h : qv_ok v N) (hN : N < 8) (hk : ∃ q, q ≤ 6 ∧ kd = nI q) : qv_ok (z_cm v N kd dt) (N + 1) := by
  have hz : ∀ i, ¬ i = 1 → ¬ (32 + 7 * N ≤ i ∧ i < 32 + 7 * N + 7) → z_cm v N kd dt i = v i := fun i h1 h2 => by unfold z_cm; rw [if_neg h1, if_neg h2]
  have hy : ∀ f, f < 7 → z_cm v N kd dt (32 + 7 * N + f) = z_bg kd dt f := fun f hf => by
    unfold z_cm
    rw [if_neg (by omega), if_pos ⟨by omega, by omega⟩, show 32 + 7 * N + f - (32 + 7 * N) = f by omega]
  obtain ⟨a1, a2, a3, a4, a5, a6⟩ := h
  refine ⟨by omega, rfl, ?_, fun j hj => ?_, fun b hb => ?_, fun j hj => ?_⟩
  · rw [hz 0 (by omega) (by omega)]; exact a3
  · rw [hz _ (by omega) (by omega)]; exact a4 j hj
  · by_cases e : b = N
    · subst e
      rw [hy 0 (by omega), hy 2 (by omega), hy 6 (by omega)]
      exact ⟨hk, ⟨3, by omega, rfl⟩, Or.inl rfl⟩
    · rw [hz _ (by omega) (by omega), hz _ (by omega) (by omega), hz _ (by omega) (by omega)]; exact a5 b (by omega)
  · rw [hz _ (by omega) (by omega)]
    rcases a6 j hj with h | ⟨b, hb, e⟩
    · exact Or.inl h
    · exact Or.inr ⟨b, by omega, e⟩
theorem c_X1_addBustF (l : Launch) (G : qx_G) (L N : Nat) (hL : qx_isL L) (σ : qx_Sg) (v : Nat → Int32) (hI : qv_ok v N) (hF : 8 ≤ N) (kd dt : Int32) : qx_Ct l G yX1_addBust cX1_addBust 3 (some .int) 1 22 [.ref (qx_ad G L), .int kd, .int dt] (qL σ L N v) (qx_pi (-1) (qL σ L N v)) := by
  refine qx_of .int (lo := [(0, .ref (qx_ad G L)), (1, .int kd), (2, .int dt)]) (by decide +kernel) (Nat.le_of_ble_eq_true rfl) rfl (fun Δ (C : qx_C G Δ cX1_addBust RX1 3 1 22) hret => ?_)
  have hN8 := hI.1
  have hN1 := hI.2.1
  refine qk_aloadn C dX1_addBust_0 1 rfl rfl 0 rfl ?_
  refine qk_get C dX1_addBust_1 4 rfl qf_X1_21 _ hL.l65 (qx_Fl hL _) rfl ?_
  refine qk_cast qL_j3 ?_
  refine qk_cast hN1 ?_
  refine qk_bipush C (8) dX1_addBust_4 6 rfl rfl ?_
  refine qk_icmp_lt C dX1_addBust_6 11 rfl 9 rfl (fun c_6 => absurd c_6 (nI_nlt (a := N) (b := 8) hF (by omega))) (fun c_6 => ?_)
  refine qk_iconst C ((-1)) dX1_addBust_9 10 rfl rfl ?_
  exact hret _ _ _ _ dX1_addBust_10 ⟨congrArg (fun x => some (Value.int x)) (rfl), rfl⟩ rfl

theorem c_X1_addBust (l : Launch) (G : qx_G) (L N : Nat) (hL : qx_isL L) (σ : qx_Sg) (v : Nat → Int32) (hI : qv_ok v N) (hN : N < 8) (kd dt : Int32) : qx_Ct l G yX1_addBust cX1_addBust 3 (some .int) 1 22 [.ref (qx_ad G L), .int kd, .int dt] (qL σ L N v) (qx_pi (nI N) (qL σ L (N + 1) (z_cm v N kd dt))) := by
  refine qx_of .int (lo := [(0, .ref (qx_ad G L)), (1, .int kd), (2, .int dt)]) (by decide +kernel) (Nat.le_of_ble_eq_true rfl) rfl (fun Δ (C : qx_C G Δ cX1_addBust RX1 3 1 22) hret => ?_)
  have hN8 := hI.1
  have hN1 := hI.2.1
  refine qk_aloadn C dX1_addBust_0 1 rfl rfl 0 rfl ?_
  refine qk_get C dX1_addBust_1 4 rfl qf_X1_21 _ hL.l65 (qx_Fl hL _) rfl ?_
  refine qk_cast qL_j3 ?_
  refine qk_cast hN1 ?_
  refine qk_bipush C (8) dX1_addBust_4 6 rfl rfl ?_
  refine qk_icmp_lt C dX1_addBust_6 11 rfl 9 rfl (fun c_6 => ?_) (fun c_6 => False.elim (absurd (nI_lt hN (by omega)) c_6))
  refine qk_aloadn C dX1_addBust_11 12 rfl rfl 0 rfl ?_
  refine qk_get C dX1_addBust_12 15 rfl qf_X1_36 _ hL.l65 (qx_Fl hL _) rfl ?_
  refine qk_aloadn C dX1_addBust_15 16 rfl rfl 0 rfl ?_
  refine qk_get C dX1_addBust_16 19 rfl qf_X1_21 _ hL.l65 (qx_Fl hL _) rfl ?_
  refine qk_cast qL_j3 ?_
  refine qk_cast hN1 ?_
  refine qk_aald C dX1_addBust_19 20 rfl (L + 4) hL.l4 1 (qx_Fl4 hL _) rfl (N) rfl (by omega) (by decide) rfl ?_
  refine qk_iloadn C dX1_addBust_20 21 rfl rfl 1 rfl ?_
  refine qk_iloadn C dX1_addBust_21 22 rfl rfl 2 rfl ?_
  refine qk_callV C dX1_addBust_22 25 rfl ql_X1_51 qc_X0_begin _ (qx_isB.of hL (show N < 8 by omega)).lt (qx_Fb (qx_isB.of hL (show N < 8 by omega)) _) rfl (c_X0_begin l G (L + 5 + N) (qx_isB.of hL hN) _ kd dt) rfl rfl (Nat.le_of_ble_eq_true rfl) ⟨(Nat.le_of_ble_eq_true rfl), (Nat.le_of_ble_eq_true rfl)⟩ (qx_Kv ?_)
  refine qk_aloadn C dX1_addBust_25 26 rfl rfl 0 rfl ?_
  refine qk_dup C dX1_addBust_26 27 rfl rfl ?_
  refine qk_get C dX1_addBust_27 30 rfl qf_X1_21 _ hL.l65 (qx_Fl hL _) rfl ?_
  refine qk_cast (show _ = nI N from by rw [qx_up_ne (by omega)]; exact qL_j3.trans hN1) ?_
  refine qk_iconst C (1) dX1_addBust_30 31 rfl rfl ?_
  refine qk_iadd C dX1_addBust_31 32 rfl ?_
  refine qk_cast (nI_1 N) ?_
  refine qk_put C .int dX1_addBust_32 35 rfl qf_X1_21 _ hL.l65 (qx_Fl hL _) (fun q hq => by cases hq; rfl) rfl rfl (Nat.le_of_ble_eq_true rfl) (qx_Fl hL _) ?_
  refine qk_cg _ (qL_add hL hN) ?_
  refine qk_aloadn C dX1_addBust_35 36 rfl rfl 0 rfl ?_
  refine qk_get C dX1_addBust_36 39 rfl qf_X1_21 _ hL.l65 (qx_Fl hL _) rfl ?_
  refine qk_cast qL_j3 ?_
  refine qk_cast (show z_cm v N kd dt 1 = nI (N + 1) from rfl) ?_
  refine qk_iconst C (1) dX1_addBust_39 40 rfl rfl ?_
  refine qk_isub C dX1_addBust_40 41 rfl ?_
  exact hret _ _ _ _ dX1_addBust_41 ⟨congrArg (fun x => some (Value.int x)) (nI_pred N), rfl⟩ rfl

