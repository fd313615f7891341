/-! the JDK's methods on the twelve texts -/
theorem t_len8 {i : Nat} (hi : i < 12) : qx_len.getD i 0 < 8 := by
  have h7 : ∀ i, i < 12 → qx_len.getD i 0 < 8 := by decide
  exact h7 i hi
theorem t_sh0 : ∀ i, i < 12 → nI (qx_len.getD i 0) >>> ((0 : Int32) &&& 31) = nI (qx_len.getD i 0) := by decide +kernel
section qx_texts
variable {l : Launch} {G : qx_G} {Δ : qx_T} {cc : ByteArray} {own : String} {nL fr lc : Nat} {σ : qx_Sg} {pc : Nat} {lo : List (Nat × Value)} {st : List Value}
theorem qk_sval (C : qx_C G Δ cc own nL fr lc) {i index : Nat} (hi : i < 12) (hd : decode cc pc = .ok (.getfield index, 3)) (pc' : Nat) (hp : pc + 3 = pc') (hw : Cond.fieldLink own index "java/lang/String" "value" "[B" ∈ qx_Wd) (K : qx_K l G Δ σ pc' lo (.ref (qx_ad G (120 + i)) :: st)) : qx_K l G Δ σ pc lo (.ref (qx_ad G (100 + i)) :: st) := by
  subst hp
  intro H locs ls hP hS h
  exact vk_getf C.1.1 C.1.2.1 (C.2.2.2.2.1.2.2.2.2.2.2.1 i hi).2.2.1 hS C.1.2.2.2.1 (C.1.2.2.2.2 _ hw) (fun _ h9 => h9) hd (K H locs ls hP hS h)
theorem qk_scod (C : qx_C G Δ cc own nL fr lc) {i index : Nat} (hi : i < 12) (hd : decode cc pc = .ok (.getfield index, 3)) (pc' : Nat) (hp : pc + 3 = pc') (hw : Cond.fieldLink own index "java/lang/String" "coder" "B" ∈ qx_Wd) (K : qx_K l G Δ σ pc' lo (.int 0 :: st)) : qx_K l G Δ σ pc lo (.ref (qx_ad G (100 + i)) :: st) := by
  subst hp
  intro H locs ls hP hS h
  exact vk_getf C.1.1 C.1.2.1 (C.2.2.2.2.1.2.2.2.2.2.2.1 i hi).2.1 hS C.1.2.2.2.1 (C.1.2.2.2.2 _ hw) (fun _ h9 => h9) hd (K H locs ls hP hS h)
theorem qk_slen (C : qx_C G Δ cc own nL fr lc) {i : Nat} (hi : i < 12) (hd : decode cc pc = .ok (.arraylength, 1)) (pc' : Nat) (hp : pc + 1 = pc') (K : qx_K l G Δ σ pc' lo (.int (nI (qx_len.getD i 0)) :: st)) : qx_K l G Δ σ pc lo (.ref (qx_ad G (120 + i)) :: st) := by
  subst hp
  intro H locs ls hP hS h
  exact va_tlen C.1.1 C.1.2.1 (C.2.2.2.2.1.2.2.2.2.2.2.1 i hi).2.2.2 hS rfl hd (K H locs ls hP hS h)
theorem qk_sbyt (C : qx_C G Δ cc own nL fr lc) {i j : Nat} (hi : i < 12) (hj : j < qx_len.getD i 0) (hj7 : j < 8) (hd : decode cc pc = .ok (.baload, 1)) (pc' : Nat) (hp : pc + 1 = pc') (K : qx_K l G Δ σ pc' lo (.int ((qx_byt.getD i []).getD j 0) :: st)) : qx_K l G Δ σ pc lo (.int (nI j) :: .ref (qx_ad G (120 + i)) :: st) := by
  subst hp
  intro H locs ls hP hS h
  exact va_tb C.1.1 C.1.2.1 (C.2.2.2.2.1.2.2.2.2.2.2.1 i hi).2.2.2 hS (vp_in_nI hj (by have := t_len8 hi; omega)) (v := .int ((qx_byt.getD i []).getD j 0)) (by rw [nI_clamp (by omega)]) hd (K H locs ls hP hS h)
theorem qk_gSio (C : qx_C G Δ cc own nL fr lc) {index : Nat} (hd : decode cc pc = .ok (.getstatic index, 3)) (pc' : Nat) (hp : pc + 3 = pc') (hw : Cond.fieldLink own index "jdk/internal/util/Preconditions" "SIOOBE_FORMATTER" "Ljava/util/function/BiFunction;" ∈ qx_Wd) (K : ∀ v : Value, v.category = 1 → qx_K l G Δ σ pc' lo (v :: st)) : qx_K l G Δ σ pc lo st := by
  subst hp
  intro H locs ls hP hS h
  obtain ⟨v, hv, hz⟩ := C.2.2.2.2.1.2.2.2.2.2.1
  exact va_gets C.1.1 C.1.2.1 hz hS C.1.2.2.2.1 (C.1.2.2.2.2 _ hw) (fun _ h9 => h9) hd (K v hv H locs ls hP hS h)
theorem qk_recvS (C : qx_C G Δ cc own nL fr lc) {i : Nat} (hi : i < 12) (H : Heap) (locs : List Loc) (hS : va_S (qx_X Δ) (qx_s Δ).heap H locs) : ∃ cell : Cell, H[qx_ad G (100 + i)]? = some cell ∧ cell.vm.isStatics = false ∧ (qx_s Δ).vm.findClass "java/lang/String" = some cell.cls :=
  vk_recv (adK := fun i => qx_ad G (100 + i)) (i := i) C.2.2.2.2.1.2.2.2.2.2.2 hi hS
end qx_texts
theorem t_chr : ∀ i, i < 12 → ∀ j, j < 8 → (((qx_byt.getD i []).getD j 0 &&& 255 : Int32).toUInt32 % 65536).toInt32 = (qx_byt.getD i []).getD j 0 := by decide +kernel
theorem t_ch2 : ∀ i, i < 12 → ∀ j, j < 8 → (((qx_byt.getD i []).getD j 0 : Int32).toUInt32 % 65536).toInt32 = (qx_byt.getD i []).getD j 0 := by decide +kernel
theorem t_nar {i j : Nat} (hi : i < 12) (hj : j < 8) : narrow .char (.int ((qx_byt.getD i []).getD j 0)) = .int ((qx_byt.getD i []).getD j 0) := congrArg Value.int (t_ch2 i hi j hj)
theorem t_sl {x y : Int32} {f : Value} (hf : f.category = 1) : (lg_sl [.int x, .int y, f]).length ≤ 3 := by
  cases f <;> first | exact Nat.le_of_ble_eq_true rfl | cases hf
theorem c_J0_coder_7d493 (l : Launch) (G : qx_G) (σ : qx_Sg) (i : Nat) (hi : i < 12) : qx_Ct l G yJ0_coder_7d493 cJ0_coder_7d493 1 (some .byte) 0 0 [.ref (qx_ad G (100 + i))] (σ) (qx_pi (0) (σ)) := by
  refine qx_of .byte (lo := [(0, .ref (qx_ad G (100 + i)))]) (by decide +kernel) (Nat.le_of_ble_eq_true rfl) rfl (fun Δ (C : qx_C G Δ cJ0_coder_7d493 RJ0 1 0 0) hret => ?_)
  refine qk_gComp C dJ0_coder_7d493_0 3 rfl qw_693 ?_
  refine qk_if_eq C dJ0_coder_7d493_3 13 rfl 6 rfl (fun c => absurd c (by decide)) (fun _ => ?_)
  refine qk_aloadn C dJ0_coder_7d493_6 7 rfl rfl 0 rfl ?_
  refine qk_scod C hi dJ0_coder_7d493_7 10 rfl qw_1361 ?_
  refine qk_goto C dJ0_coder_7d493_10 14 rfl ?_
  exact hret _ _ _ _ dJ0_coder_7d493_14 ⟨congrArg (fun x => some (Value.int x)) (by first | rfl | (simp []; done) | (simp []; decide) | (simp []; rfl) | (simp_all []; done)), rfl⟩ rfl

theorem c_J0_isLatin1_aae02 (l : Launch) (G : qx_G) (σ : qx_Sg) (i : Nat) (hi : i < 12) : qx_Ct l G yJ0_isLatin1_aae02 cJ0_isLatin1_aae02 1 (some .boolean) 0 0 [.ref (qx_ad G (100 + i))] (σ) (qx_pi (1) (σ)) := by
  refine qx_of .boolean (lo := [(0, .ref (qx_ad G (100 + i)))]) (by decide +kernel) (Nat.le_of_ble_eq_true rfl) rfl (fun Δ (C : qx_C G Δ cJ0_isLatin1_aae02 RJ0 1 0 0) hret => ?_)
  refine qk_gComp C dJ0_isLatin1_aae02_0 3 rfl qw_693 ?_
  refine qk_if_eq C dJ0_isLatin1_aae02_3 17 rfl 6 rfl (fun c => absurd c (by decide)) (fun _ => ?_)
  refine qk_aloadn C dJ0_isLatin1_aae02_6 7 rfl rfl 0 rfl ?_
  refine qk_scod C hi dJ0_isLatin1_aae02_7 10 rfl qw_1361 ?_
  refine qk_if_ne C dJ0_isLatin1_aae02_10 17 rfl 13 rfl (fun c => absurd rfl c) (fun _ => ?_)
  refine qk_iconst C (1) dJ0_isLatin1_aae02_13 14 rfl rfl ?_
  refine qk_goto C dJ0_isLatin1_aae02_14 18 rfl ?_
  exact hret _ _ _ _ dJ0_isLatin1_aae02_18 ⟨congrArg (fun x => some (Value.int x)) (by first | rfl | (simp []; done) | (simp []; decide) | (simp []; rfl) | (simp_all []; done)), rfl⟩ rfl

theorem c_J0_length_8abf5 (l : Launch) (G : qx_G) (σ : qx_Sg) (i : Nat) (hi : i < 12) : qx_Ct l G yJ0_length_8abf5 cJ0_length_8abf5 1 (some .int) 1 20 [.ref (qx_ad G (100 + i))] (σ) (qx_pi (nI (qx_len.getD i 0)) (σ)) := by
  refine qx_of .int (lo := [(0, .ref (qx_ad G (100 + i)))]) (by decide +kernel) (Nat.le_of_ble_eq_true rfl) rfl (fun Δ (C : qx_C G Δ cJ0_length_8abf5 RJ0 1 1 20) hret => ?_)
  refine qk_aloadn C dJ0_length_8abf5_0 1 rfl rfl 0 rfl ?_
  refine qk_sval C hi dJ0_length_8abf5_1 4 rfl qw_1360 ?_
  refine qk_slen C hi dJ0_length_8abf5_4 5 rfl ?_
  refine qk_aloadn C dJ0_length_8abf5_5 6 rfl rfl 0 rfl ?_
  refine qk_callR C (fun H locs hP hS => qk_recvS C hi H locs hS) dJ0_length_8abf5_6 9 rfl ql_J0_335 qc_J0_coder_7d493 (c_J0_coder_7d493 l G _ i hi) rfl rfl (Nat.le_of_ble_eq_true rfl) ⟨(Nat.le_of_ble_eq_true rfl), (Nat.le_of_ble_eq_true rfl)⟩ (qx_Ki ?_)
  refine qk_ishr C dJ0_length_8abf5_9 10 rfl ?_
  exact hret _ _ _ _ dJ0_length_8abf5_10 ⟨congrArg (fun x => some (Value.int x)) (t_sh0 i hi), rfl⟩ rfl

theorem c_J3_checkIndex_8e157 (l : Launch) (G : qx_G) (σ : qx_Sg) (j n : Nat) (hj : j < n) (hn : n < 8) (f : Value) (hf : f.category = 1) : qx_Ct l G yJ3_checkIndex_8e157 cJ3_checkIndex_8e157 3 (some .int) 0 0 [.int (nI j), .int (nI n), f] (σ) (qx_pi (nI j) (σ)) := by
  refine qx_of .int (lo := [(0, .int (nI j)), (1, .int (nI n)), (2, f)]) (by decide +kernel) (t_sl hf) rfl (fun Δ (C : qx_C G Δ cJ3_checkIndex_8e157 RJ3 3 0 0) hret => ?_)
  refine qk_iloadn C dJ3_checkIndex_8e157_0 1 rfl rfl 0 rfl ?_
  refine qk_if_lt C dJ3_checkIndex_8e157_1 9 rfl 4 rfl (fun c_1 => absurd c_1 (nI_pos (by omega))) (fun c_1 => ?_)
  refine qk_iloadn C dJ3_checkIndex_8e157_4 5 rfl rfl 0 rfl ?_
  refine qk_iloadn C dJ3_checkIndex_8e157_5 6 rfl rfl 1 rfl ?_
  refine qk_icmp_lt C dJ3_checkIndex_8e157_6 16 rfl 9 rfl (fun c_6 => ?_) (fun c_6 => False.elim (c_6 (nI_lt hj (by omega))))
  refine qk_iloadn C dJ3_checkIndex_8e157_16 17 rfl rfl 0 rfl ?_
  exact hret _ _ _ _ dJ3_checkIndex_8e157_17 ⟨congrArg (fun x => some (Value.int x)) (by first | rfl | (simp [c_1, c_6]; done) | (simp [c_1, c_6]; decide) | (simp [c_1, c_6]; rfl) | (simp_all []; done)), rfl⟩ rfl

theorem c_J0_checkIndex_df160 (l : Launch) (G : qx_G) (σ : qx_Sg) (j n : Nat) (hj : j < n) (hn : n < 8) : qx_Ct l G yJ0_checkIndex_df160 cJ0_checkIndex_df160 2 none 1 22 [.int (nI j), .int (nI n)] (σ) (qx_pv (σ)) := by
  refine qx_ofV (lo := [(0, .int (nI j)), (1, .int (nI n))]) (by decide +kernel) (Nat.le_of_ble_eq_true rfl) rfl (fun Δ (C : qx_C G Δ cJ0_checkIndex_df160 RJ0 2 1 22) hret => ?_)
  refine qk_iloadn C dJ0_checkIndex_df160_0 1 rfl rfl 0 rfl ?_
  refine qk_iloadn C dJ0_checkIndex_df160_1 2 rfl rfl 1 rfl ?_
  refine qk_gSio C dJ0_checkIndex_df160_2 5 rfl qw_709 ?_
  intro fv hfv
  refine qk_callS C dJ0_checkIndex_df160_5 8 rfl ql_J0_1059 qc_J3_checkIndex_8e157 (c_J3_checkIndex_8e157 l G _ j n hj hn fv hfv) rfl rfl (Nat.le_of_ble_eq_true rfl) ⟨(Nat.le_of_ble_eq_true rfl), (Nat.le_of_ble_eq_true rfl)⟩ (qx_Ki ?_)
  refine qk_pop C dJ0_checkIndex_df160_8 9 rfl rfl ?_
  exact hret _ _ _ dJ0_checkIndex_df160_9 ⟨rfl, rfl⟩

theorem c_J1_charAt_3b067 (l : Launch) (G : qx_G) (σ : qx_Sg) (i : Nat) (hi : i < 12) (j : Nat) (hj : j < qx_len.getD i 0) : qx_Ct l G yJ1_charAt_3b067 cJ1_charAt_3b067 2 (some .char) 2 43 [.ref (qx_ad G (120 + i)), .int (nI j)] (σ) (qx_pi (((qx_byt.getD i []).getD j 0)) (σ)) := by
  refine qx_of .char (lo := [(0, .ref (qx_ad G (120 + i))), (1, .int (nI j))]) (by decide +kernel) (Nat.le_of_ble_eq_true rfl) rfl (fun Δ (C : qx_C G Δ cJ1_charAt_3b067 RJ1 2 2 43) hret => ?_)
  have h8 := t_len8 hi
  refine qk_iloadn C dJ1_charAt_3b067_0 1 rfl rfl 1 rfl ?_
  refine qk_aloadn C dJ1_charAt_3b067_1 2 rfl rfl 0 rfl ?_
  refine qk_slen C hi dJ1_charAt_3b067_2 3 rfl ?_
  refine qk_callS C dJ1_charAt_3b067_3 6 rfl ql_J1_9 qc_J0_checkIndex_df160 (c_J0_checkIndex_df160 l G _ j _ hj h8) rfl rfl (Nat.le_of_ble_eq_true rfl) ⟨(Nat.le_of_ble_eq_true rfl), (Nat.le_of_ble_eq_true rfl)⟩ (qx_Kv ?_)
  refine qk_aloadn C dJ1_charAt_3b067_6 7 rfl rfl 0 rfl ?_
  refine qk_iloadn C dJ1_charAt_3b067_7 8 rfl rfl 1 rfl ?_
  refine qk_sbyt C hi hj (by omega) dJ1_charAt_3b067_8 9 rfl ?_
  refine qk_sipush C (255) dJ1_charAt_3b067_9 12 rfl rfl ?_
  refine qk_iand C dJ1_charAt_3b067_12 13 rfl ?_
  refine qk_i2c C dJ1_charAt_3b067_13 14 rfl ?_
  refine qk_cast (t_chr i hi j (by omega)) ?_
  exact hret _ _ _ _ dJ1_charAt_3b067_14 ⟨congrArg (fun x => some (Value.int x)) (by first | rfl | (simp []; done) | (simp []; decide) | (simp []; rfl) | (simp_all []; done)), rfl⟩ (t_nar hi (by omega))

theorem c_J0_charAt_5068e (l : Launch) (G : qx_G) (σ : qx_Sg) (i : Nat) (hi : i < 12) (j : Nat) (hj : j < qx_len.getD i 0) : qx_Ct l G yJ0_charAt_5068e cJ0_charAt_5068e 2 (some .char) 3 64 [.ref (qx_ad G (100 + i)), .int (nI j)] (σ) (qx_pi (((qx_byt.getD i []).getD j 0)) (σ)) := by
  refine qx_of .char (lo := [(0, .ref (qx_ad G (100 + i))), (1, .int (nI j))]) (by decide +kernel) (Nat.le_of_ble_eq_true rfl) rfl (fun Δ (C : qx_C G Δ cJ0_charAt_5068e RJ0 2 3 64) hret => ?_)
  have h8 := t_len8 hi
  refine qk_aloadn C dJ0_charAt_5068e_0 1 rfl rfl 0 rfl ?_
  refine qk_callR C (fun H locs hP hS => qk_recvS C hi H locs hS) dJ0_charAt_5068e_1 4 rfl ql_J0_492 qc_J0_isLatin1_aae02 (c_J0_isLatin1_aae02 l G _ i hi) rfl rfl (Nat.le_of_ble_eq_true rfl) ⟨(Nat.le_of_ble_eq_true rfl), (Nat.le_of_ble_eq_true rfl)⟩ (qx_Ki ?_)
  refine qk_if_eq C dJ0_charAt_5068e_4 16 rfl 7 rfl (fun c => absurd c (by decide)) (fun _ => ?_)
  refine qk_aloadn C dJ0_charAt_5068e_7 8 rfl rfl 0 rfl ?_
  refine qk_sval C hi dJ0_charAt_5068e_8 11 rfl qw_1360 ?_
  refine qk_iloadn C dJ0_charAt_5068e_11 12 rfl rfl 1 rfl ?_
  refine qk_callS C dJ0_charAt_5068e_12 15 rfl ql_J0_495 qc_J1_charAt_3b067 (c_J1_charAt_3b067 l G _ i hi j hj) rfl rfl (Nat.le_of_ble_eq_true rfl) ⟨(Nat.le_of_ble_eq_true rfl), (Nat.le_of_ble_eq_true rfl)⟩ (qx_Ki ?_)
  exact hret _ _ _ _ dJ0_charAt_5068e_15 ⟨congrArg (fun x => some (Value.int x)) (by first | rfl | (simp []; done) | (simp []; decide) | (simp []; rfl) | (simp_all []; done)), rfl⟩ (t_nar hi (by omega))

