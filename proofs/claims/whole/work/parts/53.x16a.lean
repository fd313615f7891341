/-! the law, from its entry -/
set_option maxHeartbeats 4000000 in
theorem whole_go {p : Program} {e : Env} {s : State} {m : MethodId} {below : List Frame} {meth : Method} {c : Code} (l : Launch) {b L : Nat} {xs : Nat → Int32} (hL : L ≤ 3072) (C0 : lw_At p s m meth c b L xs) {G : qx_G} (hK : qx_Kn G s) (hC : qx_Cn G (fun q : Nat => s.heap.size ≤ q) s s.heap) (hi : qx_inj G) (hA : ∀ k, k < 65 → s.heap.size ≤ qx_ad G k) : qx_K l G ((p, e, room_1, s, m, #[Value.ref b], below, meth, c, (fun q : Nat => s.heap.size ≤ q), 4, lw_Z below #[Value.ref b] s, 65, 1848) : qx_T) st_0 18 (law_lo G b 0) [] := by
  obtain ⟨hx, hb, hr, hml, hown, hts, hX, hbl, hlocks, hgv⟩ := id C0
  have C : qx_C G ((p, e, room_1, s, m, #[Value.ref b], below, meth, c, (fun q : Nat => s.heap.size ≤ q), 4, lw_Z below #[Value.ref b] s, 65, 1848) : qx_T) cL_law RL 4 12 474 := ⟨⟨hx, hb, hml, hown, fun w hw => hts w (List.mem_filter.mp hw).1⟩, rfl, ⟨(Nat.le_of_ble_eq_true rfl), (Nat.le_of_ble_eq_true rfl), (Nat.le_of_ble_eq_true rfl), (Nat.le_of_ble_eq_true rfl)⟩, hK, hC, hi, fun q h => by
    rcases h with ⟨k, hk, rfl⟩ | h
    · exact hA k hk
    · exact h⟩
  have S : qx_Sc ((p, e, room_1, s, m, #[Value.ref b], below, meth, c, (fun q : Nat => s.heap.size ≤ q), 4, lw_Z below #[Value.ref b] s, 65, 1848) : qx_T) b L xs := ⟨hX, hbl, Nat.not_le.mpr hbl, hL⟩
  refine law_go l G C S (fun i σ => ?_) (L + 6) 0 st_0 st_rel (by omega) (Nat.zero_le _)
  intro H locs ls hP hS h
  refine lv_iconst (v := 1) hx hb dL_law_1432 (by decide) ?_
  refine va_forget (fun q hq => hS.2.2 q hq) ?_
  refine W.widen (k := 600000) (n := 7302250) (Nat.le_of_ble_eq_true rfl) (Nat.le_of_ble_eq_true rfl) ?_
  exact lw_ret hx hb hr hlocks dL_law_1433
set_option maxHeartbeats 4000000 in
/-- YOUR PART: from the entry, for every script of at most 3072 ints, the law comes to its end with true -/
theorem whole_start {p : Program} {e : Env} {s : State} {m : MethodId} {below : List Frame} {meth : Method} {c : Code} (l : Launch) (hflags : l.flags = flags0) {b L : Nat} {xs : Nat → Int32} (hL : L ≤ 3072) (C0 : lw_At p s m meth c b L xs) : W p l e room_1 s m #[Value.ref b] below meth c s.heap [] 0 0 (lw_Z below #[Value.ref b] s) (entryFrame m ([Value.ref b] : List Value).toArray 4) := by
  obtain ⟨hx, hb, hr, hml, hown, hts, hX, hbl, hlocks, hgv⟩ := id C0
  obtain ⟨G, hK, hO, hC⟩ := st_consts hts hgv
  have hl := lv_entry ([.ref b]) (n := 4) (Nat.le_of_ble_eq_true rfl)
  rw [lg_entry_eq]
  have hl : lv_has ((lg_sl ([.ref b]) ++ List.replicate (4 - (lg_sl ([.ref b])).length) Slot.unset).toArray) 4 [(0, .ref b)] := hl
  have C : nx_C G ((p, e, room_1, s, m, #[Value.ref b], below, meth, c, (fun q : Nat => s.heap.size ≤ q), 4, lw_Z below #[Value.ref b] s, 65, 1848) : qx_T) cL_law RL 4 12 474 65 1848 := ⟨⟨hx, hb, hml, hown, fun w hw => hts w (List.mem_filter.mp hw).1⟩, rfl, ⟨(Nat.le_of_ble_eq_true rfl), (Nat.le_of_ble_eq_true rfl), (Nat.le_of_ble_eq_true rfl), (Nat.le_of_ble_eq_true rfl)⟩, hK, hO, hC, fun q h => h⟩
  have body : nx_K l G ((p, e, room_1, s, m, #[Value.ref b], below, meth, c, (fun q : Nat => s.heap.size ≤ q), 4, lw_Z below #[Value.ref b] s, 65, 1848) : qx_T) [] 0 0 0 [(0, .ref b)] [] := by
    refine nk_new C (ci := 5) tyX5 [.null, .null, .null, .int 0, .null, .null, .null, .null] rfl uw_X5 tyX5_ok nw_129 nw_130 qw_115 nd_X5 dL_law_0 3 rfl 1 8 rfl rfl (Nat.le_of_ble_eq_true rfl) (Nat.le_of_ble_eq_true rfl) (fun q => ?_)
    refine nk_dup C dL_law_3 4 rfl rfl ?_
    refine nk_init C dL_law_4 7 rfl (Or.inl qw_131) qw_132 qc_X5_init rfl (n_X5_init l G q) rfl (As := []) (st := [.ref q]) rfl (Nat.le_of_ble_eq_true rfl) ⟨(Nat.le_of_ble_eq_true rfl), (Nat.le_of_ble_eq_true rfl)⟩ 53 621 rfl rfl (Nat.le_of_ble_eq_true rfl) (Nat.le_of_ble_eq_true rfl) (fun w1 hw1 => ?_)
    obtain ⟨c, a1, a2, a3, S, T, f1, f2, f3, g, w1, w2, w3, w4, rfl⟩ := hw1
    refine nk_astoren C dL_law_7 8 rfl rfl (by decide) rfl ?_
    refine nk_new C (ci := 6) tyX6 [.null, .null, .null, .int 0, .null, .null, .int 0, .int 0, .int 0, .int 0, .int 0, .int 0, .null, .null, .int 0, .int 0, .null, .null, .null, .null] rfl uw_X6 tyX6_ok nw_854 nw_855 qw_121 nd_X6 dL_law_8 11 rfl 54 641 rfl rfl (Nat.le_of_ble_eq_true rfl) (Nat.le_of_ble_eq_true rfl) (fun m2 => ?_)
    refine nk_dup C dL_law_11 12 rfl rfl ?_
    refine nk_init C dL_law_12 15 rfl (Or.inl qw_856) qw_857 qc_X6_init rfl (n_X6_init l G m2) rfl (As := []) (st := [.ref m2]) rfl (Nat.le_of_ble_eq_true rfl) ⟨(Nat.le_of_ble_eq_true rfl), (Nat.le_of_ble_eq_true rfl)⟩ 65 1848 rfl rfl (Nat.le_of_ble_eq_true rfl) (Nat.le_of_ble_eq_true rfl) (fun w1 hw1 => ?_)
    obtain ⟨d, h, w5, rfl⟩ := hw1
    refine nk_astoren C dL_law_15 16 rfl rfl (by decide) rfl ?_
    refine nk_iconst C (nI 0) dL_law_16 17 rfl rfl ?_
    refine nk_istoren C dL_law_17 18 rfl rfl (by decide) rfl ?_
    refine nk_ws (nB G q c a1 a2 a3 S T f1 f2 f3 g ++ nM G m2 d h) rfl ?_
    intro H locs ls hP hD hS hls
    obtain ⟨j1, j2⟩ := st_inj (G := G) (L := st_L q c a1 a2 a3 S T m2 d) st_L_eq st_len hD
    exact whole_go l hL C0 (G := st_G G (st_L q c a1 a2 a3 S T m2 d)) (st_Kn hK) (st_Cn hC) j1 j2 H locs ls (st_W w1 w2 w3 w4 w5 hP) hS (lv_sub hls [0, 3, 2, 1] rfl)
  exact body s.heap [] _ (fun k q h => by simp at h) ⟨fun i j p q h => by simp at h, fun k q h => by simp at h⟩ va_S.rf hl
