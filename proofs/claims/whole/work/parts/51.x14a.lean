/-! THE CLAIM's head; then what no method changes, out of the Statement's words -/
def R_law : String := "BustRestLaw"
def lw_P (b : Addr) (xs : List Int32) (args : Array Value) (s : State) : Prop := args = #[.ref b] ∧ s.IntsAt b xs ∧ xs.length ≤ 3072 ∧ (Jvm.Cond.and given_1 narrow_1).before args s = true
def lw_Q (_ : Array Value) (s : State) (o : Outcome) (t : State) : Prop := o = .returned (some (.int 1)) ∧ Framed s o t [] 600000 7302250
def lw_Z (below : List Frame) (a : Array Value) (s : State) : State → Prop := fun t => ∃ o, t.status = .running ∧ Ended t below o ∧ lw_Q a s o t
/-- the law's own end, with 1 on the stack, nothing written that was there before, its room as the claim has it -/
theorem lw_ret {p : Program} {l : Launch} {e : Env} {s : State} {m : MethodId} {below : List Frame} {meth : Method} {c : Code} {b : Nat} (hx : p.tables.exec = Jvm.exec) (hb : c.code = code) (hr : meth.sig.returnType = ret) (hlocks : meth.locks = false) {pc : Nat} {H : Heap} {ls : Array Slot} (hdg : decode code pc = .ok (.ireturn, 1)) : W p l e room_1 s m #[Value.ref b] below meth c H [] 600000 7302250 (lw_Z below #[Value.ref b] s) (F0 m pc ls [.int 1]) := by
  intro T hT X
  obtain ⟨fs, hret, hrun, hended, hW, hframe⟩ := X.leave (v := some (.int 1)) (hlocks := hlocks) (fun h => by rw [hr] at h; cases h)
  have hmeth' : T.vm.method? m = some meth := X.method'
  refine ⟨T.setFrames fs, ?_, .returned (some (.int 1)), hrun, hended, rfl, ⟨_, rfl⟩, hW, hframe⟩
  jvm_step X.here [X.here.top, hx, hb, hdg, hmeth', hr, ret, narrow_b1]
  (try refine ⟨rfl, ?_⟩); (try refine ⟨rfl, ?_⟩)
  first | (intro acts; rw [hret _ acts rfl rfl rfl]) | rw [hret _ _ rfl rfl rfl]
  exact Steps.refl _
/-- what holds at the law's entry: the machine, the code, the tables' words (any of lw_tbl by 'hts w (by decide +kernel)'), the script of L ints xs at the cell b, what the Statement gives of the start (any of its parts by flat_of_before) -/
def lw_At (p : Program) (s : State) (m : MethodId) (meth : Method) (c : Code) (b L : Nat) (xs : Nat → Int32) : Prop :=
  p.tables.exec = Jvm.exec ∧ c.code = code ∧ meth.sig.returnType = ret ∧ c.maxLocals = 4 ∧ s.vm.findClass R_law = some m.cls ∧ (∀ w ∈ lw_tbl, w.before #[Value.ref b] s = true) ∧ va_X b L xs s s.heap ∧ b < s.heap.size ∧ meth.locks = false ∧ (Jvm.Cond.and given_1 narrow_1).before #[Value.ref b] s = true
theorem st_arr {s : State} {cA : ClassId} {kA : Class} {comp : ClassId} {ty : FieldType} (h2 : s.vm.classes[cA]? = some kA) (h3 : kA.kind = .array comp ty) : ArrOfT s cA ty := fun n z => ⟨fun k h => (by cases h), kA, h2, comp, h3⟩
theorem st_obj {args : Array Value} {s : State} {C : String} (h : (Cond.arrayOver (.object C)).before args s = true) : ∃ cA, ArrOfT s cA (.object C) ∧ va_RA s cA (.object C) := by
  obtain ⟨comp, c, k, h1, h2, h3, h4, h5⟩ := Cond.arrayOver_spec h
  exact ⟨c, st_arr h3 h4, k, comp, h3, h4, h1, h5⟩
theorem st_int {args : Array Value} {s : State} (h : (Cond.arrayClass .int).before args s = true) : ∃ cA, ArrOfT s cA .int ∧ va_RA s cA .int := by
  obtain ⟨cA, kA, comp, h1, h2, h3⟩ := Cond.arrayClass_spec h
  exact ⟨cA, st_arr h2 h3, h1⟩
/-- the twelve texts' entries in the two classes -/
def st_k : List Nat := [78, 66, 68, 70, 72, 74, 76, 111, 117, 130, 44, 53]
def st_m : List Nat := [27, 29, 31, 33, 35, 37, 39, 293, 297, 299, 308, 310]
def st_t (i : Nat) : Term := .string "BustRest$TextReader" (st_k.getD i 0)
def st_n (i : Nat) : Term := .string "BustRestModel" (st_m.getD i 0)
/-- where the Statement's words of them stand -/
def st_p : List Nat := [146, 64, 74, 86, 100, 115, 130, 162, 178, 194, 43, 54]
def st_e : List Nat := [231, 245, 268, 293, 319, 345, 372, 399, 425, 456, 477, 509]
def st_d : List (List Nat) := [[0, 156, 157, 158, 159, 160, 161, 177, 192, 212, 154, 155], [156, 0, 85, 98, 112, 126, 141, 171, 186, 206, 72, 73], [157, 85, 0, 99, 113, 127, 142, 172, 187, 207, 83, 84], [158, 98, 99, 0, 114, 128, 143, 173, 188, 208, 96, 97], [159, 112, 113, 114, 0, 129, 144, 174, 189, 209, 110, 111], [160, 126, 127, 128, 129, 0, 145, 175, 190, 210, 124, 125], [161, 141, 142, 143, 144, 145, 0, 176, 191, 211, 139, 140], [177, 171, 172, 173, 174, 175, 176, 0, 193, 213, 169, 170], [192, 186, 187, 188, 189, 190, 191, 193, 0, 214, 184, 185], [212, 206, 207, 208, 209, 210, 211, 213, 214, 0, 204, 205], [154, 72, 83, 96, 110, 124, 139, 169, 184, 204, 0, 63], [155, 73, 84, 97, 111, 125, 140, 170, 185, 205, 63, 0]]
def st_ne (i j : Nat) : Cond := if st_k.getD i 0 < st_k.getD j 0 then .not (.eq (st_t i) (st_t j)) else .not (.eq (st_t j) (st_t i))
theorem st_Sof {args : Array Value} {s : State} {A : Nat → Prop} (hgv : (Jvm.Cond.and given_1 narrow_1).before args s = true) (hA : ∀ a : Nat, a < s.heap.size → ¬ A a) : ∃ adK adV : Nat → Nat, vk_S 12 qx_len qx_byt adK adV A s s.heap ∧ (∀ i : Nat, i < 12 → (st_t i).eval args s none [] s = some (.ref (adK i))) ∧ ∀ i : Nat, i < 12 → (st_n i).eval args s none [] s = some (.ref (adK i)) := by
  have hs := flat_of_before _ hgv
  obtain ⟨adK, adV, h1, h2⟩ := vk_Sof (args := args) (s := s) (N := 12) (tm := st_t) (len := qx_len) (byt := qx_byt) (A := A) (by decide +kernel)
    (fun i hi => hs _ (List.mem_of_getElem? (i := st_p.getD i 0) (by revert hi; revert i; decide +kernel)))
    (fun i hi => hs _ (List.mem_of_getElem? (i := st_p.getD i 0 + 1) (by revert hi; revert i; decide +kernel)))
    (fun i hi => hs _ (List.mem_of_getElem? (i := st_p.getD i 0 + 2) (by revert hi; revert i; decide +kernel)))
    (fun i hi => hs _ (List.mem_of_getElem? (i := st_p.getD i 0 + 3) (by revert hi; revert i; decide +kernel)))
    (fun i hi j hj => hs _ (List.mem_of_getElem? (i := st_p.getD i 0 + 4 + j) (by revert hj; revert j; revert hi; revert i; decide +kernel)))
    (fun i j hi hj hij => by
      have h : (st_ne i j).before args s = true := hs _ (List.mem_of_getElem? (i := (st_d.getD i []).getD j 0) (by revert hij; revert hj; revert j; revert hi; revert i; decide +kernel))
      unfold st_ne at h
      by_cases c : st_k.getD i 0 < st_k.getD j 0
      · rw [if_pos c] at h; exact Or.inl h
      · rw [if_neg c] at h; exact Or.inr h) hA
  exact ⟨adK, adV, h1, h2, fun i hi => va_eqR (hs (.eq (st_t i) (st_n i)) (List.mem_of_getElem? (i := st_e.getD i 0) (by revert hi; revert i; decide +kernel))) (h2 i hi)⟩
theorem st_str {args : Array Value} {s : State} {ad : Nat → Nat} (hts : ∀ w ∈ lw_tbl, w.before args s = true) (h1 : ∀ i : Nat, i < 12 → (st_t i).eval args s none [] s = some (.ref (ad i))) (h2 : ∀ i : Nat, i < 12 → (st_n i).eval args s none [] s = some (.ref (ad i))) : ∀ q ∈ qx_str, q.2.2.2 < 12 ∧ vk_R q.1 q.2.1 q.2.2.1 (ad q.2.2.2) s := by
  have hr : ∀ q ∈ qx_str, Cond.stringRef q.1 q.2.1 q.2.2.1 ∈ lw_tbl := by decide +kernel
  have hq : ∀ q ∈ qx_str, (q.2.2.2 < 12 ∧ q.1 = "BustRest$TextReader" ∧ q.2.1 = st_k.getD q.2.2.2 0) ∨ (q.2.2.2 < 12 ∧ q.1 = "BustRestModel" ∧ q.2.1 = st_m.getD q.2.2.2 0) := by decide +kernel
  intro q h
  have h0 := hts _ (hr q h)
  rcases hq q h with ⟨a, b, c⟩ | ⟨a, b, c⟩
  · refine ⟨a, vk_R.of h0 ?_⟩
    rw [b, c]
    exact h1 _ a
  · refine ⟨a, vk_R.of h0 ?_⟩
    rw [b, c]
    exact h2 _ a
def st_ad (tM tK : Nat) (adK adV : Nat → Nat) (k : Nat) : Nat := if k = 90 then tM else if k = 91 then tK else if k < 112 then adK (k - 100) else adV (k - 120)
theorem st_ad1 {tM tK : Nat} {adK adV : Nat → Nat} {i : Nat} (hi : i < 12) : st_ad tM tK adK adV (100 + i) = adK i := by
  unfold st_ad
  rw [if_neg (by omega), if_neg (by omega), if_pos (by omega), Nat.add_sub_cancel_left]
theorem st_ad2 {tM tK : Nat} {adK adV : Nat → Nat} {i : Nat} : st_ad tM tK adK adV (120 + i) = adV i := by
  unfold st_ad
  rw [if_neg (by omega), if_neg (by omega), if_neg (by omega), Nat.add_sub_cancel_left]
theorem st_consts {args : Array Value} {s : State} (hts : ∀ w ∈ lw_tbl, w.before args s = true) (hgv : (Jvm.Cond.and given_1 narrow_1).before args s = true) : ∃ G : qx_G, qx_Kn G s ∧ nx_Ao s ∧ qx_Cn G (fun q : Nat => s.heap.size ≤ q) s s.heap := by
  have hs := flat_of_before _ hgv
  have hA : ∀ a : Nat, a < s.heap.size → ¬ (fun q : Nat => s.heap.size ≤ q) a := fun a h => Nat.not_le.mpr h
  have hao : ∀ C ∈ nx_ao, Cond.arrayOver (.object C) ∈ lw_tbl := by decide +kernel
  obtain ⟨c0, i0, k0⟩ := u_known (C := RX0) (T := TX0) (N := 7) (n := 7) hts (fun w hw => (List.mem_filter.mp (uw_X0 w hw)).1) (hts (.instantiable RX0 7) (by decide +kernel))
  obtain ⟨c1, i1, k1⟩ := u_known (C := RX1) (T := TX1) (N := 8) (n := 8) hts (fun w hw => (List.mem_filter.mp (uw_X1 w hw)).1) (hts (.instantiable RX1 8) (by decide +kernel))
  obtain ⟨c2, i2, k2⟩ := u_known (C := RX2) (T := TX2) (N := 3) (n := 3) hts (fun w hw => (List.mem_filter.mp (uw_X2 w hw)).1) (hts (.instantiable RX2 3) (by decide +kernel))
  obtain ⟨c3, i3, k3⟩ := u_known (C := RX3) (T := TX3) (N := 6) (n := 6) hts (fun w hw => (List.mem_filter.mp (uw_X3 w hw)).1) (hts (.instantiable RX3 6) (by decide +kernel))
  obtain ⟨c4, i4, k4⟩ := u_known (C := RX4) (T := TX4) (N := 4) (n := 4) hts (fun w hw => (List.mem_filter.mp (uw_X4 w hw)).1) (hts (.instantiable RX4 4) (by decide +kernel))
  obtain ⟨c5, i5, k5⟩ := u_known (C := RX5) (T := TX5) (N := 8) (n := 8) hts (fun w hw => (List.mem_filter.mp (uw_X5 w hw)).1) (hts (.instantiable RX5 8) (by decide +kernel))
  obtain ⟨c6, i6, k6⟩ := u_known (C := RX6) (T := TX6) (N := 20) (n := 20) hts (fun w hw => (List.mem_filter.mp (uw_X6 w hw)).1) (hts (.instantiable RX6 20) (by decide +kernel))
  obtain ⟨b0, a0, t0⟩ := st_int (hts (.arrayClass .int) (List.mem_filter.mp nw_184).1)
  obtain ⟨b1, a1, t1⟩ := st_obj (C := "BustRest$Bust") (hts _ (hao _ (by decide)))
  obtain ⟨b2, a2, t2⟩ := st_obj (C := "BustRest$Sheet") (hts _ (hao _ (by decide)))
  obtain ⟨b3, a3, t3⟩ := st_obj (C := "java/lang/String") (hts _ (hao _ (by decide)))
  obtain ⟨tM, eM, hM⟩ := va_Tof (tm := .static "BustRest" "MOST" "[I") (ty := .int) (N := 7) (f := fun j => .int (qx_most.getD j 0)) (by omega) (hs (.arrayOf (.static "BustRest" "MOST" "[I") .int) (List.mem_of_getElem? (i := 5) (by decide +kernel))) (va_eqt (hs (.eq (.length (.static "BustRest" "MOST" "[I")) (.int (Int32.ofNat 7))) (List.mem_of_getElem? (i := 6) (by decide +kernel)))) (fun j hj => va_eqt (hs _ (List.mem_of_getElem? (i := 7 + j) (by revert hj; revert j; decide +kernel)))) hA
  obtain ⟨tK, eK, hK⟩ := va_Tof (tm := .static "BustRest" "KIND_ABOVE" "[I") (ty := .int) (N := 7) (f := fun j => .int (qx_abv.getD j 0)) (by omega) (hs (.arrayOf (.static "BustRest" "KIND_ABOVE" "[I") .int) (List.mem_of_getElem? (i := 20) (by decide +kernel))) (va_eqt (hs (.eq (.length (.static "BustRest" "KIND_ABOVE" "[I")) (.int (Int32.ofNat 7))) (List.mem_of_getElem? (i := 21) (by decide +kernel)))) (fun j hj => va_eqt (hs _ (List.mem_of_getElem? (i := 22 + j) (by revert hj; revert j; decide +kernel)))) hA
  have zM := va_Zref (hts (.laysStatic "BustRest" "MOST" "[I") (by decide +kernel)) (hts (.initialized "BustRest") (by decide +kernel)) eM hA
  have zK := va_Zref (hts (.laysStatic "BustRest" "KIND_ABOVE" "[I") (by decide +kernel)) (hts (.initialized "BustRest") (by decide +kernel)) eK hA
  have zC := va_Zof (hts (.laysStatic "java/lang/String" "COMPACT_STRINGS" "Z") (by decide +kernel)) (hts (.initialized "java/lang/String") (by decide +kernel)) (va_eqt (hs (.eq (.static "java/lang/String" "COMPACT_STRINGS" "Z") (.int 1)) (List.mem_of_getElem? (i := 14) (by decide +kernel)))) hA
  have zF := va_Zqof (hts (.laysStatic "jdk/internal/util/Preconditions" "SIOOBE_FORMATTER" "Ljava/util/function/BiFunction;") (by decide +kernel)) (hts (.initialized "jdk/internal/util/Preconditions") (by decide +kernel)) (hs (.isRef (.static "jdk/internal/util/Preconditions" "SIOOBE_FORMATTER" "Ljava/util/function/BiFunction;")) (List.mem_of_getElem? (i := 15) (by decide +kernel))) hA
  obtain ⟨adK, adV, hS, hE1, hE2⟩ := st_Sof hgv hA
  have hstr := st_str hts hE1 hE2
  refine ⟨((fun k => if k = 0 then c0 else if k = 1 then c1 else if k = 2 then c2 else if k = 3 then c3 else if k = 4 then c4 else if k = 5 then c5 else c6, fun k => if k = 0 then i0 else if k = 1 then i1 else if k = 2 then i2 else if k = 3 then i3 else if k = 4 then i4 else if k = 5 then i5 else i6), fun k => if k = 0 then b0 else if k = 1 then b1 else if k = 2 then b2 else b3, st_ad tM tK adK adV), ⟨⟨?_, ?_⟩, ?_, ?_⟩, ?_, ?_⟩
  · intro k q hq
    match k, hq with
    | 0, hq => cases hq; exact k0
    | 1, hq => cases hq; exact k1
    | 2, hq => cases hq; exact k2
    | 3, hq => cases hq; exact k3
    | 4, hq => cases hq; exact k4
    | 5, hq => cases hq; exact k5
    | 6, hq => cases hq; exact k6
    | k + 7, hq => simp at hq
  · intro k q hq
    match k, hq with
    | 0, hq => cases hq; exact ⟨a0, t0⟩
    | 1, hq => cases hq; exact ⟨a1, t1⟩
    | 2, hq => cases hq; exact ⟨a2, t2⟩
    | 3, hq => cases hq; exact ⟨a3, t3⟩
    | k + 4, hq => simp [qx_tys] at hq
  · intro w hw
    obtain ⟨h1, h2⟩ := List.mem_filter.mp hw
    exact va_Nw.of (by cases w <;> first | rfl | cases h2) (hts w h1)
  · intro q hq
    obtain ⟨h1, h2⟩ := hstr q hq
    have e : qx_ad ((fun k => if k = 0 then c0 else if k = 1 then c1 else if k = 2 then c2 else if k = 3 then c3 else if k = 4 then c4 else if k = 5 then c5 else c6, fun k => if k = 0 then i0 else if k = 1 then i1 else if k = 2 then i2 else if k = 3 then i3 else if k = 4 then i4 else if k = 5 then i5 else i6), fun k => if k = 0 then b0 else if k = 1 then b1 else if k = 2 then b2 else b3, st_ad tM tK adK adV) (100 + q.2.2.2) = adK q.2.2.2 := st_ad1 h1
    rw [e]
    exact h2
  · exact fun C hC => va_AO.of (hts _ (hao C hC))
  · refine ⟨zM, hM, zK, hK, zC, ?_, ⟨fun i hi => ?_, fun i j hi hj h => ?_⟩⟩
    · rcases zF with h | ⟨t, h⟩
      · exact ⟨_, rfl, h⟩
      · exact ⟨_, rfl, h⟩
    · obtain ⟨h1, h2, h3, h4⟩ := hS.1 i hi
      have e1 : st_ad tM tK adK adV (100 + i) = adK i := st_ad1 hi
      have e2 : st_ad tM tK adK adV (120 + i) = adV i := st_ad2
      show va_O "java/lang/String" (st_ad tM tK adK adV (100 + i)) _ s s.heap ∧ va_OF "java/lang/String" "coder" "B" (.int 0) (st_ad tM tK adK adV (100 + i)) _ s s.heap ∧ va_OF "java/lang/String" "value" "[B" (.ref (st_ad tM tK adK adV (120 + i))) (st_ad tM tK adK adV (100 + i)) _ s s.heap ∧ va_T .byte (st_ad tM tK adK adV (120 + i)) (qx_len.getD i 0) (fun j => .int ((qx_byt.getD i []).getD j 0)) _ s s.heap
      rw [e1, e2]
      exact ⟨h1, h2, h3, h4⟩
    · have h' : st_ad tM tK adK adV (100 + i) = st_ad tM tK adK adV (100 + j) := h
      rw [st_ad1 hi, st_ad1 hj] at h'
      exact hS.2 i j hi hj h' 
