/-! constructors: worlds that grow; the judgement nx_K, contracts nx_Ct -/
abbrev nx_ao : List String := ["BustRest$Bust", "BustRest$Sheet", "java/lang/String"]
def nx_Ao (U : State) : Prop := ∀ C ∈ nx_ao, va_AO C U
theorem nx_Ao.moved {u U : State} (hvm : u.vm.Alike U.vm) (h : nx_Ao u) : nx_Ao U := fun C hC => va_AO.moved hvm (h C hC)
def nx_Pc (G : qx_G) (av : List Value) (ws : va_W) (sz : Nat) : Array Value → State → Prop :=
  va_Pc av (fun U => U.heap.size = sz ∧ va_P G.1 vwCl ws U.heap ∧ va_D (fun _ => True) ws ∧ qx_Kn G U ∧ nx_Ao U ∧ qx_Cn G (va_A ws sz) U U.heap)
def nx_Qc (G : qx_G) (P : va_W → Prop) (ws : va_W) (sz : Nat) : Array Value → State → Outcome → State → Prop :=
  va_Qv P (fun w1 t => va_P G.1 vwCl w1 t.heap ∧ va_D (va_A ws sz) w1) (va_A ws sz)
def nx_rm (fr lc mc ms : Nat) : Room := { frames := fr, cells := mc, slots := ms, locals := lc }
def nx_Ct (l : Launch) (G : qx_G) (y : MethodName) (cc : ByteArray) (nL fr lc mc ms : Nat) (av : List Value) (ws : va_W) (P : va_W → Prop) : Prop :=
  ∀ sz : Nat, Met l y (qx_ws y cc nL none) (nx_rm fr lc mc ms) (nx_Pc G av ws sz) (nx_Qc G P ws sz) mc ms (va_A ws sz)
def nx_K (l : Launch) (G : qx_G) (Δ : qx_T) (ws : va_W) (k n pc : Nat) (lo : List (Nat × Value)) (st : List Value) : Prop :=
  ∀ (H : Heap) (locs : List Loc) (ls : Array Slot), va_P G.1 vwCl ws H → va_D (qx_X Δ) ws → va_S (qx_X Δ) (qx_s Δ).heap H locs → lv_has ls (qx_n Δ) lo →
    W (qx_p Δ) l (qx_e Δ) (qx_R Δ) (qx_s Δ) (qx_m Δ) (qx_g Δ) (qx_b Δ) (qx_h Δ) (qx_c Δ) H locs k n (qx_Q Δ) (F0 (qx_m Δ) pc ls st)
def nx_C (G : qx_G) (Δ : qx_T) (cc : ByteArray) (own : String) (nL fr lc mc ms : Nat) : Prop :=
  ((qx_p Δ).tables.exec = Jvm.exec ∧ (qx_c Δ).code = cc ∧ (qx_c Δ).maxLocals = nL ∧ (qx_s Δ).vm.findClass own = some (qx_m Δ).cls ∧ ∀ w ∈ qx_Wd, w.before (qx_g Δ) (qx_s Δ) = true) ∧
  qx_n Δ = nL ∧ (fr ≤ (qx_R Δ).frames ∧ lc ≤ (qx_R Δ).locals ∧ mc ≤ (qx_R Δ).cells ∧ ms ≤ (qx_R Δ).slots) ∧ qx_Kn G (qx_s Δ) ∧ nx_Ao (qx_s Δ) ∧ qx_Cn G (qx_X Δ) (qx_s Δ) (qx_s Δ).heap ∧ ∀ q, (qx_s Δ).heap.size ≤ q → qx_X Δ q
theorem nx_blind {G : qx_G} {av : List Value} {ws : va_W} {sz : Nat} : FrameBlind (nx_Pc G av ws sz) := by
  intro a U g mk h
  obtain ⟨h0, h1, h2, h3, h4, h5, h6⟩ := h
  exact ⟨h0, h1, h2, h3, qx_Kn.same (s := U) (U := U.calling g mk a) rfl h4, nx_Ao.moved (u := U) (U := U.calling g mk a) (Vm.Alike.refl U.vm) h5, qx_Cn.moved (u := U) (U := U.calling g mk a) (Vm.Alike.refl U.vm) h6⟩
theorem nx_of {l : Launch} {G : qx_G} {y : MethodName} {cc : ByteArray} {nL fr lc mc ms : Nat} {av : List Value} {ws : va_W} {P : va_W → Prop} {lo : List (Nat × Value)} (hy : plainName y.cls = true) (hi : y.name = "<init>") (hav : (lg_sl av).length ≤ nL) (hlo : lv_args 0 av = lo)
    (body : ∀ (Δ : qx_T), nx_C G Δ cc y.cls nL fr lc mc ms → (qx_h Δ).name = "<init>" → (∀ (pc : Nat) (lo' : List (Nat × Value)) (ws' : va_W), decode cc pc = .ok (.return_, 1) → P ws' → nx_K l G Δ ws' mc ms pc lo' []) → nx_K l G Δ ws 0 0 0 lo []) : nx_Ct l G y cc nL fr lc mc ms av ws P := by
  intro sz
  refine Met.ofW (cc := cc) (maxL := nL) (ret := none) hy rfl ?_
  intro p e s m args below meth c s₁ B hml hv
  obtain ⟨rfl, rfl, hP, hD0, hK, hO, hC⟩ := hv
  have hts0 : ∀ w ∈ qx_ws y cc nL none, w.before av.toArray s = true := atoms_spec (ws := qx_ws y cc nL none) B.pre
  have hl := lv_entry av (n := nL) hav
  rw [hlo] at hl
  have hD := hD0.self (sz := s.heap.size)
  have hb := body (p, e, nx_rm fr lc mc ms, s, m, av.toArray, below, meth, c, va_A ws s.heap.size, nL, MQ below (nx_Qc G P ws s.heap.size) av.toArray s mc ms (va_A ws s.heap.size), mc, ms)
    ⟨⟨B.exec, B.bytes, hml, findClass_of_methodNamed B.named, fun w hw => hts0 w (List.mem_cons_of_mem _ hw)⟩, rfl, ⟨Nat.le_refl _, Nat.le_refl _, Nat.le_refl _, Nat.le_refl _⟩, hK, hO, hC, fun _ h => Or.inr h⟩ ((name_of_methodNamed B.named B.method).1.trans hi)
    (fun pc lo' ws' hd hp H locs ls hP' hD' hS' hl' => W.vret B.exec B.bytes B.returns (fun t ht hW => ⟨⟨ws', rfl, hp, by rw [ht]; exact hP', hD'⟩, hS'.F ht⟩) hS'.2.2 hd B.notSynchronized)
  have h1 := hb s.heap [] _ hP hD va_S.rf hl
  rw [lg_entry_eq]
  exact h1
theorem nx_isR {wr : va_W} {x : Nat × va_E} : (List.range wr.length).map (fun i => (wr ++ [x])[i]?) = wr.map some := by
  apply List.ext_getElem?
  intro i
  rw [List.getElem?_map, List.getElem?_map]
  rcases Nat.lt_or_ge i wr.length with h | h
  · rw [List.getElem?_range h]
    show some ((wr ++ [x])[i]?) = _
    rw [List.getElem?_append_left h, List.getElem?_eq_getElem h]; rfl
  · rw [List.getElem?_eq_none (by rw [List.length_range]; exact h), List.getElem?_eq_none h]; rfl
theorem nx_last {wr : va_W} {x : Nat × va_E} : (wr ++ [x])[wr.length]? = some x := by
  rw [List.getElem?_append_right (Nat.le_refl _), Nat.sub_self]; rfl
theorem nx_nd : ∀ n s : Nat, va_nd (List.range' s n) = true := by
  intro n
  induction n with
  | zero => intro s; rfl
  | succ n ih =>
    intro s
    rw [List.range'_succ]
    show (decide (s ∉ List.range' (s + 1) n) && va_nd (List.range' (s + 1) n)) = true
    rw [ih (s + 1), Bool.and_true, decide_eq_true_eq]
    intro h
    have := List.mem_range'_1.mp h
    omega
section nk_rows
variable {l : Launch} {G : qx_G} {Δ : qx_T} {cc : ByteArray} {own : String} {nL fr lc mc ms : Nat} {ws : va_W} {k n pc : Nat} {lo : List (Nat × Value)} {st st0 : List Value}
theorem nk_iconst (C : nx_C G Δ cc own nL fr lc mc ms) {z : Int} (v : Int32) (hd : decode cc pc = .ok (.iconst z, 1)) (pc' : Nat) (hp : pc + 1 = pc') (hv : Int32.ofInt z = v) (K : nx_K l G Δ ws k n pc' lo (.int v :: st)) : nx_K l G Δ ws k n pc lo st := by
  subst hp
  intro H locs ls hP hD hS h
  exact lv_iconst C.1.1 C.1.2.1 hd hv (K H locs ls hP hD hS h)
theorem nk_bipush (C : nx_C G Δ cc own nL fr lc mc ms) {z : Int} (v : Int32) (hd : decode cc pc = .ok (.bipush z, 2)) (pc' : Nat) (hp : pc + 2 = pc') (hv : (Int8.ofInt z).toInt32 = v) (K : nx_K l G Δ ws k n pc' lo (.int v :: st)) : nx_K l G Δ ws k n pc lo st := by
  subst hp
  intro H locs ls hP hD hS h
  exact lv_bipush C.1.1 C.1.2.1 hd hv (K H locs ls hP hD hS h)
theorem nk_sipush (C : nx_C G Δ cc own nL fr lc mc ms) {z : Int} (v : Int32) (hd : decode cc pc = .ok (.sipush z, 3)) (pc' : Nat) (hp : pc + 3 = pc') (hv : (Int16.ofInt z).toInt32 = v) (K : nx_K l G Δ ws k n pc' lo (.int v :: st)) : nx_K l G Δ ws k n pc lo st := by
  subst hp
  intro H locs ls hP hD hS h
  exact lv_sipush C.1.1 C.1.2.1 hd hv (K H locs ls hP hD hS h)
theorem nk_iloadn (C : nx_C G Δ cc own nL fr lc mc ms) {q : Fin 4} {i : Nat} {x : Int32} (hd : decode cc pc = .ok (.iload_n q, 1)) (pc' : Nat) (hp : pc + 1 = pc') (hi : (q : Nat) = i) (j : Nat) (hj : lo[j]? = some (i, .int x)) (K : nx_K l G Δ ws k n pc' lo (.int x :: st)) : nx_K l G Δ ws k n pc lo st := by
  subst hp
  intro H locs ls hP hD hS h
  exact lv_iload_n C.1.1 C.1.2.1 hd hi (lv_at h j hj) (K H locs ls hP hD hS h)
theorem nk_aloadn (C : nx_C G Δ cc own nL fr lc mc ms) {q : Fin 4} {i : Nat} {x : Nat} (hd : decode cc pc = .ok (.aload_n q, 1)) (pc' : Nat) (hp : pc + 1 = pc') (hi : (q : Nat) = i) (j : Nat) (hj : lo[j]? = some (i, .ref x)) (K : nx_K l G Δ ws k n pc' lo (.ref x :: st)) : nx_K l G Δ ws k n pc lo st := by
  subst hp
  intro H locs ls hP hD hS h
  exact lv_aload_n C.1.1 C.1.2.1 hd hi (lv_at h j hj) (K H locs ls hP hD hS h)
theorem nk_istoren (C : nx_C G Δ cc own nL fr lc mc ms) {q : Fin 4} {i : Nat} {x : Int32} {lo' : List (Nat × Value)} (hd : decode cc pc = .ok (.istore_n q, 1)) (pc' : Nat) (hp : pc + 1 = pc') (hi : (q : Nat) = i) (hn : i < nL) (hl : (i, Value.int x) :: lo.filter (fun q => !(q.1 == i) && !(q.1 + 1 == i && q.2.category == 2)) = lo') (K : nx_K l G Δ ws k n pc' lo' st) : nx_K l G Δ ws k n pc lo (.int x :: st) := by
  subst hp
  intro H locs ls hP hD hS h
  exact lv_istore_n C.1.1 C.1.2.1 hd hi h (by rw [C.2.1]; exact hn) hl (fun ls' h' => K H locs ls' hP hD hS h')
theorem nk_astoren (C : nx_C G Δ cc own nL fr lc mc ms) {q : Fin 4} {i : Nat} {x : Nat} {lo' : List (Nat × Value)} (hd : decode cc pc = .ok (.astore_n q, 1)) (pc' : Nat) (hp : pc + 1 = pc') (hi : (q : Nat) = i) (hn : i < nL) (hl : (i, Value.ref x) :: lo.filter (fun q => !(q.1 == i) && !(q.1 + 1 == i && q.2.category == 2)) = lo') (K : nx_K l G Δ ws k n pc' lo' st) : nx_K l G Δ ws k n pc lo (.ref x :: st) := by
  subst hp
  intro H locs ls hP hD hS h
  exact lv_astore_n C.1.1 C.1.2.1 hd hi h (by rw [C.2.1]; exact hn) hl (fun ls' h' => K H locs ls' hP hD hS h')
theorem nk_iinc (C : nx_C G Δ cc own nL fr lc mc ms) {i : Nat} {z : Int} {x : Int32} (v : Int32) {lo' : List (Nat × Value)} (hd : decode cc pc = .ok (.iinc i z, 3)) (pc' : Nat) (hp : pc + 3 = pc') (j : Nat) (hj : lo[j]? = some (i, .int x)) (hv : x + Int32.ofInt z = v) (hn : i < nL) (hl : (i, Value.int v) :: lo.filter (fun q => !(q.1 == i) && !(q.1 + 1 == i && q.2.category == 2)) = lo') (K : nx_K l G Δ ws k n pc' lo' st) : nx_K l G Δ ws k n pc lo st := by
  subst hp
  intro H locs ls hP hD hS h
  exact lv_iinc C.1.1 C.1.2.1 hd h hj hv (by rw [C.2.1]; exact hn) hl (fun ls' h' => K H locs ls' hP hD hS h')
theorem nk_iadd (C : nx_C G Δ cc own nL fr lc mc ms) {x y : Int32} (hd : decode cc pc = .ok (.iadd, 1)) (pc' : Nat) (hp : pc + 1 = pc') (K : nx_K l G Δ ws k n pc' lo (.int (x + y) :: st)) : nx_K l G Δ ws k n pc lo (.int y :: .int x :: st) := by
  subst hp
  intro H locs ls hP hD hS h
  exact lv_iadd C.1.1 C.1.2.1 hd (K H locs ls hP hD hS h)
theorem nk_dup (C : nx_C G Δ cc own nL fr lc mc ms) {v : Value} (hd : decode cc pc = .ok (.dup, 1)) (pc' : Nat) (hp : pc + 1 = pc') (hc : v.category = 1) (K : nx_K l G Δ ws k n pc' lo (v :: v :: st)) : nx_K l G Δ ws k n pc lo (v :: st) := by
  subst hp
  intro H locs ls hP hD hS h
  exact lv_dup C.1.1 C.1.2.1 hd hc (K H locs ls hP hD hS h)
theorem nk_goto (C : nx_C G Δ cc own nL fr lc mc ms) {off : Int} (hd : decode cc pc = .ok (.goto off, 3)) (tgt : Nat) (ht : (pc : Int) + off = (tgt : Int)) (K : nx_K l G Δ ws k n tgt lo st) : nx_K l G Δ ws k n pc lo st := by
  intro H locs ls hP hD hS h
  exact lv_goto C.1.1 C.1.2.1 hd ht (K H locs ls hP hD hS h)
theorem nk_icmp_ge (C : nx_C G Δ cc own nL fr lc mc ms) {x y : Int32} {off : Int} (hd : decode cc pc = .ok (.if_icmp .ge off, 3)) (tgt : Nat) (ht : (pc : Int) + off = (tgt : Int)) (pc' : Nat) (hp : pc + 3 = pc') (kt : y ≤ x → nx_K l G Δ ws k n tgt lo st) (kf : ¬ y ≤ x → nx_K l G Δ ws k n pc' lo st) : nx_K l G Δ ws k n pc lo (.int y :: .int x :: st) := by
  subst hp
  intro H locs ls hP hD hS h
  exact lv_icmp_ge C.1.1 C.1.2.1 hd ht (fun c => kt c H locs ls hP hD hS h) (fun c => kf c H locs ls hP hD hS h)
theorem nk_ldcS (C : nx_C G Δ cc own nL fr lc mc ms) {i : Nat} (q : Nat) {tx : String} (hd : decode cc pc = .ok (.ldc i, 2)) (pc' : Nat) (hp : pc + 2 = pc') (hw : (own, i, tx, q) ∈ qx_str) (K : nx_K l G Δ ws k n pc' lo (.ref (qx_ad G (100 + q)) :: st)) : nx_K l G Δ ws k n pc lo st := by
  subst hp
  intro H locs ls hP hD hS h
  exact va_ldcS C.1.1 C.1.2.1 C.1.2.2.2.1 (C.2.2.2.1.2.2 _ hw) hd (K H locs ls hP hD hS h)
theorem nk_ws (ws' : va_W) (h : ws = ws') (K : nx_K l G Δ ws' k n pc lo st) : nx_K l G Δ ws k n pc lo st := h ▸ K
theorem nk_oinit (C : nx_C G Δ cc own nL fr lc mc ms) {i a : Nat} (h1 : Cond.methodLink own i objectInit ∈ qx_Wd) (h2 : Cond.instanceMethod objectInit ∈ qx_Wd) (h3 : Cond.code objectInit ⟨#[0xb1]⟩ 1 none ∈ qx_Wd) (hd : decode cc pc = .ok (.invokespecial i, 3)) (pc' : Nat) (hp : pc + 3 = pc') (hR : 1 ≤ fr ∧ (st.map fun v => v.category).sum + 12 ≤ lc) (K : nx_K l G Δ ws k n pc' lo st) : nx_K l G Δ ws k n pc lo (.ref a :: st) := by
  subst hp
  intro H locs ls hP hD hS h
  refine W.objInit C.1.1 C.1.2.1 C.1.2.2.2.1 (C.1.2.2.2.2 _ h1) (C.1.2.2.2.2 _ h2) (C.1.2.2.2.2 _ h3) rfl (by rw [C.1.2.2.1, ← C.2.1]; exact h.1) rfl hd (Nat.le_trans hR.1 C.2.2.1.1) (Nat.le_trans ?_ (Nat.le_trans hR.2 C.2.2.1.2.1)) ?_
  · show 2 * 0 + (st.map fun v => v.category).sum + 12 ≤ _
    omega
  · exact K H locs ls hP hD hS h
theorem nk_new (C : nx_C G Δ cc own nL fr lc mc ms) {index ci N : Nat} {CN : String} {T : u_T} (ty : Nat → FieldType) (fs : List Value) (hc : vwCl[ci]? = some (CN, T, N)) (hin : ∀ w ∈ u_ws CN T N, w ∈ qx_Wd) (hty : ∀ k, k < N → parseFieldDescriptor (T k).2.2.1 = some (ty k)) (h1 : Cond.classLink own index CN ∈ qx_Wd) (h2 : Cond.instantiable CN N ∈ qx_Wd) (h3 : Cond.initialized CN ∈ qx_Wd) (hfs : ∀ j, j < N → defaultValue (ty j) = vp_V fs j) (hd : decode cc pc = .ok (.new index, 3)) (pc' : Nat) (hp : pc + 3 = pc') (k' n' : Nat) (hk : k + 1 = k') (hn : n + N = n') (hk2 : k' ≤ mc) (hn2 : n' ≤ ms)
    (K : ∀ q, nx_K l G Δ (ws ++ [(q, .inr (ci, fs))]) k' n' pc' lo (.ref q :: st)) : nx_K l G Δ ws k n pc lo st := by
  subst hp; subst hk; subst hn
  intro H locs ls hP hD hS h
  exact va_new C.1.1 C.1.2.1 C.1.2.2.2.2 hin ty hty C.1.2.2.2.1 (C.1.2.2.2.2 _ h1) (C.1.2.2.2.2 _ h2) (C.1.2.2.2.2 _ h3) C.2.2.2.1.1 hP hD hS C.2.2.2.2.2.2 hc hfs (Nat.le_trans hk2 C.2.2.1.2.2.1) (Nat.le_trans hn2 C.2.2.1.2.2.2) hd (fun q H1 hP1 hD1 hS1 => K q H1 locs ls hP1 hD1 hS1 h)
theorem nk_newa (C : nx_C G Δ cc own nL fr lc mc ms) (h1 : Cond.arrayClass .int ∈ qx_Wd) {x : Int32} (N : Nat) (hx : x = nI N) (hN : N < 2 ^ 20) (hd : decode cc pc = .ok (.newarray .int, 2)) (pc' : Nat) (hp : pc + 2 = pc') (k' n' : Nat) (hk : k + 1 = k') (hn : n + N = n') (hk2 : k' ≤ mc) (hn2 : n' ≤ ms)
    (K : ∀ q, nx_K l G Δ (ws ++ [(q, .inl (G.2.1 0, N, .inl (fun _ => 0)))]) k' n' pc' lo (.ref q :: st)) : nx_K l G Δ ws k n pc lo (.int x :: st) := by
  subst hp; subst hk; subst hn; subst hx
  intro H locs ls hP hD hS h
  refine va_newa (atype := .int) (ty := .int) (N' := N) (a0 := (N, .inl (fun _ => 0))) C.1.1 C.1.2.1 (C.1.2.2.2.2 _ h1) rfl C.2.2.2.1.1 hP hD hS C.2.2.2.2.2.2 (fun cA => rfl) (nI_pos (by omega)) (nI_clamp (by omega)) (show N * 4 ≤ 536870912 by omega) (Nat.le_trans hk2 C.2.2.1.2.2.1) (Nat.le_trans hn2 C.2.2.1.2.2.2) hd (fun q cA H1 hK1 hP1 hD1 hS1 => ?_)
  have e : cA = G.2.1 0 := by
    have e1 : (qx_s Δ).vm.findClass ("[" ++ FieldType.int.toString) = some cA := (hK1.2 4 (cA, .int) rfl).2
    have e2 : (qx_s Δ).vm.findClass ("[" ++ FieldType.int.toString) = some (G.2.1 0) := (C.2.2.2.1.1.2 0 (G.2.1 0, .int) rfl).2
    exact Option.some.inj (e1.symm.trans e2)
  subst e
  exact K q H1 locs ls hP1 hD1 hS1 h
theorem nk_newq (C : nx_C G Δ cc own nL fr lc mc ms) {index : Nat} {CN : String} (j : Nat) (hj : j < 4) (ht : (qx_tys G)[j]? = some (G.2.1 j, .object CN)) (h1 : Cond.classLink own index CN ∈ qx_Wd) (h2 : CN ∈ nx_ao) {x : Int32} (N : Nat) (hx : x = nI N) (hN : N < 2 ^ 20) (hd : decode cc pc = .ok (.anewarray index, 3)) (pc' : Nat) (hp : pc + 3 = pc') (k' n' : Nat) (hk : k + 1 = k') (hn : n + N = n') (hk2 : k' ≤ mc) (hn2 : n' ≤ ms)
    (K : ∀ q, nx_K l G Δ (ws ++ [(q, .inl (G.2.1 j, N, .inr (.inr (.inr (.inr (fun _ => none))))))]) k' n' pc' lo (.ref q :: st)) : nx_K l G Δ ws k n pc lo (.int x :: st) := by
  subst hp; subst hk; subst hn; subst hx
  intro H locs ls hP hD hS h
  refine va_newq C.1.1 C.1.2.1 C.1.2.2.2.1 (C.1.2.2.2.2 _ h1) (C.2.2.2.2.1 _ h2) C.2.2.2.1.1 hP hD hS C.2.2.2.2.2.2 (nI_pos (by omega)) (nI_clamp (by omega)) (show N * 4 ≤ 536870912 by omega) (Nat.le_trans hk2 C.2.2.1.2.2.1) (Nat.le_trans hn2 C.2.2.1.2.2.2) hd (fun q cA H1 hK1 hP1 hD1 hS1 => ?_)
  have e : cA = G.2.1 j := by
    obtain ⟨-, -, -, -, -, e1⟩ := (hK1.2 4 (cA, .object CN) rfl).2
    obtain ⟨-, -, -, -, -, e2⟩ := (C.2.2.2.1.1.2 j (G.2.1 j, .object CN) ht).2
    exact Option.some.inj (e1.symm.trans e2)
  subst e
  exact K q H1 locs ls hP1 hD1 hS1 h
theorem nk_put (C : nx_C G Δ cc own nL fr lc mc ms) {index ci j : Nat} (ty : FieldType) (hd : decode cc pc = .ok (.putfield index, 3)) (pc' : Nat) (hp : pc + 3 = pc') (F : qx_Fd own index ci j false) (q0 : Nat) {a : Nat} {fs : List Value} {v : Value} (he : ws[q0]? = some (a, .inr (ci, fs))) (hty : ∀ q, vwCl[ci]? = some q → parseFieldDescriptor (q.2.1 j).2.2.1 = some ty) (hn : narrow ty v = v) (hfit : fits ty v = true) (hl : j < fs.length) (ws' : va_W) (hw : ws.set q0 (a, .inr (ci, fs.set j v)) = ws') (K : nx_K l G Δ ws' k n pc' lo st) : nx_K l G Δ ws k n pc lo (v :: .ref a :: st) := by
  subst hp; subst hw
  intro H locs ls hP hD hS h
  obtain ⟨CN, T, N, hc, hin, hj, hnm, ⟨ty0, hty0⟩, hf, hw⟩ := F
  rcases hw with hw | ⟨host, hw⟩
  · exact va_put C.1.1 C.1.2.1 C.1.2.2.2.2 hin ty0 hty0 hnm C.1.2.2.2.1 C.2.2.2.1.1 hP hD hS q0 he hc j hj (C.1.2.2.2.2 _ hw) (fun _ h9 => h9) hf (hty _ hc) hn hfit hl hd (fun H1 locs1 hP1 hD1 hS1 => K H1 locs1 ls hP1 hD1 hS1 h)
  · exact va_putN C.1.1 C.1.2.1 C.1.2.2.2.2 hin ty0 hty0 hnm C.1.2.2.2.1 C.2.2.2.1.1 hP hD hS q0 he hc j hj (va_Nw.use rfl (C.2.2.2.1.2.1 _ hw)) (fun _ h9 => h9) hf (hty _ hc) hn hfit hl hd (fun H1 locs1 hP1 hD1 hS1 => K H1 locs1 ls hP1 hD1 hS1 h)
/-- a final field that a constructor of class own may write -/
def qx_FF (own : String) (index ci j : Nat) : Prop := ∃ (CN : String) (T : u_T) (N : Nat), vwCl[ci]? = some (CN, T, N) ∧ (∀ w ∈ u_ws CN T N, w ∈ qx_Wd) ∧ j < N ∧ (∀ a, a < N → ∀ b, b < N → a ≠ b → (T a).2.1 ≠ (T b).2.1) ∧ (∃ ty0 : Nat → FieldType, ∀ k, k < N → parseFieldDescriptor (T k).2.2.1 = some (ty0 k)) ∧ (T j).2.2.2 = true ∧ (T j).1 = own ∧ Cond.fieldLink own index (T j).1 (T j).2.1 (T j).2.2.1 ∈ qx_Wd
theorem nk_putF (C : nx_C G Δ cc own nL fr lc mc ms) (hi : (qx_h Δ).name = "<init>") {index ci j : Nat} (ty : FieldType) (hd : decode cc pc = .ok (.putfield index, 3)) (pc' : Nat) (hp : pc + 3 = pc') (F : qx_FF own index ci j) (q0 : Nat) {a : Nat} {fs : List Value} {v : Value} (he : ws[q0]? = some (a, .inr (ci, fs))) (hty : ∀ q, vwCl[ci]? = some q → parseFieldDescriptor (q.2.1 j).2.2.1 = some ty) (hn : narrow ty v = v) (hfit : fits ty v = true) (hl : j < fs.length) (ws' : va_W) (hw : ws.set q0 (a, .inr (ci, fs.set j v)) = ws') (K : nx_K l G Δ ws' k n pc' lo st) : nx_K l G Δ ws k n pc lo (v :: .ref a :: st) := by
  subst hp; subst hw
  intro H locs ls hP hD hS h
  obtain ⟨CN, T, N, hc, hin, hj, hnm, ⟨ty0, hty0⟩, hf, hdl, hw⟩ := F
  exact va_putF C.1.1 C.1.2.1 C.1.2.2.2.2 hin ty0 hty0 hnm C.1.2.2.2.1 C.2.2.2.1.1 hP hD hS q0 he hc j hj (C.1.2.2.2.2 _ hw) (fun _ h9 => h9) hf hi hdl (hty _ hc) hn hfit hl hd (fun H1 locs1 hP1 hD1 hS1 => K H1 locs1 ls hP1 hD1 hS1 h)
theorem nk_get (C : nx_C G Δ cc own nL fr lc mc ms) {index ci j : Nat} {fin : Bool} (hd : decode cc pc = .ok (.getfield index, 3)) (pc' : Nat) (hp : pc + 3 = pc') (F : qx_Fd own index ci j fin) (q0 : Nat) {a : Nat} {fs : List Value} {v : Value} (he : ws[q0]? = some (a, .inr (ci, fs))) (hv : fs[j]? = some v) (K : nx_K l G Δ ws k n pc' lo (v :: st)) : nx_K l G Δ ws k n pc lo (.ref a :: st) := by
  subst hp
  intro H locs ls hP hD hS h
  obtain ⟨CN, T, N, hc, hin, hj, -, -, -, hw⟩ := F
  rcases hw with hw | ⟨host, hw⟩
  · exact va_get C.1.1 C.1.2.1 C.1.2.2.2.2 hin C.1.2.2.2.1 C.2.2.2.1.1 hP q0 he hc j hj (C.1.2.2.2.2 _ hw) (fun _ h9 => h9) hv hd (K H locs ls hP hD hS h)
  · exact va_getN C.1.1 C.1.2.1 C.1.2.2.2.2 hin C.1.2.2.2.1 C.2.2.2.1.1 hP q0 he hc j hj (va_Nw.use rfl (C.2.2.2.1.2.1 _ hw)) (fun _ h9 => h9) hv hd (K H locs ls hP hD hS h)
theorem nk_iast (C : nx_C G Δ cc own nL fr lc mc ms) (hd : decode cc pc = .ok (.iastore, 1)) (pc' : Nat) (hp : pc + 1 = pc') (q0 : Nat) {a N : Nat} {f : Nat → Int32} {x y : Int32} (he : ws[q0]? = some (a, .inl (G.2.1 0, N, .inl f))) (i : Nat) (hx : x = nI i) (hi : i < N) (hN : N < 2 ^ 31) (ws' : va_W) (hw : ws.set q0 (a, .inl (G.2.1 0, N, .inl (upd f i y))) = ws') (K : nx_K l G Δ ws' k n pc' lo st) : nx_K l G Δ ws k n pc lo (.int y :: .int x :: .ref a :: st) := by
  subst hp; subst hw; subst hx
  intro H locs ls hP hD hS h
  refine va_iast C.1.1 C.1.2.1 C.2.2.2.1.1 hP hD hS q0 0 he rfl (vp_in_nI hi hN) hd (fun H1 locs1 hP1 hD1 hS1 => ?_)
  rw [nI_clamp (by omega)] at hP1 hD1
  exact K H1 locs1 ls hP1 hD1 hS1 h
theorem nk_astq (C : nx_C G Δ cc own nL fr lc mc ms) (hd : decode cc pc = .ok (.aastore, 1)) (pc' : Nat) (hp : pc + 1 = pc') (q0 t0 qk ci : Nat) {cA : ClassId} {r : vw_C} {a N v : Nat} {vs : List Value} {f : Nat → Option Nat} {x : Int32} (he : ws[q0]? = some (a, .inl (cA, N, .inr (.inr (.inr (.inr f)))))) (ht : (qx_tys G)[t0]? = some (cA, .object r.1)) (hv : ws[qk]? = some (v, .inr (ci, vs))) (hc : vwCl[ci]? = some r) (i : Nat) (hx : x = nI i) (hi : i < N) (hN : N < 2 ^ 31) (ws' : va_W) (hw : ws.set q0 (a, .inl (cA, N, .inr (.inr (.inr (.inr (va_up f i (some v))))))) = ws') (K : nx_K l G Δ ws' k n pc' lo st) : nx_K l G Δ ws k n pc lo (.ref v :: .int x :: .ref a :: st) := by
  subst hp; subst hw; subst hx
  intro H locs ls hP hD hS h
  refine va_astq C.1.1 C.1.2.1 C.2.2.2.1.1 hP hD hS q0 t0 qk ci he ht hv hc (vp_in_nI hi hN) hd (fun H1 locs1 hP1 hD1 hS1 => ?_)
  rw [nI_clamp (by omega)] at hP1 hD1
  exact K H1 locs1 ls hP1 hD1 hS1 h
theorem nk_astS (C : nx_C G Δ cc own nL fr lc mc ms) (hd : decode cc pc = .ok (.aastore, 1)) (pc' : Nat) (hp : pc + 1 = pc') (q0 : Nat) {a N s : Nat} {f : Nat → Option Nat} {x : Int32} (he : ws[q0]? = some (a, .inl (G.2.1 3, N, .inr (.inr (.inr (.inr f)))))) (hs : s < 12) (i : Nat) (hx : x = nI i) (hi : i < N) (hN : N < 2 ^ 31) (ws' : va_W) (hw : ws.set q0 (a, .inl (G.2.1 3, N, .inr (.inr (.inr (.inr (va_up f i (some (qx_ad G (100 + s))))))))) = ws') (K : nx_K l G Δ ws' k n pc' lo st) : nx_K l G Δ ws k n pc lo (.ref (qx_ad G (100 + s)) :: .int x :: .ref a :: st) := by
  subst hp; subst hw; subst hx
  intro H locs ls hP hD hS h
  refine vb_astq C.1.1 C.1.2.1 C.2.2.2.1.1 hP hD hS q0 3 he rfl (vk_recv (adK := fun i => qx_ad G (100 + i)) (i := s) C.2.2.2.2.2.1.2.2.2.2.2.2 hs hS) (fun comp c0 h1 h2 => vb_asgS comp c0 h1 h2) (vp_in_nI hi hN) hd (fun H1 locs1 hP1 hD1 hS1 => ?_)
  rw [nI_clamp (by omega)] at hP1 hD1
  exact K H1 locs1 ls hP1 hD1 hS1 h
/-- a constructor is called for the object that stands last -/
theorem nk_init (C : nx_C G Δ cc own nL fr lc mc ms) {index nA : Nat} {y : MethodName} {bytes : ByteArray} {maxL fr' lc' mc' ms' q : Nat} {e : va_E} {wr : va_W} {As : List Value} {P : va_W → Prop} (hd : decode cc pc = .ok (.invokespecial index, 3)) (pc' : Nat) (hp : pc + 3 = pc') (hl : Cond.methodLink own index y ∈ qx_Wd ∨ ∃ host, Cond.methodLinkNest own index y host ∈ qx_Nd) (h2 : Cond.instanceMethod y ∈ qx_Wd) (Cd : qx_Cd y bytes maxL none nA) (hy : y.name = "<init>") (Ct : nx_Ct l G y bytes maxL fr' lc' mc' ms' (.ref q :: As) [(q, e)] P) (hn : As.length = nA) (hst : st0 = As.reverse ++ .ref q :: st) (hcat : (st.map fun v => v.category).sum ≤ 8) (hR : fr' + 1 ≤ fr ∧ 8 + (maxL + 11) + lc' ≤ lc) (k' n' : Nat) (hk : k + mc' = k') (hn' : n + ms' = n') (hk2 : k' ≤ mc) (hn2 : n' ≤ ms)
    (K : ∀ w1, P w1 → nx_K l G Δ (wr ++ w1) k' n' pc' lo st) : nx_K l G Δ (wr ++ [(q, e)]) k n pc lo st0 := by
  subst hp; subst hst; subst hk; subst hn'
  intro H locs ls hP hD hS h
  have isC : [wr.length].map (fun i => (wr ++ [(q, e)])[i]?) = [((q, e) : Nat × va_E)].map some := by
    show [(wr ++ [(q, e)])[wr.length]?] = [some (q, e)]
    rw [nx_last]
  have hPc : va_P G.1 vwCl [(q, e)] H := hP.sub [wr.length] (by show List.filterMap _ [wr.length] = _; simp [nx_last])
  have hDc := hD.sub (ws' := [(q, e)]) [wr.length] (by rfl) isC
  have hFc := va_free (wc := [(q, e)]) hD hS C.2.2.2.2.2.2 [wr.length] isC
  have hdis : ∀ i ∈ List.range wr.length, i ∉ [wr.length] := fun i hi h2 => by
    have h3 := List.mem_range.mp hi
    have h4 := List.mem_singleton.mp h2
    omega
  have hR2 : (nx_rm fr' lc' mc' ms').frames + 1 ≤ (qx_R Δ).frames ∧ 8 + (maxL + 11) + (nx_rm fr' lc' mc' ms').locals ≤ (qx_R Δ).locals := ⟨Nat.le_trans hR.1 C.2.2.1.1, Nat.le_trans hR.2 C.2.2.1.2.1⟩
  have hsz : (F0 (qx_m Δ) pc ls (As.reverse ++ .ref q :: st)).locals.size = nL := by rw [← C.2.1]; exact h.1
  have hroom : k + mc' ≤ (qx_R Δ).cells ∧ n + ms' ≤ (qx_R Δ).slots := ⟨Nat.le_trans hk2 C.2.2.1.2.2.1, Nat.le_trans hn2 C.2.2.1.2.2.2⟩
  have hpre : PreS (qx_s Δ) H (nx_Pc G (.ref q :: As) [(q, e)] H.size) (.ref q :: As) := ⟨nx_blind, fun U hU hW => ⟨rfl, by rw [hU], by rw [hU]; exact hPc, hDc.weaken (fun _ _ _ _ => trivial), C.2.2.2.1.warm hW, C.2.2.2.2.1.moved hW.alike, by rw [hU]; exact ((C.2.2.2.2.2.1.kept hS.2.1).moved hW.alike).narrow hFc⟩⟩
  have hG := qx_goodC Cd.2.1
  have kk : ∀ (u : va_W) (t : State) (H1 : Heap) (locs1 : List Loc), t.heap = H1 → (qx_s Δ).vm.Alike t.vm → P u → (va_P G.1 vwCl u t.heap ∧ va_D (va_A [(q, e)] H.size) u) → H.size ≤ H1.size → (∀ b : Nat, b < H.size → ¬ va_A [(q, e)] H.size b → H1[b]? = H[b]?) → va_S (qx_X Δ) (qx_s Δ).heap H1 locs1 →
      W (qx_p Δ) l (qx_e Δ) (qx_R Δ) (qx_s Δ) (qx_m Δ) (qx_g Δ) (qx_b Δ) (qx_h Δ) (qx_c Δ) H1 locs1 (k + mc') (n + ms') (qx_Q Δ) (F0 (qx_m Δ) (pc + 3) ls st) := by
    intro u t H1 locs1 ht hvm hw hB hz1 hk1 hS1
    obtain ⟨hP1, hD1⟩ := hB
    rw [ht] at hP1
    obtain ⟨hP', hD'⟩ := va_join (wr := wr) (w1 := u) hP hD [wr.length] (List.range wr.length) isC nx_isR (by rw [List.range_eq_range']; exact nx_nd _ _) hdis hk1 hFc hP1 hD1
    exact K u hw H1 locs1 ls hP' hD' hS1 h
  rcases hl with hl | ⟨host, hl⟩
  · exact va_callv (va_runI C.1 (Ct H.size) (cwI (Ts := qx_Wd) nA C.1.2.2.2.2 hG rfl rfl rfl (C.1.2.2.2.2 _ Cd.1) (C.1.2.2.2.2 _ hl) (C.1.2.2.2.2 _ h2) hy Cd.2.2 hR2) hpre rfl hn hsz rfl (lv_room hcat) hd hroom) hS (fun b _ h9 => hFc b h9) hFc kk
  · exact va_callv (va_runIN C.1 (Ct H.size) ⟨va_cnB (Ts := qx_Wd) nA C.1.2.2.2.2 hG rfl rfl rfl (C.2.2.2.1.2.1 _ hl) (C.1.2.2.2.2 _ Cd.1) Cd.2.2 hR2, hy, C.1.2.2.2.2 _ h2⟩ hpre rfl hn hsz rfl (lv_room hcat) hd hroom) hS (fun b _ h9 => hFc b h9) hFc kk
end nk_rows
