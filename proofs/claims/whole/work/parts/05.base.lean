/-! the base layer: one world for both sides; the judgement qx_K; contracts qx_Ct -/
abbrev qx_G : Type := va_G × (Nat → ClassId) × (Nat → Nat)
abbrev qx_Sg : Type := Nat → Nat → Int32
def qx_ad (G : qx_G) (k : Nat) : Nat := G.2.2 k
def qx_cut (n : Nat) (r : Nat → Int32) : Nat → Int32 := fun i => if i < n then r i else 0
def qx_ia (G : qx_G) (n : Nat) (r : Nat → Int32) : va_E := .inl (G.2.1 0, n, .inl (qx_cut n r))
def qx_bu (r : Nat → Int32) : va_E := .inr (0, [.int (r 0), .int (r 1), .int (r 2), .int (r 3), .int (r 4), .int (r 5), .int (r 6)])
def qx_li (G : qx_G) (k : Nat) (r : Nat → Int32) : va_E := .inr (1, [.int (r 0), .int (r 1), .int (r 2), .int (r 3), .ref (qx_ad G (k + 1)), .ref (qx_ad G (k + 2)), .ref (qx_ad G (k + 3)), .ref (qx_ad G (k + 4))])
def qx_bs (G : qx_G) (k : Nat) : va_E := .inl (G.2.1 1, 8, .inr (.inr (.inr (.inr (fun i => some (qx_ad G (k + 5 + i)))))))
def qx_FL (G : qx_G) (k j : Nat) (r : Nat → Int32) : va_E := match j with
  | 0 => qx_li G k r
  | 1 => qx_ia G 6 r
  | 2 => qx_ia G 12 r
  | 3 => qx_ia G 10 r
  | 4 => qx_bs G k
  | _ => qx_bu r
def qx_sh (G : qx_G) (k : Nat) (r : Nat → Int32) : va_E := .inr (2, [.int (r 0), .int (r 1), .ref (qx_ad G (k + 4))])
def qx_F2 (G : qx_G) (j : Nat) (r : Nat → Int32) : va_E := match j with
  | 0 => .inr (3, [.ref (qx_ad G 41), .int (r 1), .int (r 2), .int (r 3), .int (r 4), .int (r 5)])
  | 1 => qx_ia G 120 r
  | 2 => .inr (4, [.ref (qx_ad G 40), .ref (qx_ad G 14), .int (r 2), .int (r 3)])
  | 3 => .inl (G.2.1 2, 4, .inr (.inr (.inr (.inr (fun i => some (qx_ad G (44 + i)))))))
  | 4 => qx_sh G 44 r
  | 5 => qx_sh G 45 r
  | 6 => qx_sh G 46 r
  | 7 => qx_sh G 47 r
  | 8 => qx_ia G 40 r
  | 9 => qx_ia G 40 r
  | 10 => qx_ia G 40 r
  | 11 => qx_ia G 40 r
  | 12 => qx_ia G 7 r
  | 13 => .inr (6, [.ref (qx_ad G 54), .ref (qx_ad G 55), .ref (qx_ad G 56), .int (r 3), .ref (qx_ad G 57), .ref (qx_ad G 58), .int (r 6), .int (r 7), .int (r 8), .int (r 9), .int (r 10), .int (r 11), .ref (qx_ad G 59), .ref (qx_ad G 60), .int (r 14), .int (r 15), .ref (qx_ad G 61), .ref (qx_ad G 62), .ref (qx_ad G 63), .ref (qx_ad G 64)])
  | 14 => qx_ia G 88 r
  | 15 => qx_ia G 88 r
  | 16 => qx_ia G 88 r
  | 17 => qx_ia G 8 r
  | 18 => qx_ia G 120 r
  | 19 => .inl (G.2.1 3, 7, .inr (.inr (.inr (.inr (fun i => some (qx_ad G (100 + i)))))))
  | 20 => qx_ia G 600 r
  | 21 => qx_ia G 4 r
  | 22 => qx_ia G 4 r
  | 23 => qx_ia G 160 r
  | _ => qx_ia G 40 r
def qx_F (G : qx_G) (k : Nat) (r : Nat → Int32) : va_E :=
  if k = 0 then .inr (5, [.ref (qx_ad G 1), .ref (qx_ad G 14), .ref (qx_ad G 27), .int (r 3), .ref (qx_ad G 40), .ref (qx_ad G 42), .ref (qx_ad G 43), .ref (qx_ad G 52)])
  else if k < 14 then qx_FL G 1 (k - 1) r
  else if k < 27 then qx_FL G 14 (k - 14) r
  else if k < 40 then qx_FL G 27 (k - 27) r
  else qx_F2 G (k - 40) r
def qx_W (G : qx_G) (σ : qx_Sg) : va_W := (List.range 65).map (fun k => (qx_ad G k, qx_F G k (σ k)))
theorem qx_W_get {G : qx_G} {σ : qx_Sg} {k : Nat} (hk : k < 65) : (qx_W G σ)[k]? = some (qx_ad G k, qx_F G k (σ k)) := by
  simp [qx_W, List.getElem?_map, List.getElem?_range hk]
theorem qx_W_out {G : qx_G} {σ : qx_Sg} {k : Nat} (hk : ¬ k < 65) : (qx_W G σ)[k]? = none := by
  simp [qx_W, List.getElem?_map]; omega
theorem qx_W_len {G : qx_G} {σ : qx_Sg} : (qx_W G σ).length = 65 := by simp [qx_W]
theorem qx_W_set {G : qx_G} {σ : qx_Sg} {k : Nat} (hk : k < 65) (r : Nat → Int32) : (qx_W G σ).set k (qx_ad G k, qx_F G k r) = qx_W G (va_up σ k r) := by
  apply List.ext_getElem?
  intro j
  by_cases hj : j < 65
  · by_cases e : j = k
    · subst e
      rw [List.getElem?_set_self (by rw [qx_W_len]; exact hk), qx_W_get hj]
      simp [va_up]
    · rw [List.getElem?_set_ne (fun h => e h.symm), qx_W_get hj, qx_W_get hj]
      simp [va_up, e]
  · rw [List.getElem?_eq_none (by rw [List.length_set, qx_W_len]; omega), qx_W_out hj]
theorem qx_W_ext {G : qx_G} {σ σ' : qx_Sg} (h : ∀ k, k < 65 → qx_F G k (σ k) = qx_F G k (σ' k)) : qx_W G σ = qx_W G σ' := by
  apply List.ext_getElem?
  intro j
  by_cases hj : j < 65
  · rw [qx_W_get hj, qx_W_get hj, h j hj]
  · rw [qx_W_out hj, qx_W_out hj]
theorem qx_cut_upd {n i : Nat} {r : Nat → Int32} {x : Int32} (hi : i < n) : upd (qx_cut n r) i x = qx_cut n (upd r i x) := by
  funext j
  unfold upd qx_cut
  by_cases e : j = i
  · subst e; simp [hi]
  · simp [e]
theorem qx_cut_at {n i : Nat} {r : Nat → Int32} (hi : i < n) : qx_cut n r i = r i := by simp [qx_cut, hi]
/-- the kinds of cells -/
def qx_isL (k : Nat) : Prop := k = 1 ∨ k = 14 ∨ k = 27
theorem qx_Fl {G : qx_G} {k : Nat} (h : qx_isL k) (r : Nat → Int32) : qx_F G k r = qx_li G k r := by rcases h with rfl | rfl | rfl <;> rfl
theorem qx_Fl1 {G : qx_G} {k : Nat} (h : qx_isL k) (r : Nat → Int32) : qx_F G (k + 1) r = qx_ia G 6 r := by rcases h with rfl | rfl | rfl <;> rfl
theorem qx_Fl2 {G : qx_G} {k : Nat} (h : qx_isL k) (r : Nat → Int32) : qx_F G (k + 2) r = qx_ia G 12 r := by rcases h with rfl | rfl | rfl <;> rfl
theorem qx_Fl3 {G : qx_G} {k : Nat} (h : qx_isL k) (r : Nat → Int32) : qx_F G (k + 3) r = qx_ia G 10 r := by rcases h with rfl | rfl | rfl <;> rfl
theorem qx_Fl4 {G : qx_G} {k : Nat} (h : qx_isL k) (r : Nat → Int32) : qx_F G (k + 4) r = qx_bs G k := by rcases h with rfl | rfl | rfl <;> rfl
theorem qx_Fl5 {G : qx_G} {k b : Nat} (h : qx_isL k) (hb : b < 8) (r : Nat → Int32) : qx_F G (k + 5 + b) r = qx_bu r := by
  have hb' : b = 0 ∨ b = 1 ∨ b = 2 ∨ b = 3 ∨ b = 4 ∨ b = 5 ∨ b = 6 ∨ b = 7 := by omega
  rcases h with rfl | rfl | rfl <;> rcases hb' with rfl | rfl | rfl | rfl | rfl | rfl | rfl | rfl <;> rfl
theorem qx_isL.lt {k : Nat} (h : qx_isL k) : k < 28 := by rcases h with rfl | rfl | rfl <;> omega
def qx_isB (k : Nat) : Prop := ∃ L b, qx_isL L ∧ b < 8 ∧ k = L + 5 + b
theorem qx_Fb {G : qx_G} {k : Nat} (h : qx_isB k) (r : Nat → Int32) : qx_F G k r = qx_bu r := by
  obtain ⟨L, b, hL, hb, rfl⟩ := h
  exact qx_Fl5 hL hb r
theorem qx_isB.lt {k : Nat} (h : qx_isB k) : k < 65 := by
  obtain ⟨L, b, hL, hb, rfl⟩ := h
  have := hL.lt
  omega
/-- words of the tables, and what the state holds beside the world -/
def qx_Wd : List Cond := lw_tbl.filter goodWord
def qx_nw : Cond → Bool
  | .fieldLinkNest _ _ _ _ _ _ => true
  | .methodLinkNest _ _ _ _ => true
  | _ => false
def qx_Nd : List Cond := lw_tbl.filter qx_nw
theorem qx_in {w : Cond} (h : w ∈ lw_tbl) (g : goodWord w = true) : w ∈ qx_Wd := List.mem_filter.mpr ⟨h, g⟩
theorem qx_inN {w : Cond} (h : w ∈ lw_tbl) (g : qx_nw w = true) : w ∈ qx_Nd := List.mem_filter.mpr ⟨h, g⟩
theorem qx_goodW {w : Cond} (h : w ∈ qx_Wd) : (w.onTables && w.keeps) = true ∨ ∃ ty, w = .arrayClass ty := good_of_word (List.mem_filter.mp h).2
theorem qx_nest {w : Cond} (h : qx_nw w = true) {s U : State} (hW : s.WarmedH U.vm) (hZ : va_Nw w s) : va_Nw w U := by
  cases w <;> first | exact va_Nw.warmF hW hZ | exact va_Nw.warmM hW hZ | cases h
def qx_tys (G : qx_G) : List (ClassId × FieldType) := [(G.2.1 0, .int), (G.2.1 1, .object "BustRest$Bust"), (G.2.1 2, .object "BustRest$Sheet"), (G.2.1 3, .object "java/lang/String")]
def qx_inj (G : qx_G) : Prop := ∀ i j, i < 65 → j < 65 → qx_ad G i = qx_ad G j → i = j
/-- the twelve texts: 0 to 6 the kinds' names, 7 has, 8 at, 9 sealed, 10 bequest, 11 store -/
def qx_byt : List (List Int32) := [[98, 117, 115, 116], [112, 111, 101, 116], [115, 116, 111, 105, 99], [111, 114, 97, 116, 111, 114], [99, 105, 99, 101, 114, 111], [116, 111, 114, 115, 111], [104, 111, 109, 101, 114], [104, 97, 115], [97, 116], [115, 101, 97, 108, 101, 100], [98, 101, 113, 117, 101, 115, 116], [115, 116, 111, 114, 101]]
def qx_len : List Nat := [4, 4, 5, 6, 6, 5, 5, 3, 2, 6, 7, 5]
def qx_str : List (String × Nat × String × Nat) := [("BustRest$TextReader", 78, "bust", 0), ("BustRest$TextReader", 66, "poet", 1), ("BustRest$TextReader", 68, "stoic", 2), ("BustRest$TextReader", 70, "orator", 3), ("BustRest$TextReader", 72, "cicero", 4), ("BustRest$TextReader", 74, "torso", 5), ("BustRest$TextReader", 76, "homer", 6), ("BustRest$TextReader", 111, "has", 7), ("BustRest$TextReader", 117, "at", 8), ("BustRest$TextReader", 130, "sealed", 9), ("BustRest$TextReader", 44, "bequest", 10), ("BustRest$TextReader", 53, "store", 11),
  ("BustRestModel", 27, "bust", 0), ("BustRestModel", 29, "poet", 1), ("BustRestModel", 31, "stoic", 2), ("BustRestModel", 33, "orator", 3), ("BustRestModel", 35, "cicero", 4), ("BustRestModel", 37, "torso", 5), ("BustRestModel", 39, "homer", 6), ("BustRestModel", 293, "has", 7), ("BustRestModel", 297, "at", 8), ("BustRestModel", 299, "sealed", 9), ("BustRestModel", 308, "bequest", 10), ("BustRestModel", 310, "store", 11)]
def qx_Kn (G : qx_G) (U : State) : Prop := va_K G.1 vwCl (qx_tys G) U ∧ (∀ w ∈ qx_Nd, va_Nw w U) ∧ ∀ q ∈ qx_str, vk_R q.1 q.2.1 q.2.2.1 (qx_ad G (100 + q.2.2.2)) U
theorem qx_Kn.warm {G : qx_G} {s U : State} (hW : s.WarmedH U.vm) (h : qx_Kn G s) : qx_Kn G U :=
  ⟨va_K.moved hW.alike h.1, fun w hw => qx_nest (List.mem_filter.mp hw).2 hW (h.2.1 w hw), fun q hq => vk_R.warm hW (h.2.2 q hq)⟩
theorem qx_Kn.same {G : qx_G} {s U : State} (hv : s.vm = U.vm) (h : qx_Kn G s) : qx_Kn G U :=
  ⟨va_K.moved (by rw [hv]; exact Vm.Alike.refl _) h.1, fun w hw => va_Nw.same (by have := (List.mem_filter.mp hw).2; cases w <;> first | rfl | cases this) hv (h.2.1 w hw), fun q hq => vk_R.same hv.symm (h.2.2 q hq)⟩
/-- what no method writes: the static rows, the texts -/
def qx_most : List Int32 := [6, 999, 4095, 15, 99, 1, 1]
def qx_abv : List Int32 := [0, 0, 0, 2, 3, 0, 1]
def qx_Cn (G : qx_G) (X : Nat → Prop) (U : State) (H : Heap) : Prop :=
  va_Z "BustRest" "MOST" "[I" (.ref (qx_ad G 90)) X U H ∧ va_T .int (qx_ad G 90) 7 (fun j => .int (qx_most.getD j 0)) X U H ∧
  va_Z "BustRest" "KIND_ABOVE" "[I" (.ref (qx_ad G 91)) X U H ∧ va_T .int (qx_ad G 91) 7 (fun j => .int (qx_abv.getD j 0)) X U H ∧
  va_Z "java/lang/String" "COMPACT_STRINGS" "Z" (.int 1) X U H ∧ (∃ v : Value, v.category = 1 ∧ va_Z "jdk/internal/util/Preconditions" "SIOOBE_FORMATTER" "Ljava/util/function/BiFunction;" v X U H) ∧
  vk_S 12 qx_len qx_byt (fun i => qx_ad G (100 + i)) (fun i => qx_ad G (120 + i)) X U H
theorem qx_Cn.moved {G : qx_G} {X : Nat → Prop} {u U : State} {H : Heap} (hvm : u.vm.Alike U.vm) (h : qx_Cn G X u H) : qx_Cn G X U H := by
  obtain ⟨h1, h2, h3, h4, h5, ⟨v, h6, h7⟩, h8⟩ := h
  exact ⟨h1.moved hvm, h2.moved hvm, h3.moved hvm, h4.moved hvm, h5.moved hvm, ⟨v, h6, h7.moved hvm⟩, h8.moved hvm⟩
theorem qx_Cn.kept {G : qx_G} {X : Nat → Prop} {U : State} {H H1 : Heap} (h : qx_Cn G X U H) (hq : ∀ a : Nat, a < H.size → ¬ X a → H1[a]? = H[a]?) : qx_Cn G X U H1 := by
  obtain ⟨h1, h2, h3, h4, h5, ⟨v, h6, h7⟩, h8⟩ := h
  exact ⟨h1.kept hq, h2.kept hq, h3.kept hq, h4.kept hq, h5.kept hq, ⟨v, h6, h7.kept hq⟩, h8.kept hq⟩
theorem qx_Cn.narrow {G : qx_G} {X Y : Nat → Prop} {U : State} {H : Heap} (h : qx_Cn G X U H) (hXY : ∀ q, Y q → X q) : qx_Cn G Y U H := by
  obtain ⟨h1, h2, h3, h4, h5, ⟨v, h6, h7⟩, h8⟩ := h
  exact ⟨h1.narrow hXY, h2.narrow hXY, h3.narrow hXY, h4.narrow hXY, h5.narrow hXY, ⟨v, h6, h7.narrow hXY⟩, h8.narrow hXY⟩
def qx_A (G : qx_G) (sz : Nat) : Nat → Prop := fun q => (∃ k, k < 65 ∧ q = qx_ad G k) ∨ sz ≤ q
theorem qx_D {G : qx_G} {X : Nat → Prop} {σ : qx_Sg} (hi : qx_inj G) (hX : ∀ k, k < 65 → X (qx_ad G k)) : va_D X (qx_W G σ) := by
  have key : ∀ (k : Nat) (q : Nat × va_E), (qx_W G σ)[k]? = some q → k < 65 ∧ q.1 = qx_ad G k := by
    intro k q h
    by_cases hk : k < 65
    · rw [qx_W_get hk] at h
      cases h
      exact ⟨hk, rfl⟩
    · rw [qx_W_out hk] at h
      cases h
  refine ⟨fun i j p q h1 h2 e => ?_, fun k q h => ?_⟩
  · obtain ⟨a1, a2⟩ := key i p h1
    obtain ⟨b1, b2⟩ := key j q h2
    exact hi i j a1 b1 (by rw [← a2, ← b2]; exact e)
  · obtain ⟨a1, a2⟩ := key k q h
    rw [a2]
    exact hX k a1
/-! a contract: the whole world before, the whole world behind -/
def qx_Pc (G : qx_G) (av : List Value) (σ : qx_Sg) (sz : Nat) : Array Value → State → Prop :=
  va_Pc av (fun U => U.heap.size = sz ∧ va_P G.1 vwCl (qx_W G σ) U.heap ∧ qx_Kn G U ∧ qx_Cn G (qx_A G sz) U U.heap)
def qx_Qc (G : qx_G) (P : Option Value → qx_Sg → Prop) (sz : Nat) : Array Value → State → Outcome → State → Prop :=
  fun _ st oc t => (∃ (v : Option Value) (σ' : qx_Sg), oc = .returned v ∧ P v σ' ∧ va_P G.1 vwCl (qx_W G σ') t.heap) ∧ va_F (qx_A G sz) st t
def qx_rm (fr lc : Nat) : Room := { frames := fr, cells := 0, slots := 0, locals := lc }
def qx_ws (y : MethodName) (cc : ByteArray) (nL : Nat) (ret : Option FieldType) : List Cond := .code y cc nL ret :: qx_Wd
def qx_Ct (l : Launch) (G : qx_G) (y : MethodName) (cc : ByteArray) (nL : Nat) (ret : Option FieldType) (fr lc : Nat) (av : List Value) (σ : qx_Sg) (P : Option Value → qx_Sg → Prop) : Prop :=
  qx_inj G → ∀ sz : Nat, Met l y (qx_ws y cc nL ret) (qx_rm fr lc) (qx_Pc G av σ sz) (qx_Qc G P sz) 0 0 (qx_A G sz)
abbrev qx_T : Type := Program × Env × Room × State × MethodId × Array Value × List Frame × Method × Code × (Nat → Prop) × Nat × (State → Prop) × Nat × Nat
abbrev qx_p (Δ : qx_T) : Program := Δ.1
abbrev qx_e (Δ : qx_T) : Env := Δ.2.1
abbrev qx_R (Δ : qx_T) : Room := Δ.2.2.1
abbrev qx_s (Δ : qx_T) : State := Δ.2.2.2.1
abbrev qx_m (Δ : qx_T) : MethodId := Δ.2.2.2.2.1
abbrev qx_g (Δ : qx_T) : Array Value := Δ.2.2.2.2.2.1
abbrev qx_b (Δ : qx_T) : List Frame := Δ.2.2.2.2.2.2.1
abbrev qx_h (Δ : qx_T) : Method := Δ.2.2.2.2.2.2.2.1
abbrev qx_c (Δ : qx_T) : Code := Δ.2.2.2.2.2.2.2.2.1
abbrev qx_X (Δ : qx_T) : Nat → Prop := Δ.2.2.2.2.2.2.2.2.2.1
abbrev qx_n (Δ : qx_T) : Nat := Δ.2.2.2.2.2.2.2.2.2.2.1
abbrev qx_Q (Δ : qx_T) : State → Prop := Δ.2.2.2.2.2.2.2.2.2.2.2.1
abbrev qx_k (Δ : qx_T) : Nat := Δ.2.2.2.2.2.2.2.2.2.2.2.2.1
abbrev qx_l (Δ : qx_T) : Nat := Δ.2.2.2.2.2.2.2.2.2.2.2.2.2
/-- from every heap that holds the world σ, with the locals lo, the method comes from pc with the stack st to its end -/
def qx_K (l : Launch) (G : qx_G) (Δ : qx_T) (σ : qx_Sg) (pc : Nat) (lo : List (Nat × Value)) (st : List Value) : Prop :=
  ∀ (H : Heap) (locs : List Loc) (ls : Array Slot), va_P G.1 vwCl (qx_W G σ) H → va_S (qx_X Δ) (qx_s Δ).heap H locs → lv_has ls (qx_n Δ) lo →
    W (qx_p Δ) l (qx_e Δ) (qx_R Δ) (qx_s Δ) (qx_m Δ) (qx_g Δ) (qx_b Δ) (qx_h Δ) (qx_c Δ) H locs (qx_k Δ) (qx_l Δ) (qx_Q Δ) (F0 (qx_m Δ) pc ls st)
/-- what holds all along a method -/
def qx_C (G : qx_G) (Δ : qx_T) (cc : ByteArray) (own : String) (nL fr lc : Nat) : Prop :=
  ((qx_p Δ).tables.exec = Jvm.exec ∧ (qx_c Δ).code = cc ∧ (qx_c Δ).maxLocals = nL ∧ (qx_s Δ).vm.findClass own = some (qx_m Δ).cls ∧ ∀ w ∈ qx_Wd, w.before (qx_g Δ) (qx_s Δ) = true) ∧
  qx_n Δ = nL ∧ (fr ≤ (qx_R Δ).frames ∧ lc ≤ (qx_R Δ).locals ∧ qx_k Δ ≤ (qx_R Δ).cells ∧ qx_l Δ ≤ (qx_R Δ).slots) ∧ qx_Kn G (qx_s Δ) ∧ qx_Cn G (qx_X Δ) (qx_s Δ) (qx_s Δ).heap ∧ qx_inj G ∧ ∀ q, qx_A G (qx_s Δ).heap.size q → qx_X Δ q
section qx_entry
variable {l : Launch} {G : qx_G} {y : MethodName} {cc : ByteArray} {nL : Nat} {fr lc : Nat} {av : List Value} {σ : qx_Sg} {P : Option Value → qx_Sg → Prop} {lo : List (Nat × Value)}
theorem qx_ofW {ret : Option FieldType} (hy : plainName y.cls = true) (hav : (lg_sl av).length ≤ nL) (hlo : lv_args 0 av = lo)
    (body : ∀ (Δ : qx_T), qx_C G Δ cc y.cls nL fr lc → (qx_h Δ).sig.returnType = ret → (qx_h Δ).locks = false →
      (∀ (σ' : qx_Sg) (H : Heap) (locs : List Loc) (ls : Array Slot) (v : Option Value), P v σ' → va_P G.1 vwCl (qx_W G σ') H → va_S (qx_X Δ) (qx_s Δ).heap H locs → ∀ t : State, t.heap = H → qx_Qc G P (qx_s Δ).heap.size (qx_g Δ) (qx_s Δ) (.returned v) t) →
      (qx_Q Δ = MQ (qx_b Δ) (qx_Qc G P (qx_s Δ).heap.size) (qx_g Δ) (qx_s Δ) (qx_k Δ) (qx_l Δ) (qx_A G (qx_s Δ).heap.size) ∧ qx_X Δ = qx_A G (qx_s Δ).heap.size) →
      qx_K l G Δ σ 0 lo []) : qx_Ct l G y cc nL ret fr lc av σ P := by
  intro hinj sz
  refine Met.ofW (cc := cc) (maxL := nL) (ret := ret) hy rfl ?_
  intro p e s m args below meth c s₁ B hml hv
  obtain ⟨rfl, rfl, hP, hK, hC⟩ := hv
  have hts0 : ∀ w ∈ qx_ws y cc nL ret, w.before av.toArray s = true := atoms_spec (ws := qx_ws y cc nL ret) B.pre
  have hl := lv_entry av (n := nL) hav
  rw [hlo] at hl
  have hb := body (p, e, qx_rm fr lc, s, m, av.toArray, below, meth, c, qx_A G s.heap.size, nL, MQ below (qx_Qc G P s.heap.size) av.toArray s 0 0 (qx_A G s.heap.size), 0, 0)
    ⟨⟨B.exec, B.bytes, hml, findClass_of_methodNamed B.named, fun w hw => hts0 w (List.mem_cons_of_mem _ hw)⟩, rfl, ⟨Nat.le_refl _, Nat.le_refl _, Nat.le_refl _, Nat.le_refl _⟩, hK, hC, hinj, fun _ h => h⟩ B.returns B.notSynchronized
    (fun σ' H locs ls v hp h1 h2 t ht => ⟨⟨v, σ', rfl, hp, by rw [ht]; exact h1⟩, h2.F ht⟩) ⟨rfl, rfl⟩
  have h1 := hb s.heap [] _ hP va_S.rf hl
  rw [lg_entry_eq]
  exact h1
theorem qx_of (ty : FieldType) (hy : plainName y.cls = true) (hav : (lg_sl av).length ≤ nL) (hlo : lv_args 0 av = lo)
    (body : ∀ (Δ : qx_T), qx_C G Δ cc y.cls nL fr lc → (∀ (pc : Nat) (lo' : List (Nat × Value)) (σ' : qx_Sg) (v : Int32), decode cc pc = .ok (.ireturn, 1) → P (some (.int v)) σ' → narrow ty (.int v) = .int v → qx_K l G Δ σ' pc lo' [.int v]) → qx_K l G Δ σ 0 lo []) :
    qx_Ct l G y cc nL (some ty) fr lc av σ P := by
  refine qx_ofW hy hav hlo (fun Δ C hr hk hq hQ => body Δ C (fun pc lo' σ' v hd hp hn H locs ls hP hS hl => ?_))
  rw [hQ.1]
  exact W.zret C.1.1 C.1.2.1 hr hn (fun t ht hW => hq σ' H locs ls _ hp hP hS t ht) (by rw [← hQ.2]; exact hS.2.2) hd hk
theorem qx_ofV (hy : plainName y.cls = true) (hav : (lg_sl av).length ≤ nL) (hlo : lv_args 0 av = lo)
    (body : ∀ (Δ : qx_T), qx_C G Δ cc y.cls nL fr lc → (∀ (pc : Nat) (lo' : List (Nat × Value)) (σ' : qx_Sg), decode cc pc = .ok (.return_, 1) → P none σ' → qx_K l G Δ σ' pc lo' []) → qx_K l G Δ σ 0 lo []) :
    qx_Ct l G y cc nL none fr lc av σ P := by
  refine qx_ofW hy hav hlo (fun Δ C hr hk hq hQ => body Δ C (fun pc lo' σ' hd hp H locs ls hP hS hl => ?_))
  rw [hQ.1]
  exact W.vret C.1.1 C.1.2.1 hr (fun t ht hW => hq σ' H locs ls _ hp hP hS t ht) (by rw [← hQ.2]; exact hS.2.2) hd hk
theorem qx_ofL (hy : plainName y.cls = true) (hav : (lg_sl av).length ≤ nL) (hlo : lv_args 0 av = lo)
    (body : ∀ (Δ : qx_T), qx_C G Δ cc y.cls nL fr lc → (∀ (pc : Nat) (lo' : List (Nat × Value)) (σ' : qx_Sg) (v : Int64), decode cc pc = .ok (.lreturn, 1) → P (some (.long v)) σ' → qx_K l G Δ σ' pc lo' [.long v]) → qx_K l G Δ σ 0 lo []) :
    qx_Ct l G y cc nL (some .long) fr lc av σ P := by
  refine qx_ofW hy hav hlo (fun Δ C hr hk hq hQ => body Δ C (fun pc lo' σ' v hd hp H locs ls hP hS hl => ?_))
  rw [hQ.1]
  exact W.lret C.1.1 C.1.2.1 hr (fun t ht hW => hq σ' H locs ls _ hp hP hS t ht) (by rw [← hQ.2]; exact hS.2.2) hd hk
theorem qx_ofA (n : String) (hy : plainName y.cls = true) (hav : (lg_sl av).length ≤ nL) (hlo : lv_args 0 av = lo)
    (body : ∀ (Δ : qx_T), qx_C G Δ cc y.cls nL fr lc → (∀ (pc : Nat) (lo' : List (Nat × Value)) (σ' : qx_Sg) (v : Nat), decode cc pc = .ok (.areturn, 1) → P (some (.ref v)) σ' → qx_K l G Δ σ' pc lo' [.ref v]) → qx_K l G Δ σ 0 lo []) :
    qx_Ct l G y cc nL (some (.object n)) fr lc av σ P := by
  refine qx_ofW hy hav hlo (fun Δ C hr hk hq hQ => body Δ C (fun pc lo' σ' v hd hp H locs ls hP hS hl => ?_))
  rw [hQ.1]
  exact W.aret C.1.1 C.1.2.1 hr (Or.inl ⟨n, rfl⟩) (Or.inr ⟨v, rfl⟩) (fun t ht hW => hq σ' H locs ls _ hp hP hS t ht) (by rw [← hQ.2]; exact hS.2.2) hd hk
end qx_entry
theorem qx_zz : True := trivial
