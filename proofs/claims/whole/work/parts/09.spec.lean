/-! truth values as ints; more rows; the words of a bust -/
noncomputable def qb (P : Prop) : Int32 := @ite _ P (Classical.propDecidable P) 1 0
noncomputable def z_sel (P : Prop) (a b : Int32) : Int32 := @ite _ P (Classical.propDecidable P) a b
theorem qb_t {P : Prop} (h : P) : qb P = 1 := if_pos h
theorem qb_f {P : Prop} (h : ¬ P) : qb P = 0 := if_neg h
theorem z_sel_t {P : Prop} {a b : Int32} (h : P) : z_sel P a b = a := if_pos h
theorem z_sel_f {P : Prop} {a b : Int32} (h : ¬ P) : z_sel P a b = b := if_neg h
theorem qb_01 (P : Prop) : qb P = 0 ∨ qb P = 1 := by
  by_cases h : P
  · exact Or.inr (qb_t h)
  · exact Or.inl (qb_f h)
theorem qb_nar (P : Prop) : narrow .boolean (.int (qb P)) = .int (qb P) := by
  rcases qb_01 P with h | h <;> rw [h] <;> rfl
theorem qb_eq0 {P : Prop} : qb P = 0 ↔ ¬ P := by
  by_cases h : P
  · rw [qb_t h]; exact ⟨fun e => absurd e (by decide), fun e => absurd h e⟩
  · rw [qb_f h]; exact ⟨fun _ => h, fun _ => rfl⟩
theorem qb_iff {P Q : Prop} (h : P ↔ Q) : qb P = qb Q := by rw [propext h]
theorem qx_isL.l65 {k : Nat} (h : qx_isL k) : k < 65 := by have := h.lt; omega
def qx_isS (k : Nat) : Prop := ∃ s, s < 4 ∧ k = 44 + s
theorem qx_isS.lt4 {k : Nat} (h : qx_isS k) : k + 4 < 65 := by obtain ⟨s, h1, rfl⟩ := h; omega
theorem qx_isS.lt {k : Nat} (h : qx_isS k) : k < 65 := by obtain ⟨s, h1, rfl⟩ := h; omega
theorem qx_Fs {G : qx_G} {k : Nat} (h : qx_isS k) (r : Nat → Int32) : qx_F G k r = qx_sh G k r := by
  obtain ⟨s, h1, rfl⟩ := h
  have h2 : s = 0 ∨ s = 1 ∨ s = 2 ∨ s = 3 := by omega
  rcases h2 with rfl | rfl | rfl | rfl <;> rfl
theorem qx_Fs4 {G : qx_G} {k : Nat} (h : qx_isS k) (r : Nat → Int32) : qx_F G (k + 4) r = qx_ia G 40 r := by
  obtain ⟨s, h1, rfl⟩ := h
  have h2 : s = 0 ∨ s = 1 ∨ s = 2 ∨ s = 3 := by omega
  rcases h2 with rfl | rfl | rfl | rfl <;> rfl
section qx_rows2
variable {l : Launch} {G : qx_G} {Δ : qx_T} {cc : ByteArray} {own : String} {nL fr lc : Nat} {σ : qx_Sg} {pc : Nat} {lo : List (Nat × Value)} {st : List Value}
theorem qk_if_eqB (C : qx_C G Δ cc own nL fr lc) {P : Prop} {off : Int} (hd : decode cc pc = .ok (.ifCond .eq off, 3)) (tgt : Nat) (ht : (pc : Int) + off = (tgt : Int)) (pc' : Nat) (hp : pc + 3 = pc') (kt : ¬ P → qx_K l G Δ σ tgt lo st) (kf : P → qx_K l G Δ σ pc' lo st) : qx_K l G Δ σ pc lo (.int (qb P) :: st) :=
  qk_if_eq C hd tgt ht pc' hp (fun c => kt (qb_eq0.mp c)) (fun c => kf (Classical.byContradiction fun h => c (qb_f h)))
theorem qk_if_neB (C : qx_C G Δ cc own nL fr lc) {P : Prop} {off : Int} (hd : decode cc pc = .ok (.ifCond .ne off, 3)) (tgt : Nat) (ht : (pc : Int) + off = (tgt : Int)) (pc' : Nat) (hp : pc + 3 = pc') (kt : P → qx_K l G Δ σ tgt lo st) (kf : ¬ P → qx_K l G Δ σ pc' lo st) : qx_K l G Δ σ pc lo (.int (qb P) :: st) :=
  qk_if_ne C hd tgt ht pc' hp (fun c => kt (Classical.byContradiction fun h => c (qb_f h))) (fun c => kf (qb_eq0.mp c))
theorem qk_eqc {x : Int32} (v : Int32) (kt : x = v → qx_K l G Δ σ pc lo (.int x :: st)) (kf : ¬ x = v → qx_K l G Δ σ pc lo (.int x :: st)) : qx_K l G Δ σ pc lo (.int x :: st) := by
  by_cases h : x = v
  · exact kt h
  · exact kf h
theorem qk_byc (P : Prop) (kt : P → qx_K l G Δ σ pc lo st) (kf : ¬ P → qx_K l G Δ σ pc lo st) : qx_K l G Δ σ pc lo st := by
  by_cases h : P
  · exact kt h
  · exact kf h
end qx_rows2
/-- contracts over worlds that hold the same -/
theorem qx_Ct.cg {l : Launch} {G : qx_G} {y : MethodName} {cc : ByteArray} {nL : Nat} {ret : Option FieldType} {fr lc : Nat} {av : List Value} {σ σ2 : qx_Sg} {P P2 : Option Value → qx_Sg → Prop} (h : qx_Ct l G y cc nL ret fr lc av σ P) (h1 : ∀ k, k < 65 → qx_F G k (σ2 k) = qx_F G k (σ k)) (h2 : ∀ v σ', P v σ' → ∃ σ'', P2 v σ'' ∧ ∀ k, k < 65 → qx_F G k (σ' k) = qx_F G k (σ'' k)) : qx_Ct l G y cc nL ret fr lc av σ2 P2 := by
  intro hi sz
  have e : qx_W G σ2 = qx_W G σ := qx_W_ext h1
  have hP : qx_Pc G av σ2 sz = qx_Pc G av σ sz := by unfold qx_Pc; rw [e]
  rw [hP]
  refine MetFree.mono (h hi sz) (fun _ _ q => q) (fun _ _ _ _ _ q => q) (fun a st o t _ q => ⟨?_, q.2⟩)
  obtain ⟨⟨⟨v, σ', e1, e2, e3⟩, hF⟩, -⟩ := q
  obtain ⟨σ'', e4, e5⟩ := h2 v σ' e2
  exact ⟨⟨v, σ'', e1, e4, by rw [← qx_W_ext e5]; exact e3⟩, hF⟩
theorem qx_pi_cg {G : qx_G} {r : Int32} {σ1 σ2 : qx_Sg} (h : ∀ k, k < 65 → qx_F G k (σ1 k) = qx_F G k (σ2 k)) : ∀ v σ', qx_pi r σ1 v σ' → ∃ σ'', qx_pi r σ2 v σ'' ∧ ∀ k, k < 65 → qx_F G k (σ' k) = qx_F G k (σ'' k) := by
  rintro v σ' ⟨rfl, rfl⟩; exact ⟨σ2, ⟨rfl, rfl⟩, h⟩
theorem qx_pv_cg {G : qx_G} {σ1 σ2 : qx_Sg} (h : ∀ k, k < 65 → qx_F G k (σ1 k) = qx_F G k (σ2 k)) : ∀ v σ', qx_pv σ1 v σ' → ∃ σ'', qx_pv σ2 v σ'' ∧ ∀ k, k < 65 → qx_F G k (σ' k) = qx_F G k (σ'' k) := by
  rintro v σ' ⟨rfl, rfl⟩; exact ⟨σ2, ⟨rfl, rfl⟩, h⟩
/-! the words of a bust: h what it has, k its kind, d its date, y its yearning, p a part -/
def z_hs (h p : Int32) : Prop := (h >>> (p &&& 31)) &&& 1 = 1
def z_pl (h p : Int32) : Prop := ¬ p ≤ 0 ∧ z_hs h (p - 1)
def z_ev (p : Int32) : Prop := p - p / 2 * 2 = 0
def z_lk (k h p : Int32) : Prop := if k = 1 then z_pl h p ∨ z_ev p else if k = 2 then z_pl h p ∧ ¬ p = 5 else if k = 3 then (z_pl h p ∧ ¬ p = 5) ∨ p = 3 else if k = 4 then True else if k = 5 then ¬ p < 2 ∧ ¬ 7 < p else if k = 6 then (z_pl h p ∨ z_ev p) ∧ ¬ 6 < p else z_pl h p
def z_tk (k h p : Int32) : Prop := ¬ z_hs h p ∧ z_lk k h p
def z_us (x y : Int32) : Int32 := (x.toUInt32 >>> (y.toUInt32 &&& Int32.toUInt32 31)).toInt32
def z_b1 (x : Int32) : Int32 := x - (z_us x 1 &&& 1431655765)
def z_b2 (x : Int32) : Int32 := (x &&& 858993459) + (z_us x 2 &&& 858993459)
def z_b3 (x : Int32) : Int32 := (x + z_us x 4) &&& 252645135
def z_b4 (x : Int32) : Int32 := x + z_us x 8
def z_b5 (x : Int32) : Int32 := x + z_us x 16
def z_bc (x : Int32) : Int32 := z_b5 (z_b4 (z_b3 (z_b2 (z_b1 x)))) &&& 63
def z_y0 (h : Int32) : Int32 := (12 - z_bc h) / 3
noncomputable def z_y2 (h : Int32) : Int32 := z_sel (z_hs h 8) 0 (z_y0 h)
noncomputable def z_yn (k h : Int32) : Int32 := if k = 1 then z_y0 h + 1 else if k = 2 then z_y2 h else if k = 3 then z_y2 h + 1 else if k = 4 then qx_mx 0 (z_y2 h + 1 - z_bc (h &&& 24)) else if k = 5 then 1 else if k = 6 then 2 * (z_y0 h + 1) else z_y0 h
def z_lw (k : Int32) : Int32 := if k = 1 then 40 else if k = 2 then 80 else if k = 3 then 80 else if k = 4 then 40 else if k = 5 then 99 else if k = 6 then 40 else 50
noncomputable def z_st (k h : Int32) : Int32 := if k = 1 then 2 else if k = 2 then 1 else if k = 3 then 2 else if k = 4 then 2 else if k = 5 then 5 else if k = 6 then z_sel (z_hs h 10) 3 2 else 1
noncomputable def z_gF (h : Int32) : Nat → Int32
  | 0 => 0
  | n + 1 => z_sel (z_hs h (nI (n + 1))) (nI (n + 1)) (z_gF h n)
noncomputable def z_gp (h : Int32) : Int32 := z_gF h 11
def z_s0 (h : Int32) : Int32 := 10 * z_bc h
def z_s2 (h y : Int32) : Int32 := qx_mx 0 (z_s0 h - y)
def z_s3 (h y : Int32) : Int32 := z_s2 h y + 7 * z_bc (h &&& 24)
noncomputable def z_sy (k d h y : Int32) : Int32 := if k = 1 then z_s0 h + z_gp h else if k = 2 then z_s2 h y else if k = 3 then z_s3 h y else if k = 4 then z_s3 h y + (d - d / 10 * 10) else if k = 5 then z_sel (z_hs h 0) (z_s0 h) 0 else if k = 6 then 3 * (z_s0 h + z_gp h) else z_s0 h
/-- a bust's row: kind, date, has, cell, yearning, sealed, gone -/
def z_ww (r : Nat → Int32) : Prop := ¬ r 4 < z_lw (r 0) ∧ z_hs (r 2) 11 ∧ r 5 = 0 ∧ r 6 = 0
noncomputable def z_say (r : Nat → Int32) : Int32 := z_sy (r 0) (r 1) (r 2) (r 4)
noncomputable def z_tell (r : Nat → Int32) (w : Int32) : Int32 := if w = 0 then r 0 else if w = 1 then r 1 else if w = 2 then r 2 else if w = 3 then r 3 else if w = 4 then r 4 else if w = 5 then r 5 else if w = 6 then r 6 else if w = 7 then z_yn (r 0) (r 2) else if w = 8 then z_lw (r 0) else if w = 9 then z_st (r 0) (r 2) else z_say r
def z_rc (h p : Int32) : Int32 := h ||| (1 <<< (p &&& 31))
def z_bg (k d : Int32) : Nat → Int32 := fun j => if j = 0 then k else if j = 1 then d else if j = 2 then 3 else 0
def z_ab (j : Nat) : Nat := ([0, 0, 0, 2, 3, 0, 1] : List Nat).getD j 0
def z_isF (w : Int32) : Nat → Nat → Prop
  | 0, _ => False
  | n + 1, j => nI j = w ∨ z_isF w n (z_ab j)
def z_is (j : Nat) (w : Int32) : Prop := z_isF w 7 j
