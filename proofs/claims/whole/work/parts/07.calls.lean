/-! calls; statics; Math; arraycopy -/
/-- a method that a method of class own may call at a link -/
def qx_Cd (y : MethodName) (bytes : ByteArray) (maxL : Nat) (ret : Option FieldType) (n : Nat) : Prop :=
  Cond.initialized y.cls ∈ qx_Wd ∧ Cond.code y bytes maxL ret ∈ qx_Wd ∧ y.cls ≠ "java/lang/invoke/MethodHandle" ∧ y.cls ≠ "java/lang/invoke/VarHandle" ∧ (parseMethodDescriptor y.desc).map (fun d => d.parameters.length) = some n
def qx_LV (own : String) (index : Nat) (y : MethodName) : Prop :=
  Cond.instanceMethod y ∈ qx_Wd ∧ Cond.selects y.cls y y ∈ qx_Wd ∧ (Cond.methodLink own index y ∈ qx_Wd ∨ ∃ host, Cond.methodLinkNest own index y host ∈ qx_Nd)
def qx_LS (own : String) (index : Nat) (y : MethodName) : Prop := Cond.static y ∈ qx_Wd ∧ Cond.methodLink own index y ∈ qx_Wd
theorem qx_goodC {y : MethodName} {bytes : ByteArray} {maxL : Nat} {ret : Option FieldType} (h : Cond.code y bytes maxL ret ∈ qx_Wd) : GoodIn qx_Wd (qx_ws y bytes maxL ret) := by
  intro w hw
  rcases List.mem_cons.mp hw with rfl | hw
  · exact ⟨h, qx_goodW h⟩
  · exact ⟨hw, qx_goodW hw⟩
theorem qx_blind {G : qx_G} {av : List Value} {σ : qx_Sg} {sz : Nat} : FrameBlind (qx_Pc G av σ sz) := by
  intro a U g mk h
  obtain ⟨h0, h1, h2, h3, h4⟩ := h
  exact ⟨h0, h1, h2, qx_Kn.same (s := U) (U := U.calling g mk a) rfl h3, qx_Cn.moved (u := U) (U := U.calling g mk a) (Vm.Alike.refl U.vm) h4⟩
section qx_calls
variable {l : Launch} {G : qx_G} {Δ : qx_T} {cc : ByteArray} {own : String} {nL fr lc : Nat} {σ : qx_Sg} {pc : Nat} {lo : List (Nat × Value)} {st st0 : List Value}
theorem qx_pre (C : qx_C G Δ cc own nL fr lc) {av : List Value} {H : Heap} {locs : List Loc} (hP : va_P G.1 vwCl (qx_W G σ) H) (hS : va_S (qx_X Δ) (qx_s Δ).heap H locs) : ∀ U : State, U.heap = H → (qx_s Δ).WarmedH U.vm → qx_Pc G av σ H.size av.toArray U := by
  intro U hU hW
  refine ⟨rfl, by rw [hU], by rw [hU]; exact hP, C.2.2.2.1.warm hW, ?_⟩
  rw [hU]
  refine ((C.2.2.2.2.1.kept hS.2.1).moved hW.alike).narrow (fun q hq => C.2.2.2.2.2.2 q ?_)
  rcases hq with h | h
  · exact Or.inl h
  · exact Or.inr (Nat.le_trans hS.1 h)
theorem qx_after (C : qx_C G Δ cc own nL fr lc) {P : Option Value → qx_Sg → Prop} {a : Array Value} {H : Heap} {locs : List Loc} {ls : Array Slot}
    (hr : va_Run (qx_p Δ) l (qx_e Δ) (qx_R Δ) (qx_s Δ) (qx_m Δ) (qx_g Δ) (qx_b Δ) (qx_h Δ) (qx_c Δ) H locs (qx_k Δ) (qx_l Δ) 0 0 (F0 (qx_m Δ) pc ls st0) st (qx_Qc G P H.size a) (qx_A G H.size))
    (hS : va_S (qx_X Δ) (qx_s Δ).heap H locs) (h : lv_has ls (qx_n Δ) lo) (K : ∀ v σ', P v σ' → qx_K l G Δ σ' (pc + 3) lo (v.toList ++ st)) :
    W (qx_p Δ) l (qx_e Δ) (qx_R Δ) (qx_s Δ) (qx_m Δ) (qx_g Δ) (qx_b Δ) (qx_h Δ) (qx_c Δ) H locs (qx_k Δ) (qx_l Δ) (qx_Q Δ) (F0 (qx_m Δ) pc ls st0) := by
  have hX : ∀ q, qx_A G H.size q → qx_X Δ q := by
    intro q hq
    refine C.2.2.2.2.2.2 q ?_
    rcases hq with h | h
    · exact Or.inl h
    · exact Or.inr (Nat.le_trans hS.1 h)
  intro T hT X
  obtain ⟨v, st₀, t, T', L, h0, X', hL, e1, e2, hq, hgo⟩ := hr T hT X
  obtain ⟨⟨v', σ', hv, hp, hh⟩, hz, hk⟩ := hq
  cases hv
  rw [h0] at hz hk
  obtain ⟨t2, a1, b1⟩ := K v σ' hp T'.heap (locs ++ L) ls (by rw [e1]; exact hh)
    ⟨Nat.le_trans hS.1 (by rw [e1]; exact hz), fun q h1 h2 => by rw [e1, hk q (Nat.lt_of_lt_of_le h1 hS.1) (fun z => h2 (hX q z))]; exact hS.2.1 q h1 h2, fun q hq => by
      rcases List.mem_append.mp hq with h | h
      · exact hS.2.2 q h
      · exact hX _ (hL q h)⟩ h T' rfl X'
  exact ⟨t2, hgo t2 a1, b1⟩
theorem qk_callR (C : qx_C G Δ cc own nL fr lc) {index n : Nat} {y : MethodName} {bytes : ByteArray} {maxL fr' lc' : Nat} {ret : Option FieldType} {b : Nat} {As : List Value} {P : Option Value → qx_Sg → Prop}
    (hrecv : ∀ (H : Heap) (locs : List Loc), va_P G.1 vwCl (qx_W G σ) H → va_S (qx_X Δ) (qx_s Δ).heap H locs → ∃ cell : Cell, H[b]? = some cell ∧ cell.vm.isStatics = false ∧ (qx_s Δ).vm.findClass y.cls = some cell.cls)
    (hd : decode cc pc = .ok (.invokevirtual index, 3)) (pc' : Nat) (hp : pc + 3 = pc') (Ln : qx_LV own index y) (Cd : qx_Cd y bytes maxL ret n) (Ct : qx_Ct l G y bytes maxL ret fr' lc' (.ref b :: As) σ P) (hn : As.length = n) (hst : st0 = As.reverse ++ .ref b :: st) (hcat : (st.map fun v => v.category).sum ≤ 8) (hR : fr' + 1 ≤ fr ∧ 8 + (maxL + 11) + lc' ≤ lc)
    (K : ∀ v σ', P v σ' → qx_K l G Δ σ' pc' lo (v.toList ++ st)) : qx_K l G Δ σ pc lo st0 := by
  subst hp; subst hst
  intro H locs ls hP hS h
  have hR2 : (qx_rm fr' lc').frames + 1 ≤ (qx_R Δ).frames ∧ 8 + (maxL + 11) + (qx_rm fr' lc').locals ≤ (qx_R Δ).locals := ⟨Nat.le_trans hR.1 C.2.2.1.1, Nat.le_trans hR.2 C.2.2.1.2.1⟩
  have hsz : (F0 (qx_m Δ) pc ls (As.reverse ++ .ref b :: st)).locals.size = nL := by rw [← C.2.1]; exact h.1
  have hroom : qx_k Δ + 0 ≤ (qx_R Δ).cells ∧ qx_l Δ + 0 ≤ (qx_R Δ).slots := ⟨C.2.2.1.2.2.1, C.2.2.1.2.2.2⟩
  have hG := qx_goodC Cd.2.1
  have hpre : PreV (qx_s Δ) H y.cls b (qx_Pc G (.ref b :: As) σ H.size) As := ⟨qx_blind, hrecv H locs hP hS, fun U hU hW => qx_pre C hP hS U hU hW⟩
  rcases Ln.2.2 with hw | ⟨host, hw⟩
  · have cw : CallW (qx_R Δ) (qx_s Δ) (qx_g Δ) own y.cls index y bytes maxL ret (qx_ws y bytes maxL ret) (qx_rm fr' lc') 0 0 n := by
      refine cwV (Ts := qx_Wd) n C.1.2.2.2.2 (fun w hw' => ?_) rfl rfl rfl ⟨rfl, Cd.2.2⟩ hR2
      rcases List.mem_append.mp hw' with h1 | h1
      · rcases List.mem_cons.mp h1 with rfl | h1
        · exact ⟨hw, qx_goodW hw⟩
        · rcases List.mem_cons.mp h1 with rfl | h1
          · exact ⟨Ln.1, qx_goodW Ln.1⟩
          · rcases List.mem_cons.mp h1 with rfl | h1
            · exact ⟨Ln.2.1, qx_goodW Ln.2.1⟩
            · rcases List.mem_cons.mp h1 with rfl | h1
              · exact ⟨Cd.1, qx_goodW Cd.1⟩
              · cases h1
      · exact hG w h1
    exact qx_after C (va_runV C.1 (Ct C.2.2.2.2.2.1 H.size) cw hpre rfl hn hsz rfl (lv_room hcat) hd hroom) hS h K
  · have cw : va_CN (qx_R Δ) (qx_s Δ) (qx_g Δ) own index y host bytes maxL ret (qx_ws y bytes maxL ret) (qx_rm fr' lc') 0 0 n :=
      va_cnB (Ts := qx_Wd) n C.1.2.2.2.2 hG rfl rfl rfl (C.2.2.2.1.2.1 _ hw) (C.1.2.2.2.2 _ Cd.1) Cd.2.2 hR2
    exact qx_after C (va_runVN C.1 (Ct C.2.2.2.2.2.1 H.size) ⟨cw, C.1.2.2.2.2 _ Ln.1, C.1.2.2.2.2 _ Ln.2.1⟩ hpre rfl hn hsz rfl (lv_room hcat) hd hroom) hS h K
theorem qx_recv (C : qx_C G Δ cc own nL fr lc) {k ci N : Nat} {CN : String} {T : u_T} {fs : List Value} (hk : k < 65) (hF : qx_F G k (σ k) = .inr (ci, fs)) (hc : vwCl[ci]? = some (CN, T, N)) (H : Heap) (hP : va_P G.1 vwCl (qx_W G σ) H) : ∃ cell : Cell, H[qx_ad G k]? = some cell ∧ cell.vm.isStatics = false ∧ (qx_s Δ).vm.findClass CN = some cell.cls :=
  va_recv C.2.2.2.1.1 hP hc (show (qx_W G σ)[k]? = some (qx_ad G k, .inr (ci, fs)) by rw [qx_W_get hk, hF])
theorem qk_callV (C : qx_C G Δ cc own nL fr lc) {index n : Nat} {y : MethodName} {bytes : ByteArray} {maxL fr' lc' : Nat} {ret : Option FieldType} {As : List Value} {P : Option Value → qx_Sg → Prop}
    (hd : decode cc pc = .ok (.invokevirtual index, 3)) (pc' : Nat) (hp : pc + 3 = pc') (Ln : qx_LV own index y) (Cd : qx_Cd y bytes maxL ret n) (k : Nat) (hk : k < 65) {ci N : Nat} {T : u_T} {fs : List Value} (hF : qx_F G k (σ k) = .inr (ci, fs)) (hc : vwCl[ci]? = some (y.cls, T, N)) (Ct : qx_Ct l G y bytes maxL ret fr' lc' (.ref (qx_ad G k) :: As) σ P) (hn : As.length = n) (hst : st0 = As.reverse ++ .ref (qx_ad G k) :: st) (hcat : (st.map fun v => v.category).sum ≤ 8) (hR : fr' + 1 ≤ fr ∧ 8 + (maxL + 11) + lc' ≤ lc)
    (K : ∀ v σ', P v σ' → qx_K l G Δ σ' pc' lo (v.toList ++ st)) : qx_K l G Δ σ pc lo st0 :=
  qk_callR C (fun H locs hP hS => qx_recv C hk hF hc H hP) hd pc' hp Ln Cd Ct hn hst hcat hR K
theorem qk_callS (C : qx_C G Δ cc own nL fr lc) {index n : Nat} {y : MethodName} {bytes : ByteArray} {maxL fr' lc' : Nat} {ret : Option FieldType} {As : List Value} {P : Option Value → qx_Sg → Prop}
    (hd : decode cc pc = .ok (.invokestatic index, 3)) (pc' : Nat) (hp : pc + 3 = pc') (Ln : qx_LS own index y) (Cd : qx_Cd y bytes maxL ret n) (Ct : qx_Ct l G y bytes maxL ret fr' lc' As σ P) (hn : As.length = n) (hst : st0 = As.reverse ++ st) (hcat : (st.map fun v => v.category).sum ≤ 8) (hR : fr' + 1 ≤ fr ∧ 8 + (maxL + 11) + lc' ≤ lc)
    (K : ∀ v σ', P v σ' → qx_K l G Δ σ' pc' lo (v.toList ++ st)) : qx_K l G Δ σ pc lo st0 := by
  subst hp; subst hst
  intro H locs ls hP hS h
  have hR2 : (qx_rm fr' lc').frames + 1 ≤ (qx_R Δ).frames ∧ 8 + (maxL + 11) + (qx_rm fr' lc').locals ≤ (qx_R Δ).locals := ⟨Nat.le_trans hR.1 C.2.2.1.1, Nat.le_trans hR.2 C.2.2.1.2.1⟩
  have hsz : (F0 (qx_m Δ) pc ls (As.reverse ++ st)).locals.size = nL := by rw [← C.2.1]; exact h.1
  have hroom : qx_k Δ + 0 ≤ (qx_R Δ).cells ∧ qx_l Δ + 0 ≤ (qx_R Δ).slots := ⟨C.2.2.1.2.2.1, C.2.2.1.2.2.2⟩
  have hG := qx_goodC Cd.2.1
  have cw : CallB (qx_R Δ) (qx_s Δ) (qx_g Δ) own index y bytes maxL ret (qx_ws y bytes maxL ret) (qx_rm fr' lc') 0 0 n ∧ (Cond.static y).before (qx_g Δ) (qx_s Δ) = true := by
    refine va_cwS (Ts := qx_Wd) n C.1.2.2.2.2 (fun w hw' => ?_) rfl rfl rfl Cd.2.2 hR2
    rcases List.mem_append.mp hw' with h1 | h1
    · rcases List.mem_cons.mp h1 with rfl | h1
      · exact ⟨Ln.2, qx_goodW Ln.2⟩
      · rcases List.mem_cons.mp h1 with rfl | h1
        · exact ⟨Ln.1, qx_goodW Ln.1⟩
        · rcases List.mem_cons.mp h1 with rfl | h1
          · exact ⟨Cd.1, qx_goodW Cd.1⟩
          · cases h1
    · exact hG w h1
  exact qx_after C (va_runS C.1 (Ct C.2.2.2.2.2.1 H.size) cw ⟨qx_blind, fun U hU hW => qx_pre C hP hS U hU hW⟩ rfl hn hsz rfl (lv_room hcat) hd hroom) hS h K
/-- answers that are known: an int, nothing, a long, a text; and the world behind -/
def qx_pi (r : Int32) (σ' : qx_Sg) : Option Value → qx_Sg → Prop := fun v σ => v = some (.int r) ∧ σ = σ'
def qx_pv (σ' : qx_Sg) : Option Value → qx_Sg → Prop := fun v σ => v = none ∧ σ = σ'
def qx_pl (r : Int64) (σ' : qx_Sg) : Option Value → qx_Sg → Prop := fun v σ => v = some (.long r) ∧ σ = σ'
def qx_pr (r : Nat) (σ' : qx_Sg) : Option Value → qx_Sg → Prop := fun v σ => v = some (.ref r) ∧ σ = σ'
theorem qx_Ki {pc' : Nat} {r : Int32} {σ1 : qx_Sg} (K : qx_K l G Δ σ1 pc' lo (.int r :: st)) : ∀ v σ', qx_pi r σ1 v σ' → qx_K l G Δ σ' pc' lo (v.toList ++ st) := by
  rintro v σ' ⟨rfl, rfl⟩; exact K
theorem qx_Kv {pc' : Nat} {σ1 : qx_Sg} (K : qx_K l G Δ σ1 pc' lo st) : ∀ v σ', qx_pv σ1 v σ' → qx_K l G Δ σ' pc' lo (v.toList ++ st) := by
  rintro v σ' ⟨rfl, rfl⟩; exact K
theorem qx_Kl {pc' : Nat} {r : Int64} {σ1 : qx_Sg} (K : qx_K l G Δ σ1 pc' lo (.long r :: st)) : ∀ v σ', qx_pl r σ1 v σ' → qx_K l G Δ σ' pc' lo (v.toList ++ st) := by
  rintro v σ' ⟨rfl, rfl⟩; exact K
theorem qx_Kr {pc' : Nat} {r : Nat} {σ1 : qx_Sg} (K : qx_K l G Δ σ1 pc' lo (.ref r :: st)) : ∀ v σ', qx_pr r σ1 v σ' → qx_K l G Δ σ' pc' lo (v.toList ++ st) := by
  rintro v σ' ⟨rfl, rfl⟩; exact K
/-- Math -/
def qx_mx (x y : Int32) : Int32 := if x < y then y else x
def qx_mn (x y : Int32) : Int32 := if y < x then y else x
def qx_LM (own : String) (index : Nat) (y : MethodName) (bytes : ByteArray) : Prop := Cond.methodLink own index y ∈ qx_Wd ∧ Cond.static y ∈ qx_Wd ∧ Cond.initialized "java/lang/Math" ∈ qx_Wd ∧ Cond.code y bytes 2 (some .int) ∈ qx_Wd
theorem qk_max (C : qx_C G Δ cc own nL fr lc) {index : Nat} {x y : Int32} (hd : decode cc pc = .ok (.invokestatic index, 3)) (pc' : Nat) (hp : pc + 3 = pc') (Ln : qx_LM own index Lib.Math.max.name Lib.Math.max.code) (hR : 1 ≤ fr ∧ (st.map fun v => v.category).sum + 13 ≤ lc) (K : qx_K l G Δ σ pc' lo (.int (qx_mx x y) :: st)) : qx_K l G Δ σ pc lo (.int y :: .int x :: st) := by
  subst hp
  intro H locs ls hP hS h
  exact va_mmax C.1.1 C.1.2.1 (by rw [C.1.2.2.1, ← C.2.1]; exact h.1.symm) C.1.2.2.2.1 (C.1.2.2.2.2 _ Ln.1) (C.1.2.2.2.2 _ Ln.2.1) (C.1.2.2.2.2 _ Ln.2.2.1) (C.1.2.2.2.2 _ Ln.2.2.2) (Nat.le_trans hR.1 C.2.2.1.1) (Nat.le_trans hR.2 C.2.2.1.2.1) C.2.2.1.2.2.1 C.2.2.1.2.2.2 hd (K H locs ls hP hS h)
theorem qk_min (C : qx_C G Δ cc own nL fr lc) {index : Nat} {x y : Int32} (hd : decode cc pc = .ok (.invokestatic index, 3)) (pc' : Nat) (hp : pc + 3 = pc') (Ln : qx_LM own index Lib.Math.min.name Lib.Math.min.code) (hR : 1 ≤ fr ∧ (st.map fun v => v.category).sum + 13 ≤ lc) (K : qx_K l G Δ σ pc' lo (.int (qx_mn x y) :: st)) : qx_K l G Δ σ pc lo (.int y :: .int x :: st) := by
  subst hp
  intro H locs ls hP hS h
  exact va_mmin C.1.1 C.1.2.1 (by rw [C.1.2.2.1, ← C.2.1]; exact h.1.symm) C.1.2.2.2.1 (C.1.2.2.2.2 _ Ln.1) (C.1.2.2.2.2 _ Ln.2.1) (C.1.2.2.2.2 _ Ln.2.2.1) (C.1.2.2.2.2 _ Ln.2.2.2) (Nat.le_trans hR.1 C.2.2.1.1) (Nat.le_trans hR.2 C.2.2.1.2.1) C.2.2.1.2.2.1 C.2.2.1.2.2.2 hd (K H locs ls hP hS h)
/-- System.arraycopy between int rows of the world -/
def qx_LA (own : String) (index : Nat) : Prop := Cond.methodLink own index arraycopyName ∈ qx_Wd ∧ Cond.native arraycopyName ∈ qx_Wd ∧ Cond.static arraycopyName ∈ qx_Wd ∧ Cond.initialized "java/lang/System" ∈ qx_Wd
theorem qx_cut_cpy {f g : Nat → Int32} {sp dp n n0 n1 : Nat} (h4 : sp + n ≤ n0) (h5 : dp + n ≤ n1) : va_cpy (qx_cut n0 f) (qx_cut n1 g) sp dp n = qx_cut n1 (va_cpy f g sp dp n) := by
  funext j
  by_cases h : dp ≤ j ∧ j < dp + n
  · simp only [va_cpy, qx_cut, if_pos h]
    rw [if_pos (by omega), if_pos (by omega)]
  · simp only [va_cpy, qx_cut, if_neg h]
theorem qk_acopy (C : qx_C G Δ cc own nL fr lc) {index : Nat} (hd : decode cc pc = .ok (.invokestatic index, 3)) (pc' : Nat) (hp : pc + 3 = pc') (Ln : qx_LA own index) (k0 k1 : Nat) (hk0 : k0 < 65) (hk1 : k1 < 65) {n0 n1 : Nat} (hF0 : ∀ r, qx_F G k0 r = qx_ia G n0 r) (hF1 : ∀ r, qx_F G k1 r = qx_ia G n1 r) {x y z : Int32} (sp dp n : Nat) (hx : x = nI sp) (hy : y = nI dp) (hz : z = nI n) (h4 : sp + n ≤ n0) (h5 : dp + n ≤ n1) (hn0 : n0 < 2 ^ 31) (hn1 : n1 < 2 ^ 31)
    (hR : 1 ≤ fr ∧ (st.map fun v => v.category).sum + (nativeFrameWords "java/lang/System" "arraycopy" 5 + 11) ≤ lc) (K : qx_K l G Δ (va_up σ k1 (va_cpy (σ k0) (σ k1) sp dp n)) pc' lo st) : qx_K l G Δ σ pc lo (.int z :: .int y :: .ref (qx_ad G k1) :: .int x :: .ref (qx_ad G k0) :: st) := by
  subst hp; subst hx; subst hy; subst hz
  intro H locs ls hP hS h
  have he0 : (qx_W G σ)[k0]? = some (qx_ad G k0, .inl (G.2.1 0, n0, .inl (qx_cut n0 (σ k0)))) := by rw [qx_W_get hk0, hF0]; rfl
  have he1 : (qx_W G σ)[k1]? = some (qx_ad G k1, .inl (G.2.1 0, n1, .inl (qx_cut n1 (σ k1)))) := by rw [qx_W_get hk1, hF1]; rfl
  have hD : va_D (qx_X Δ) (qx_W G σ) := qx_D C.2.2.2.2.2.1 (fun k hk => C.2.2.2.2.2.2 _ (Or.inl ⟨k, hk, rfl⟩))
  have hS2 := qx_W_set (G := G) (σ := σ) hk1 (va_cpy (σ k0) (σ k1) sp dp n)
  rw [hF1] at hS2
  have c1 : (nI sp).toNatClampNeg = sp := nI_clamp (by omega)
  have c2 : (nI dp).toNatClampNeg = dp := nI_clamp (by omega)
  have c3 : (nI n).toNatClampNeg = n := nI_clamp (by omega)
  refine va_copyi C.1.1 C.1.2.1 (by rw [C.1.2.2.1, ← C.2.1]; exact h.1.symm) C.1.2.2.2.1 (C.1.2.2.2.2 _ Ln.1) (C.1.2.2.2.2 _ Ln.2.1) (C.1.2.2.2.2 _ Ln.2.2.1) (C.1.2.2.2.2 _ Ln.2.2.2) C.2.2.2.1.1 hP hD hS k0 k1 0 0 he0 he1 rfl rfl rfl (nI_pos (by omega)) (nI_pos (by omega)) (nI_pos (by omega)) (by rw [c1, c3]; exact h4) (by rw [c2, c3]; exact h5) (fun _ _ => rfl) (Nat.le_trans hR.1 C.2.2.1.1) (Nat.le_trans hR.2 C.2.2.1.2.1) hd (fun H1 locs1 hP1 hD1 hS1 => K H1 locs1 ls ?_ hS1 h)
  rw [c1, c2, c3, qx_cut_cpy h4 h5] at hP1
  rw [← hS2]
  exact hP1
/-- statics -/
theorem qk_gMost (C : qx_C G Δ cc own nL fr lc) {index : Nat} (hd : decode cc pc = .ok (.getstatic index, 3)) (pc' : Nat) (hp : pc + 3 = pc') (hw : Cond.fieldLink own index "BustRest" "MOST" "[I" ∈ qx_Wd ∨ ∃ host, Cond.fieldLinkNest own index "BustRest" "MOST" "[I" host ∈ qx_Nd) (K : qx_K l G Δ σ pc' lo (.ref (qx_ad G 90) :: st)) : qx_K l G Δ σ pc lo st := by
  subst hp
  intro H locs ls hP hS h
  rcases hw with hw | ⟨host, hw⟩
  · exact va_gets C.1.1 C.1.2.1 C.2.2.2.2.1.1 hS C.1.2.2.2.1 (C.1.2.2.2.2 _ hw) (fun _ h9 => h9) hd (K H locs ls hP hS h)
  · exact va_getsN C.1.1 C.1.2.1 C.2.2.2.2.1.1 hS C.1.2.2.2.1 (va_Nw.use rfl (C.2.2.2.1.2.1 _ hw)) (fun _ h9 => h9) hd (K H locs ls hP hS h)
theorem qk_gAbv (C : qx_C G Δ cc own nL fr lc) {index : Nat} (hd : decode cc pc = .ok (.getstatic index, 3)) (pc' : Nat) (hp : pc + 3 = pc') (hw : Cond.fieldLink own index "BustRest" "KIND_ABOVE" "[I" ∈ qx_Wd ∨ ∃ host, Cond.fieldLinkNest own index "BustRest" "KIND_ABOVE" "[I" host ∈ qx_Nd) (K : qx_K l G Δ σ pc' lo (.ref (qx_ad G 91) :: st)) : qx_K l G Δ σ pc lo st := by
  subst hp
  intro H locs ls hP hS h
  rcases hw with hw | ⟨host, hw⟩
  · exact va_gets C.1.1 C.1.2.1 C.2.2.2.2.1.2.2.1 hS C.1.2.2.2.1 (C.1.2.2.2.2 _ hw) (fun _ h9 => h9) hd (K H locs ls hP hS h)
  · exact va_getsN C.1.1 C.1.2.1 C.2.2.2.2.1.2.2.1 hS C.1.2.2.2.1 (va_Nw.use rfl (C.2.2.2.1.2.1 _ hw)) (fun _ h9 => h9) hd (K H locs ls hP hS h)
theorem qk_gComp (C : qx_C G Δ cc own nL fr lc) {index : Nat} (hd : decode cc pc = .ok (.getstatic index, 3)) (pc' : Nat) (hp : pc + 3 = pc') (hw : Cond.fieldLink own index "java/lang/String" "COMPACT_STRINGS" "Z" ∈ qx_Wd) (K : qx_K l G Δ σ pc' lo (.int 1 :: st)) : qx_K l G Δ σ pc lo st := by
  subst hp
  intro H locs ls hP hS h
  exact va_gets C.1.1 C.1.2.1 C.2.2.2.2.1.2.2.2.2.1 hS C.1.2.2.2.1 (C.1.2.2.2.2 _ hw) (fun _ h9 => h9) hd (K H locs ls hP hS h)
theorem qk_tMost (C : qx_C G Δ cc own nL fr lc) (hd : decode cc pc = .ok (.iaload, 1)) (pc' : Nat) (hp : pc + 1 = pc') {x : Int32} (i : Nat) (hx : x = nI i) (hi : i < 7) (K : qx_K l G Δ σ pc' lo (.int (qx_most.getD i 0) :: st)) : qx_K l G Δ σ pc lo (.int x :: .ref (qx_ad G 90) :: st) := by
  subst hp; subst hx
  intro H locs ls hP hS h
  exact va_ti C.1.1 C.1.2.1 C.2.2.2.2.1.2.1 hS (vp_in_nI hi (by omega)) (v := .int (qx_most.getD i 0)) (by rw [nI_clamp (by omega)]) hd (K H locs ls hP hS h)
theorem qk_tAbv (C : qx_C G Δ cc own nL fr lc) (hd : decode cc pc = .ok (.iaload, 1)) (pc' : Nat) (hp : pc + 1 = pc') {x : Int32} (i : Nat) (hx : x = nI i) (hi : i < 7) (K : qx_K l G Δ σ pc' lo (.int (qx_abv.getD i 0) :: st)) : qx_K l G Δ σ pc lo (.int x :: .ref (qx_ad G 91) :: st) := by
  subst hp; subst hx
  intro H locs ls hP hS h
  exact va_ti C.1.1 C.1.2.1 C.2.2.2.2.1.2.2.2.1 hS (vp_in_nI hi (by omega)) (v := .int (qx_abv.getD i 0)) (by rw [nI_clamp (by omega)]) hd (K H locs ls hP hS h)
end qx_calls
