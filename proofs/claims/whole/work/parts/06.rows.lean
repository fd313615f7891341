/-! the rows of qx_K: one an instruction -/
section qx_rows
variable {l : Launch} {G : qx_G} {Δ : qx_T} {cc : ByteArray} {own : String} {nL fr lc : Nat} {σ : qx_Sg} {pc : Nat} {lo : List (Nat × Value)} {st : List Value}
theorem qk_iconst (C : qx_C G Δ cc own nL fr lc) {n : Int} (v : Int32) (hd : decode cc pc = .ok (.iconst n, 1)) (pc' : Nat) (hp : pc + 1 = pc') (hv : Int32.ofInt n = v) (K : qx_K l G Δ σ pc' lo (.int v :: st)) : qx_K l G Δ σ pc lo st := by
  subst hp
  intro H locs ls hP hS h
  exact lv_iconst C.1.1 C.1.2.1 hd hv (K H locs ls hP hS h)
theorem qk_bipush (C : qx_C G Δ cc own nL fr lc) {n : Int} (v : Int32) (hd : decode cc pc = .ok (.bipush n, 2)) (pc' : Nat) (hp : pc + 2 = pc') (hv : (Int8.ofInt n).toInt32 = v) (K : qx_K l G Δ σ pc' lo (.int v :: st)) : qx_K l G Δ σ pc lo st := by
  subst hp
  intro H locs ls hP hS h
  exact lv_bipush C.1.1 C.1.2.1 hd hv (K H locs ls hP hS h)
theorem qk_sipush (C : qx_C G Δ cc own nL fr lc) {n : Int} (v : Int32) (hd : decode cc pc = .ok (.sipush n, 3)) (pc' : Nat) (hp : pc + 3 = pc') (hv : (Int16.ofInt n).toInt32 = v) (K : qx_K l G Δ σ pc' lo (.int v :: st)) : qx_K l G Δ σ pc lo st := by
  subst hp
  intro H locs ls hP hS h
  exact lv_sipush C.1.1 C.1.2.1 hd hv (K H locs ls hP hS h)
theorem qk_lconst (C : qx_C G Δ cc own nL fr lc) {n : Fin 2} (v : Int64) (hd : decode cc pc = .ok (.lconst n, 1)) (pc' : Nat) (hp : pc + 1 = pc') (hv : Int64.ofNat (n : Nat) = v) (K : qx_K l G Δ σ pc' lo (.long v :: st)) : qx_K l G Δ σ pc lo st := by
  subst hp
  intro H locs ls hP hS h
  exact lv_lconst C.1.1 C.1.2.1 hd hv (K H locs ls hP hS h)
theorem qk_ldc (C : qx_C G Δ cc own nL fr lc) {i : Nat} {v : Int32} (hd : decode cc pc = .ok (.ldc i, 2)) (pc' : Nat) (hp : pc + 2 = pc') (hw : Cond.constant own i v ∈ qx_Wd) (K : qx_K l G Δ σ pc' lo (.int v :: st)) : qx_K l G Δ σ pc lo st := by
  subst hp
  intro H locs ls hP hS h
  exact lv_ldc C.1.1 C.1.2.1 C.1.2.2.2.1 (C.1.2.2.2.2 _ hw) hd (K H locs ls hP hS h)
theorem qk_ldcw (C : qx_C G Δ cc own nL fr lc) {i : Nat} {v : Int32} (hd : decode cc pc = .ok (.ldc_w i, 3)) (pc' : Nat) (hp : pc + 3 = pc') (hw : Cond.constant own i v ∈ qx_Wd) (K : qx_K l G Δ σ pc' lo (.int v :: st)) : qx_K l G Δ σ pc lo st := by
  subst hp
  intro H locs ls hP hS h
  exact lv_ldcw C.1.1 C.1.2.1 C.1.2.2.2.1 (C.1.2.2.2.2 _ hw) hd (K H locs ls hP hS h)
theorem qk_ldcS (C : qx_C G Δ cc own nL fr lc) {i : Nat} (q : Nat) {tx : String} (hd : decode cc pc = .ok (.ldc i, 2)) (pc' : Nat) (hp : pc + 2 = pc') (hw : (own, i, tx, q) ∈ qx_str) (K : qx_K l G Δ σ pc' lo (.ref (qx_ad G (100 + q)) :: st)) : qx_K l G Δ σ pc lo st := by
  subst hp
  intro H locs ls hP hS h
  exact va_ldcS C.1.1 C.1.2.1 C.1.2.2.2.1 (C.2.2.2.1.2.2 _ hw) hd (K H locs ls hP hS h)
theorem qk_iloadn (C : qx_C G Δ cc own nL fr lc) {k : Fin 4} {i : Nat} {x : Int32} (hd : decode cc pc = .ok (.iload_n k, 1)) (pc' : Nat) (hp : pc + 1 = pc') (hi : (k : Nat) = i) (j : Nat) (hj : lo[j]? = some (i, .int x)) (K : qx_K l G Δ σ pc' lo (.int x :: st)) : qx_K l G Δ σ pc lo st := by
  subst hp
  intro H locs ls hP hS h
  exact lv_iload_n C.1.1 C.1.2.1 hd hi (lv_at h j hj) (K H locs ls hP hS h)
theorem qk_aloadn (C : qx_C G Δ cc own nL fr lc) {k : Fin 4} {i : Nat} {x : Nat} (hd : decode cc pc = .ok (.aload_n k, 1)) (pc' : Nat) (hp : pc + 1 = pc') (hi : (k : Nat) = i) (j : Nat) (hj : lo[j]? = some (i, .ref x)) (K : qx_K l G Δ σ pc' lo (.ref x :: st)) : qx_K l G Δ σ pc lo st := by
  subst hp
  intro H locs ls hP hS h
  exact lv_aload_n C.1.1 C.1.2.1 hd hi (lv_at h j hj) (K H locs ls hP hS h)
theorem qk_lloadn (C : qx_C G Δ cc own nL fr lc) {k : Fin 4} {i : Nat} {x : Int64} (hd : decode cc pc = .ok (.lload_n k, 1)) (pc' : Nat) (hp : pc + 1 = pc') (hi : (k : Nat) = i) (j : Nat) (hj : lo[j]? = some (i, .long x)) (K : qx_K l G Δ σ pc' lo (.long x :: st)) : qx_K l G Δ σ pc lo st := by
  subst hp
  intro H locs ls hP hS h
  exact lv_lload_n C.1.1 C.1.2.1 hd hi (lv_at h j hj) (K H locs ls hP hS h)
theorem qk_iload (C : qx_C G Δ cc own nL fr lc) {i : Nat} {x : Int32} (hd : decode cc pc = .ok (.iload i, 2)) (pc' : Nat) (hp : pc + 2 = pc') (j : Nat) (hj : lo[j]? = some (i, .int x)) (K : qx_K l G Δ σ pc' lo (.int x :: st)) : qx_K l G Δ σ pc lo st := by
  subst hp
  intro H locs ls hP hS h
  exact lv_iload C.1.1 C.1.2.1 hd (lv_at h j hj) (K H locs ls hP hS h)
theorem qk_aload (C : qx_C G Δ cc own nL fr lc) {i : Nat} {x : Nat} (hd : decode cc pc = .ok (.aload i, 2)) (pc' : Nat) (hp : pc + 2 = pc') (j : Nat) (hj : lo[j]? = some (i, .ref x)) (K : qx_K l G Δ σ pc' lo (.ref x :: st)) : qx_K l G Δ σ pc lo st := by
  subst hp
  intro H locs ls hP hS h
  exact lv_aload C.1.1 C.1.2.1 hd (lv_at h j hj) (K H locs ls hP hS h)
theorem qk_lload (C : qx_C G Δ cc own nL fr lc) {i : Nat} {x : Int64} (hd : decode cc pc = .ok (.lload i, 2)) (pc' : Nat) (hp : pc + 2 = pc') (j : Nat) (hj : lo[j]? = some (i, .long x)) (K : qx_K l G Δ σ pc' lo (.long x :: st)) : qx_K l G Δ σ pc lo st := by
  subst hp
  intro H locs ls hP hS h
  exact lv_lload C.1.1 C.1.2.1 hd (lv_at h j hj) (K H locs ls hP hS h)
theorem qk_istoren (C : qx_C G Δ cc own nL fr lc) {k : Fin 4} {i : Nat} {x : Int32} {lo' : List (Nat × Value)} (hd : decode cc pc = .ok (.istore_n k, 1)) (pc' : Nat) (hp : pc + 1 = pc') (hi : (k : Nat) = i) (hn : i < nL) (hl : (i, Value.int x) :: lo.filter (fun q => !(q.1 == i) && !(q.1 + 1 == i && q.2.category == 2)) = lo') (K : qx_K l G Δ σ pc' lo' st) : qx_K l G Δ σ pc lo (.int x :: st) := by
  subst hp
  intro H locs ls hP hS h
  exact lv_istore_n C.1.1 C.1.2.1 hd hi h (by rw [C.2.1]; exact hn) hl (fun ls' h' => K H locs ls' hP hS h')
theorem qk_istore (C : qx_C G Δ cc own nL fr lc) {i : Nat} {x : Int32} {lo' : List (Nat × Value)} (hd : decode cc pc = .ok (.istore i, 2)) (pc' : Nat) (hp : pc + 2 = pc') (hn : i < nL) (hl : (i, Value.int x) :: lo.filter (fun q => !(q.1 == i) && !(q.1 + 1 == i && q.2.category == 2)) = lo') (K : qx_K l G Δ σ pc' lo' st) : qx_K l G Δ σ pc lo (.int x :: st) := by
  subst hp
  intro H locs ls hP hS h
  exact lv_istore C.1.1 C.1.2.1 hd h (by rw [C.2.1]; exact hn) hl (fun ls' h' => K H locs ls' hP hS h')
theorem qk_astoren (C : qx_C G Δ cc own nL fr lc) {k : Fin 4} {i : Nat} {x : Nat} {lo' : List (Nat × Value)} (hd : decode cc pc = .ok (.astore_n k, 1)) (pc' : Nat) (hp : pc + 1 = pc') (hi : (k : Nat) = i) (hn : i < nL) (hl : (i, Value.ref x) :: lo.filter (fun q => !(q.1 == i) && !(q.1 + 1 == i && q.2.category == 2)) = lo') (K : qx_K l G Δ σ pc' lo' st) : qx_K l G Δ σ pc lo (.ref x :: st) := by
  subst hp
  intro H locs ls hP hS h
  exact lv_astore_n C.1.1 C.1.2.1 hd hi h (by rw [C.2.1]; exact hn) hl (fun ls' h' => K H locs ls' hP hS h')
theorem qk_astore (C : qx_C G Δ cc own nL fr lc) {i : Nat} {x : Nat} {lo' : List (Nat × Value)} (hd : decode cc pc = .ok (.astore i, 2)) (pc' : Nat) (hp : pc + 2 = pc') (hn : i < nL) (hl : (i, Value.ref x) :: lo.filter (fun q => !(q.1 == i) && !(q.1 + 1 == i && q.2.category == 2)) = lo') (K : qx_K l G Δ σ pc' lo' st) : qx_K l G Δ σ pc lo (.ref x :: st) := by
  subst hp
  intro H locs ls hP hS h
  exact lv_astore C.1.1 C.1.2.1 hd h (by rw [C.2.1]; exact hn) hl (fun ls' h' => K H locs ls' hP hS h')
theorem qk_lstoren (C : qx_C G Δ cc own nL fr lc) {k : Fin 4} {i : Nat} {x : Int64} {lo' : List (Nat × Value)} (hd : decode cc pc = .ok (.lstore_n k, 1)) (pc' : Nat) (hp : pc + 1 = pc') (hi : (k : Nat) = i) (hn : i + 1 < nL) (hl : (i, Value.long x) :: lo.filter (fun q => !(q.1 == i) && (!(q.1 == i + 1) && !(q.1 + 1 == i && q.2.category == 2))) = lo') (K : qx_K l G Δ σ pc' lo' st) : qx_K l G Δ σ pc lo (.long x :: st) := by
  subst hp
  intro H locs ls hP hS h
  exact lv_lstore_n C.1.1 C.1.2.1 hd hi h (by rw [C.2.1]; exact hn) hl (fun ls' h' => K H locs ls' hP hS h')
theorem qk_lstore (C : qx_C G Δ cc own nL fr lc) {i : Nat} {x : Int64} {lo' : List (Nat × Value)} (hd : decode cc pc = .ok (.lstore i, 2)) (pc' : Nat) (hp : pc + 2 = pc') (hn : i + 1 < nL) (hl : (i, Value.long x) :: lo.filter (fun q => !(q.1 == i) && (!(q.1 == i + 1) && !(q.1 + 1 == i && q.2.category == 2))) = lo') (K : qx_K l G Δ σ pc' lo' st) : qx_K l G Δ σ pc lo (.long x :: st) := by
  subst hp
  intro H locs ls hP hS h
  exact lv_lstore C.1.1 C.1.2.1 hd h (by rw [C.2.1]; exact hn) hl (fun ls' h' => K H locs ls' hP hS h')
theorem qk_iinc (C : qx_C G Δ cc own nL fr lc) {i : Nat} {n : Int} {x : Int32} (v : Int32) {lo' : List (Nat × Value)} (hd : decode cc pc = .ok (.iinc i n, 3)) (pc' : Nat) (hp : pc + 3 = pc') (j : Nat) (hj : lo[j]? = some (i, .int x)) (hv : x + Int32.ofInt n = v) (hn : i < nL) (hl : (i, Value.int v) :: lo.filter (fun q => !(q.1 == i) && !(q.1 + 1 == i && q.2.category == 2)) = lo') (K : qx_K l G Δ σ pc' lo' st) : qx_K l G Δ σ pc lo st := by
  subst hp
  intro H locs ls hP hS h
  exact lv_iinc C.1.1 C.1.2.1 hd h hj hv (by rw [C.2.1]; exact hn) hl (fun ls' h' => K H locs ls' hP hS h')
theorem qk_iadd (C : qx_C G Δ cc own nL fr lc) {x y : Int32} (hd : decode cc pc = .ok (.iadd, 1)) (pc' : Nat) (hp : pc + 1 = pc') (K : qx_K l G Δ σ pc' lo (.int (x + y) :: st)) : qx_K l G Δ σ pc lo (.int y :: .int x :: st) := by
  subst hp
  intro H locs ls hP hS h
  exact lv_iadd C.1.1 C.1.2.1 hd (K H locs ls hP hS h)
theorem qk_isub (C : qx_C G Δ cc own nL fr lc) {x y : Int32} (hd : decode cc pc = .ok (.isub, 1)) (pc' : Nat) (hp : pc + 1 = pc') (K : qx_K l G Δ σ pc' lo (.int (x - y) :: st)) : qx_K l G Δ σ pc lo (.int y :: .int x :: st) := by
  subst hp
  intro H locs ls hP hS h
  exact lv_isub C.1.1 C.1.2.1 hd (K H locs ls hP hS h)
theorem qk_imul (C : qx_C G Δ cc own nL fr lc) {x y : Int32} (hd : decode cc pc = .ok (.imul, 1)) (pc' : Nat) (hp : pc + 1 = pc') (K : qx_K l G Δ σ pc' lo (.int (x * y) :: st)) : qx_K l G Δ σ pc lo (.int y :: .int x :: st) := by
  subst hp
  intro H locs ls hP hS h
  exact lv_imul C.1.1 C.1.2.1 hd (K H locs ls hP hS h)
theorem qk_iand (C : qx_C G Δ cc own nL fr lc) {x y : Int32} (hd : decode cc pc = .ok (.iand, 1)) (pc' : Nat) (hp : pc + 1 = pc') (K : qx_K l G Δ σ pc' lo (.int (x &&& y) :: st)) : qx_K l G Δ σ pc lo (.int y :: .int x :: st) := by
  subst hp
  intro H locs ls hP hS h
  exact lv_iand C.1.1 C.1.2.1 hd (K H locs ls hP hS h)
theorem qk_ior (C : qx_C G Δ cc own nL fr lc) {x y : Int32} (hd : decode cc pc = .ok (.ior, 1)) (pc' : Nat) (hp : pc + 1 = pc') (K : qx_K l G Δ σ pc' lo (.int (x ||| y) :: st)) : qx_K l G Δ σ pc lo (.int y :: .int x :: st) := by
  subst hp
  intro H locs ls hP hS h
  exact lv_ior C.1.1 C.1.2.1 hd (K H locs ls hP hS h)
theorem qk_ishl (C : qx_C G Δ cc own nL fr lc) {x y : Int32} (hd : decode cc pc = .ok (.ishl, 1)) (pc' : Nat) (hp : pc + 1 = pc') (K : qx_K l G Δ σ pc' lo (.int (x <<< (y &&& 31)) :: st)) : qx_K l G Δ σ pc lo (.int y :: .int x :: st) := by
  subst hp
  intro H locs ls hP hS h
  exact lv_ishl C.1.1 C.1.2.1 hd (K H locs ls hP hS h)
theorem qk_ishr (C : qx_C G Δ cc own nL fr lc) {x y : Int32} (hd : decode cc pc = .ok (.ishr, 1)) (pc' : Nat) (hp : pc + 1 = pc') (K : qx_K l G Δ σ pc' lo (.int (x >>> (y &&& 31)) :: st)) : qx_K l G Δ σ pc lo (.int y :: .int x :: st) := by
  subst hp
  intro H locs ls hP hS h
  exact lv_ishr C.1.1 C.1.2.1 hd (K H locs ls hP hS h)
theorem qk_idiv (C : qx_C G Δ cc own nL fr lc) {x y : Int32} (hd : decode cc pc = .ok (.idiv, 1)) (pc' : Nat) (hp : pc + 1 = pc') (hne : ¬ y = 0) (K : qx_K l G Δ σ pc' lo (.int (x / y) :: st)) : qx_K l G Δ σ pc lo (.int y :: .int x :: st) := by
  subst hp
  intro H locs ls hP hS h
  exact lv_idiv C.1.1 C.1.2.1 hd hne (K H locs ls hP hS h)
theorem qk_irem (C : qx_C G Δ cc own nL fr lc) {x y : Int32} (hd : decode cc pc = .ok (.irem, 1)) (pc' : Nat) (hp : pc + 1 = pc') (hne : ¬ y = 0) (K : qx_K l G Δ σ pc' lo (.int (x - x / y * y) :: st)) : qx_K l G Δ σ pc lo (.int y :: .int x :: st) := by
  subst hp
  intro H locs ls hP hS h
  exact lv_irem C.1.1 C.1.2.1 hd hne (K H locs ls hP hS h)
theorem qk_ladd (C : qx_C G Δ cc own nL fr lc) {x y : Int64} (hd : decode cc pc = .ok (.ladd, 1)) (pc' : Nat) (hp : pc + 1 = pc') (K : qx_K l G Δ σ pc' lo (.long (x + y) :: st)) : qx_K l G Δ σ pc lo (.long y :: .long x :: st) := by
  subst hp
  intro H locs ls hP hS h
  exact lv_ladd C.1.1 C.1.2.1 hd (K H locs ls hP hS h)
theorem qk_lmul (C : qx_C G Δ cc own nL fr lc) {x y : Int64} (hd : decode cc pc = .ok (.lmul, 1)) (pc' : Nat) (hp : pc + 1 = pc') (K : qx_K l G Δ σ pc' lo (.long (x * y) :: st)) : qx_K l G Δ σ pc lo (.long y :: .long x :: st) := by
  subst hp
  intro H locs ls hP hS h
  exact lv_lmul C.1.1 C.1.2.1 hd (K H locs ls hP hS h)
theorem qk_lcmp (C : qx_C G Δ cc own nL fr lc) {x y : Int64} (hd : decode cc pc = .ok (.lcmp, 1)) (pc' : Nat) (hp : pc + 1 = pc') (K : qx_K l G Δ σ pc' lo (.int (lg_cmp x y) :: st)) : qx_K l G Δ σ pc lo (.long y :: .long x :: st) := by
  subst hp
  intro H locs ls hP hS h
  exact W.lcmp C.1.1 C.1.2.1 hd (K H locs ls hP hS h)
theorem qk_iushr (C : qx_C G Δ cc own nL fr lc) {x y : Int32} (hd : decode cc pc = .ok (.iushr, 1)) (pc' : Nat) (hp : pc + 1 = pc') (K : qx_K l G Δ σ pc' lo (.int ((x.toUInt32 >>> (y.toUInt32 &&& Int32.toUInt32 31)).toInt32) :: st)) : qx_K l G Δ σ pc lo (.int y :: .int x :: st) := by
  subst hp
  intro H locs ls hP hS h
  exact lv_iushr C.1.1 C.1.2.1 hd rfl (K H locs ls hP hS h)
theorem qk_i2l (C : qx_C G Δ cc own nL fr lc) {x : Int32} (hd : decode cc pc = .ok (.i2l, 1)) (pc' : Nat) (hp : pc + 1 = pc') (K : qx_K l G Δ σ pc' lo (.long x.toInt64 :: st)) : qx_K l G Δ σ pc lo (.int x :: st) := by
  subst hp
  intro H locs ls hP hS h
  exact lv_i2l C.1.1 C.1.2.1 hd rfl (K H locs ls hP hS h)
theorem qk_i2b (C : qx_C G Δ cc own nL fr lc) {x : Int32} (hd : decode cc pc = .ok (.i2b, 1)) (pc' : Nat) (hp : pc + 1 = pc') (K : qx_K l G Δ σ pc' lo (.int x.toInt8.toInt32 :: st)) : qx_K l G Δ σ pc lo (.int x :: st) := by
  subst hp
  intro H locs ls hP hS h
  exact lv_i2b C.1.1 C.1.2.1 hd rfl (K H locs ls hP hS h)
theorem qk_i2s (C : qx_C G Δ cc own nL fr lc) {x : Int32} (hd : decode cc pc = .ok (.i2s, 1)) (pc' : Nat) (hp : pc + 1 = pc') (K : qx_K l G Δ σ pc' lo (.int x.toInt16.toInt32 :: st)) : qx_K l G Δ σ pc lo (.int x :: st) := by
  subst hp
  intro H locs ls hP hS h
  exact lv_i2s C.1.1 C.1.2.1 hd rfl (K H locs ls hP hS h)
theorem qk_i2c (C : qx_C G Δ cc own nL fr lc) {x : Int32} (hd : decode cc pc = .ok (.i2c, 1)) (pc' : Nat) (hp : pc + 1 = pc') (K : qx_K l G Δ σ pc' lo (.int ((x.toUInt32 % 65536).toInt32) :: st)) : qx_K l G Δ σ pc lo (.int x :: st) := by
  subst hp
  intro H locs ls hP hS h
  exact lv_i2c C.1.1 C.1.2.1 hd rfl (K H locs ls hP hS h)
theorem qk_dup (C : qx_C G Δ cc own nL fr lc) {v : Value} (hd : decode cc pc = .ok (.dup, 1)) (pc' : Nat) (hp : pc + 1 = pc') (hc : v.category = 1) (K : qx_K l G Δ σ pc' lo (v :: v :: st)) : qx_K l G Δ σ pc lo (v :: st) := by
  subst hp
  intro H locs ls hP hS h
  exact lv_dup C.1.1 C.1.2.1 hd hc (K H locs ls hP hS h)
theorem qk_pop (C : qx_C G Δ cc own nL fr lc) {v : Value} (hd : decode cc pc = .ok (.pop, 1)) (pc' : Nat) (hp : pc + 1 = pc') (hc : v.category = 1) (K : qx_K l G Δ σ pc' lo st) : qx_K l G Δ σ pc lo (v :: st) := by
  subst hp
  intro H locs ls hP hS h
  exact lv_pop C.1.1 C.1.2.1 hd hc (K H locs ls hP hS h)
theorem qk_dup2 (C : qx_C G Δ cc own nL fr lc) {v w : Value} (hd : decode cc pc = .ok (.dup2, 1)) (pc' : Nat) (hp : pc + 1 = pc') (hc : v.category = 1) (hc2 : w.category = 1) (K : qx_K l G Δ σ pc' lo (v :: w :: v :: w :: st)) : qx_K l G Δ σ pc lo (v :: w :: st) := by
  subst hp
  intro H locs ls hP hS h
  exact lv_dup2_11 C.1.1 C.1.2.1 hd hc hc2 (K H locs ls hP hS h)
theorem qk_if_eq (C : qx_C G Δ cc own nL fr lc) {x : Int32} {off : Int} (hd : decode cc pc = .ok (.ifCond .eq off, 3)) (tgt : Nat) (ht : (pc : Int) + off = (tgt : Int)) (pc' : Nat) (hp : pc + 3 = pc') (kt : x = 0 → qx_K l G Δ σ tgt lo st) (kf : ¬ x = 0 → qx_K l G Δ σ pc' lo st) : qx_K l G Δ σ pc lo (.int x :: st) := by
  subst hp
  intro H locs ls hP hS h
  exact lv_if_eq C.1.1 C.1.2.1 hd ht (fun c => kt c H locs ls hP hS h) (fun c => kf c H locs ls hP hS h)
theorem qk_icmp_eq (C : qx_C G Δ cc own nL fr lc) {x y : Int32} {off : Int} (hd : decode cc pc = .ok (.if_icmp .eq off, 3)) (tgt : Nat) (ht : (pc : Int) + off = (tgt : Int)) (pc' : Nat) (hp : pc + 3 = pc') (kt : x = y → qx_K l G Δ σ tgt lo st) (kf : ¬ x = y → qx_K l G Δ σ pc' lo st) : qx_K l G Δ σ pc lo (.int y :: .int x :: st) := by
  subst hp
  intro H locs ls hP hS h
  exact lv_icmp_eq C.1.1 C.1.2.1 hd ht (fun c => kt c H locs ls hP hS h) (fun c => kf c H locs ls hP hS h)
theorem qk_if_ne (C : qx_C G Δ cc own nL fr lc) {x : Int32} {off : Int} (hd : decode cc pc = .ok (.ifCond .ne off, 3)) (tgt : Nat) (ht : (pc : Int) + off = (tgt : Int)) (pc' : Nat) (hp : pc + 3 = pc') (kt : ¬ x = 0 → qx_K l G Δ σ tgt lo st) (kf : x = 0 → qx_K l G Δ σ pc' lo st) : qx_K l G Δ σ pc lo (.int x :: st) := by
  subst hp
  intro H locs ls hP hS h
  exact lv_if_ne C.1.1 C.1.2.1 hd ht (fun c => kt c H locs ls hP hS h) (fun c => kf c H locs ls hP hS h)
theorem qk_icmp_ne (C : qx_C G Δ cc own nL fr lc) {x y : Int32} {off : Int} (hd : decode cc pc = .ok (.if_icmp .ne off, 3)) (tgt : Nat) (ht : (pc : Int) + off = (tgt : Int)) (pc' : Nat) (hp : pc + 3 = pc') (kt : ¬ x = y → qx_K l G Δ σ tgt lo st) (kf : x = y → qx_K l G Δ σ pc' lo st) : qx_K l G Δ σ pc lo (.int y :: .int x :: st) := by
  subst hp
  intro H locs ls hP hS h
  exact lv_icmp_ne C.1.1 C.1.2.1 hd ht (fun c => kt c H locs ls hP hS h) (fun c => kf c H locs ls hP hS h)
theorem qk_if_lt (C : qx_C G Δ cc own nL fr lc) {x : Int32} {off : Int} (hd : decode cc pc = .ok (.ifCond .lt off, 3)) (tgt : Nat) (ht : (pc : Int) + off = (tgt : Int)) (pc' : Nat) (hp : pc + 3 = pc') (kt : x < 0 → qx_K l G Δ σ tgt lo st) (kf : ¬ x < 0 → qx_K l G Δ σ pc' lo st) : qx_K l G Δ σ pc lo (.int x :: st) := by
  subst hp
  intro H locs ls hP hS h
  exact lv_if_lt C.1.1 C.1.2.1 hd ht (fun c => kt c H locs ls hP hS h) (fun c => kf c H locs ls hP hS h)
theorem qk_icmp_lt (C : qx_C G Δ cc own nL fr lc) {x y : Int32} {off : Int} (hd : decode cc pc = .ok (.if_icmp .lt off, 3)) (tgt : Nat) (ht : (pc : Int) + off = (tgt : Int)) (pc' : Nat) (hp : pc + 3 = pc') (kt : x < y → qx_K l G Δ σ tgt lo st) (kf : ¬ x < y → qx_K l G Δ σ pc' lo st) : qx_K l G Δ σ pc lo (.int y :: .int x :: st) := by
  subst hp
  intro H locs ls hP hS h
  exact lv_icmp_lt C.1.1 C.1.2.1 hd ht (fun c => kt c H locs ls hP hS h) (fun c => kf c H locs ls hP hS h)
theorem qk_if_ge (C : qx_C G Δ cc own nL fr lc) {x : Int32} {off : Int} (hd : decode cc pc = .ok (.ifCond .ge off, 3)) (tgt : Nat) (ht : (pc : Int) + off = (tgt : Int)) (pc' : Nat) (hp : pc + 3 = pc') (kt : 0 ≤ x → qx_K l G Δ σ tgt lo st) (kf : ¬ 0 ≤ x → qx_K l G Δ σ pc' lo st) : qx_K l G Δ σ pc lo (.int x :: st) := by
  subst hp
  intro H locs ls hP hS h
  exact lv_if_ge C.1.1 C.1.2.1 hd ht (fun c => kt c H locs ls hP hS h) (fun c => kf c H locs ls hP hS h)
theorem qk_icmp_ge (C : qx_C G Δ cc own nL fr lc) {x y : Int32} {off : Int} (hd : decode cc pc = .ok (.if_icmp .ge off, 3)) (tgt : Nat) (ht : (pc : Int) + off = (tgt : Int)) (pc' : Nat) (hp : pc + 3 = pc') (kt : y ≤ x → qx_K l G Δ σ tgt lo st) (kf : ¬ y ≤ x → qx_K l G Δ σ pc' lo st) : qx_K l G Δ σ pc lo (.int y :: .int x :: st) := by
  subst hp
  intro H locs ls hP hS h
  exact lv_icmp_ge C.1.1 C.1.2.1 hd ht (fun c => kt c H locs ls hP hS h) (fun c => kf c H locs ls hP hS h)
theorem qk_if_gt (C : qx_C G Δ cc own nL fr lc) {x : Int32} {off : Int} (hd : decode cc pc = .ok (.ifCond .gt off, 3)) (tgt : Nat) (ht : (pc : Int) + off = (tgt : Int)) (pc' : Nat) (hp : pc + 3 = pc') (kt : 0 < x → qx_K l G Δ σ tgt lo st) (kf : ¬ 0 < x → qx_K l G Δ σ pc' lo st) : qx_K l G Δ σ pc lo (.int x :: st) := by
  subst hp
  intro H locs ls hP hS h
  exact lv_if_gt C.1.1 C.1.2.1 hd ht (fun c => kt c H locs ls hP hS h) (fun c => kf c H locs ls hP hS h)
theorem qk_icmp_gt (C : qx_C G Δ cc own nL fr lc) {x y : Int32} {off : Int} (hd : decode cc pc = .ok (.if_icmp .gt off, 3)) (tgt : Nat) (ht : (pc : Int) + off = (tgt : Int)) (pc' : Nat) (hp : pc + 3 = pc') (kt : y < x → qx_K l G Δ σ tgt lo st) (kf : ¬ y < x → qx_K l G Δ σ pc' lo st) : qx_K l G Δ σ pc lo (.int y :: .int x :: st) := by
  subst hp
  intro H locs ls hP hS h
  exact lv_icmp_gt C.1.1 C.1.2.1 hd ht (fun c => kt c H locs ls hP hS h) (fun c => kf c H locs ls hP hS h)
theorem qk_if_le (C : qx_C G Δ cc own nL fr lc) {x : Int32} {off : Int} (hd : decode cc pc = .ok (.ifCond .le off, 3)) (tgt : Nat) (ht : (pc : Int) + off = (tgt : Int)) (pc' : Nat) (hp : pc + 3 = pc') (kt : x ≤ 0 → qx_K l G Δ σ tgt lo st) (kf : ¬ x ≤ 0 → qx_K l G Δ σ pc' lo st) : qx_K l G Δ σ pc lo (.int x :: st) := by
  subst hp
  intro H locs ls hP hS h
  exact lv_if_le C.1.1 C.1.2.1 hd ht (fun c => kt c H locs ls hP hS h) (fun c => kf c H locs ls hP hS h)
theorem qk_icmp_le (C : qx_C G Δ cc own nL fr lc) {x y : Int32} {off : Int} (hd : decode cc pc = .ok (.if_icmp .le off, 3)) (tgt : Nat) (ht : (pc : Int) + off = (tgt : Int)) (pc' : Nat) (hp : pc + 3 = pc') (kt : x ≤ y → qx_K l G Δ σ tgt lo st) (kf : ¬ x ≤ y → qx_K l G Δ σ pc' lo st) : qx_K l G Δ σ pc lo (.int y :: .int x :: st) := by
  subst hp
  intro H locs ls hP hS h
  exact lv_icmp_le C.1.1 C.1.2.1 hd ht (fun c => kt c H locs ls hP hS h) (fun c => kf c H locs ls hP hS h)
theorem qk_goto (C : qx_C G Δ cc own nL fr lc) {off : Int} (hd : decode cc pc = .ok (.goto off, 3)) (tgt : Nat) (ht : (pc : Int) + off = (tgt : Int)) (K : qx_K l G Δ σ tgt lo st) : qx_K l G Δ σ pc lo st := by
  intro H locs ls hP hS h
  exact lv_goto C.1.1 C.1.2.1 hd ht (K H locs ls hP hS h)
theorem qk_tableOut (C : qx_C G Δ cc own nL fr lc) {dflt lo1 hi1 : Int} {offs : Array Int} {len : Nat} {x : Int32} (hd : decode cc pc = .ok (.tableswitch dflt lo1 hi1 offs, len)) (hx : x.toInt < lo1 ∨ hi1 < x.toInt) (tgt : Nat) (ht : (pc : Int) + dflt = (tgt : Int)) (K : qx_K l G Δ σ tgt lo st) : qx_K l G Δ σ pc lo (.int x :: st) := by
  intro H locs ls hP hS h
  exact lv_tableOut C.1.1 C.1.2.1 hd hx ht (K H locs ls hP hS h)
theorem qk_tableIn (C : qx_C G Δ cc own nL fr lc) {dflt lo1 hi1 : Int} {offs : Array Int} {len : Nat} {x : Int32} {off : Int} (hd : decode cc pc = .ok (.tableswitch dflt lo1 hi1 offs, len)) (v : Int32) (hx : x = v) (h1 : ¬ v.toInt < lo1) (h2 : ¬ hi1 < v.toInt) (ho : offs[(v.toInt - lo1).toNat]? = some off) (tgt : Nat) (ht : (pc : Int) + off = (tgt : Int)) (K : qx_K l G Δ σ tgt lo st) : qx_K l G Δ σ pc lo (.int x :: st) := by
  subst hx
  intro H locs ls hP hS h
  exact lv_tableIn C.1.1 C.1.2.1 hd h1 h2 ho ht (K H locs ls hP hS h)
theorem qk_lookup (C : qx_C G Δ cc own nL fr lc) {dflt : Int} {ps : Array (Int × Int)} {len : Nat} {x : Int32} {off : Int} (hd : decode cc pc = .ok (.lookupswitch dflt ps, len)) (hp : (ps.toList.zip (ps.toList.drop 1)).all (fun (a, next) => a.1 < next.1) = true) (ho : Op.lookupswitch.offset ps.toList dflt x.toInt = off) (tgt : Nat) (ht : (pc : Int) + off = (tgt : Int)) (K : qx_K l G Δ σ tgt lo st) : qx_K l G Δ σ pc lo (.int x :: st) := by
  intro H locs ls hP hS h
  exact lv_lookup C.1.1 C.1.2.1 hd hp ho ht (K H locs ls hP hS h)
theorem qk_name {x : Int32} (k : ∀ y : Int32, y = x → qx_K l G Δ σ pc lo (.int y :: st)) : qx_K l G Δ σ pc lo (.int x :: st) := k x rfl
theorem qk_cast {x y : Int32} (e : x = y) (k : qx_K l G Δ σ pc lo (.int y :: st)) : qx_K l G Δ σ pc lo (.int x :: st) := e ▸ k
theorem qk_cg (σ' : qx_Sg) (h : ∀ k, k < 65 → qx_F G k (σ k) = qx_F G k (σ' k)) (K : qx_K l G Δ σ' pc lo st) : qx_K l G Δ σ pc lo st := fun H locs ls hP hS hl => K H locs ls (by rw [← qx_W_ext h]; exact hP) hS hl
theorem qk_sg (σ' : qx_Sg) (h : σ = σ') (K : qx_K l G Δ σ' pc lo st) : qx_K l G Δ σ pc lo st := h ▸ K
theorem qk_lo (ks : List Nat) {lo' : List (Nat × Value)} (h : lv_pick lo ks = lo') (K : qx_K l G Δ σ pc lo' st) : qx_K l G Δ σ pc lo st := fun H locs ls hP hS hl => K H locs ls hP hS (lv_sub hl ks h)
/-- a field that a method of class own may name: object kind ci, place j -/
def qx_Fd (own : String) (index ci j : Nat) (fin : Bool) : Prop := ∃ (CN : String) (T : u_T) (N : Nat), vwCl[ci]? = some (CN, T, N) ∧ (∀ w ∈ u_ws CN T N, w ∈ qx_Wd) ∧ j < N ∧ (∀ a, a < N → ∀ b, b < N → a ≠ b → (T a).2.1 ≠ (T b).2.1) ∧ (∃ ty0 : Nat → FieldType, ∀ k, k < N → parseFieldDescriptor (T k).2.2.1 = some (ty0 k)) ∧ (T j).2.2.2 = fin ∧
  (Cond.fieldLink own index (T j).1 (T j).2.1 (T j).2.2.1 ∈ qx_Wd ∨ ∃ host, Cond.fieldLinkNest own index (T j).1 (T j).2.1 (T j).2.2.1 host ∈ qx_Nd)
theorem qk_get (C : qx_C G Δ cc own nL fr lc) {index ci j : Nat} {fin : Bool} (hd : decode cc pc = .ok (.getfield index, 3)) (pc' : Nat) (hp : pc + 3 = pc') (F : qx_Fd own index ci j fin) (k : Nat) (hk : k < 65) {fs : List Value} (hF : qx_F G k (σ k) = .inr (ci, fs)) {v : Value} (hv : fs[j]? = some v) (K : qx_K l G Δ σ pc' lo (v :: st)) : qx_K l G Δ σ pc lo (.ref (qx_ad G k) :: st) := by
  subst hp
  intro H locs ls hP hS h
  obtain ⟨CN, T, N, hc, hin, hj, -, -, -, hw⟩ := F
  have he : (qx_W G σ)[k]? = some (qx_ad G k, .inr (ci, fs)) := by rw [qx_W_get hk, hF]
  rcases hw with hw | ⟨host, hw⟩
  · exact va_get C.1.1 C.1.2.1 C.1.2.2.2.2 hin C.1.2.2.2.1 C.2.2.2.1.1 hP k he hc j hj (C.1.2.2.2.2 _ hw) (fun _ h9 => h9) hv hd (K H locs ls hP hS h)
  · exact va_getN C.1.1 C.1.2.1 C.1.2.2.2.2 hin C.1.2.2.2.1 C.2.2.2.1.1 hP k he hc j hj (va_Nw.use rfl (C.2.2.2.1.2.1 _ hw)) (fun _ h9 => h9) hv hd (K H locs ls hP hS h)
theorem qk_put (C : qx_C G Δ cc own nL fr lc) {index ci j : Nat} (ty : FieldType) (hd : decode cc pc = .ok (.putfield index, 3)) (pc' : Nat) (hp : pc + 3 = pc') (F : qx_Fd own index ci j false) (k : Nat) (hk : k < 65) {fs : List Value} {x : Int32} (hF : qx_F G k (σ k) = .inr (ci, fs)) (hty : ∀ q, vwCl[ci]? = some q → parseFieldDescriptor (q.2.1 j).2.2.1 = some ty) (hn : narrow ty (.int x) = .int x) (hfit : fits ty (.int x) = true) (hl : j < fs.length) (hF2 : qx_F G k (upd (σ k) j x) = .inr (ci, fs.set j (.int x))) (K : qx_K l G Δ (va_up σ k (upd (σ k) j x)) pc' lo st) : qx_K l G Δ σ pc lo (.int x :: .ref (qx_ad G k) :: st) := by
  subst hp
  intro H locs ls hP hS h
  obtain ⟨CN, T, N, hc, hin, hj, hnm, ⟨ty0, hty0⟩, hf, hw⟩ := F
  have he : (qx_W G σ)[k]? = some (qx_ad G k, .inr (ci, fs)) := by rw [qx_W_get hk, hF]
  have hD : va_D (qx_X Δ) (qx_W G σ) := qx_D C.2.2.2.2.2.1 (fun k hk => C.2.2.2.2.2.2 _ (Or.inl ⟨k, hk, rfl⟩))
  have hS2 := qx_W_set (G := G) (σ := σ) hk (upd (σ k) j x)
  rw [hF2] at hS2
  rcases hw with hw | ⟨host, hw⟩
  · exact va_put C.1.1 C.1.2.1 C.1.2.2.2.2 hin ty0 hty0 hnm C.1.2.2.2.1 C.2.2.2.1.1 hP hD hS k he hc j hj (C.1.2.2.2.2 _ hw) (fun _ h9 => h9) hf (hty _ hc) hn hfit hl hd (fun H1 locs1 hP1 hD1 hS1 => K H1 locs1 ls (by rw [← hS2]; exact hP1) hS1 h)
  · exact va_putN C.1.1 C.1.2.1 C.1.2.2.2.2 hin ty0 hty0 hnm C.1.2.2.2.1 C.2.2.2.1.1 hP hD hS k he hc j hj (va_Nw.use rfl (C.2.2.2.1.2.1 _ hw)) (fun _ h9 => h9) hf (hty _ hc) hn hfit hl hd (fun H1 locs1 hP1 hD1 hS1 => K H1 locs1 ls (by rw [← hS2]; exact hP1) hS1 h)
theorem qk_iald (C : qx_C G Δ cc own nL fr lc) (hd : decode cc pc = .ok (.iaload, 1)) (pc' : Nat) (hp : pc + 1 = pc') (k : Nat) (hk : k < 65) {n : Nat} (hF : ∀ r, qx_F G k r = qx_ia G n r) {x : Int32} (i : Nat) (hx : x = nI i) (hi : i < n) (hn : n < 2 ^ 31) (K : qx_K l G Δ σ pc' lo (.int (σ k i) :: st)) : qx_K l G Δ σ pc lo (.int x :: .ref (qx_ad G k) :: st) := by
  subst hp; subst hx
  intro H locs ls hP hS h
  have he : (qx_W G σ)[k]? = some (qx_ad G k, .inl (G.2.1 0, n, .inl (qx_cut n (σ k)))) := by rw [qx_W_get hk, hF]; rfl
  refine va_iald C.1.1 C.1.2.1 C.2.2.2.1.1 hP k 0 he rfl (vp_in_nI hi hn) hd ?_
  rw [nI_clamp (by omega), qx_cut_at hi]
  exact K H locs ls hP hS h
theorem qk_iast (C : qx_C G Δ cc own nL fr lc) (hd : decode cc pc = .ok (.iastore, 1)) (pc' : Nat) (hp : pc + 1 = pc') (k : Nat) (hk : k < 65) {n : Nat} (hF : ∀ r, qx_F G k r = qx_ia G n r) {x v : Int32} (i : Nat) (hx : x = nI i) (hi : i < n) (hn : n < 2 ^ 31) (K : qx_K l G Δ (va_up σ k (upd (σ k) i v)) pc' lo st) : qx_K l G Δ σ pc lo (.int v :: .int x :: .ref (qx_ad G k) :: st) := by
  subst hp; subst hx
  intro H locs ls hP hS h
  have he : (qx_W G σ)[k]? = some (qx_ad G k, .inl (G.2.1 0, n, .inl (qx_cut n (σ k)))) := by rw [qx_W_get hk, hF]; rfl
  have hD : va_D (qx_X Δ) (qx_W G σ) := qx_D C.2.2.2.2.2.1 (fun k hk => C.2.2.2.2.2.2 _ (Or.inl ⟨k, hk, rfl⟩))
  have hS2 := qx_W_set (G := G) (σ := σ) hk (upd (σ k) i v)
  rw [hF] at hS2
  refine va_iast C.1.1 C.1.2.1 C.2.2.2.1.1 hP hD hS k 0 he rfl (vp_in_nI hi hn) hd (fun H1 locs1 hP1 hD1 hS1 => K H1 locs1 ls ?_ hS1 h)
  rw [nI_clamp (by omega), qx_cut_upd hi] at hP1
  rw [← hS2]
  exact hP1
theorem qk_aald (C : qx_C G Δ cc own nL fr lc) (hd : decode cc pc = .ok (.aaload, 1)) (pc' : Nat) (hp : pc + 1 = pc') (k : Nat) (hk : k < 65) {n : Nat} (t : Nat) {cA : ClassId} {CN : String} {f : Nat → Option Nat} (hF : qx_F G k (σ k) = .inl (cA, n, .inr (.inr (.inr (.inr f))))) (ht : (qx_tys G)[t]? = some (cA, .object CN)) {x : Int32} (i : Nat) (hx : x = nI i) (hi : i < n) (hn : n < 2 ^ 31) {a : Nat} (hf : f i = some a) (K : qx_K l G Δ σ pc' lo (.ref a :: st)) : qx_K l G Δ σ pc lo (.int x :: .ref (qx_ad G k) :: st) := by
  subst hp; subst hx
  intro H locs ls hP hS h
  have he : (qx_W G σ)[k]? = some (qx_ad G k, .inl (cA, n, .inr (.inr (.inr (.inr f))))) := by rw [qx_W_get hk, hF]
  refine va_aldq C.1.1 C.1.2.1 C.2.2.2.1.1 hP k t he ht (vp_in_nI hi hn) hd ?_
  rw [nI_clamp (by omega), hf]
  exact K H locs ls hP hS h
theorem qk_alen (C : qx_C G Δ cc own nL fr lc) (hd : decode cc pc = .ok (.arraylength, 1)) (pc' : Nat) (hp : pc + 1 = pc') (k : Nat) (hk : k < 65) (t : Nat) {cA : ClassId} {x : vp_A} {ty : FieldType} (hF : qx_F G k (σ k) = .inl (cA, x)) (ht : (qx_tys G)[t]? = some (cA, ty)) (v : Int32) (hv : Int32.ofNat x.1 = v) (K : qx_K l G Δ σ pc' lo (.int v :: st)) : qx_K l G Δ σ pc lo (.ref (qx_ad G k) :: st) := by
  subst hp
  intro H locs ls hP hS h
  have he : (qx_W G σ)[k]? = some (qx_ad G k, .inl (cA, x)) := by rw [qx_W_get hk, hF]
  exact va_alen C.1.1 C.1.2.1 C.2.2.2.1.1 hP k t he ht hv hd (K H locs ls hP hS h)
end qx_rows
