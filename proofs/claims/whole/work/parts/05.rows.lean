/-! ROWS OF jg: an instruction a row (by program wip/whole/rows.py) -/
section JGR
variable {Γ : jg_G} {M : jg_Md} {d a b pc : Nat} {L : List (Option Value)} {S : List Value} {h : jg_H} {Q : jg_Q}
theorem jg_iconst {n : Int} {v : Int32} (hd : decode M.2.1 pc = .ok (.iconst n, 1)) (hv : Int32.ofInt n = v) (kk : jg Γ M d a b (pc + 1) L (.int v :: S) h Q) : jg Γ M d a b pc L (S) h Q := by
  intro p e R s m args below meth c H ls locs cells slots mc ms hE h1 h2 h3 h4 hf hz hR hL
  exact lv_iconst hE.1 hE.2.1 hd hv (kk p e R s m args below meth c H ls locs cells slots mc ms hE h1 h2 h3 h4 hf hz hR hL)
theorem jg_bipush {n : Int} {v : Int32} (hd : decode M.2.1 pc = .ok (.bipush n, 2)) (hv : (Int8.ofInt n).toInt32 = v) (kk : jg Γ M d a b (pc + 2) L (.int v :: S) h Q) : jg Γ M d a b pc L (S) h Q := by
  intro p e R s m args below meth c H ls locs cells slots mc ms hE h1 h2 h3 h4 hf hz hR hL
  exact lv_bipush hE.1 hE.2.1 hd hv (kk p e R s m args below meth c H ls locs cells slots mc ms hE h1 h2 h3 h4 hf hz hR hL)
theorem jg_sipush {n : Int} {v : Int32} (hd : decode M.2.1 pc = .ok (.sipush n, 3)) (hv : (Int16.ofInt n).toInt32 = v) (kk : jg Γ M d a b (pc + 3) L (.int v :: S) h Q) : jg Γ M d a b pc L (S) h Q := by
  intro p e R s m args below meth c H ls locs cells slots mc ms hE h1 h2 h3 h4 hf hz hR hL
  exact lv_sipush hE.1 hE.2.1 hd hv (kk p e R s m args below meth c H ls locs cells slots mc ms hE h1 h2 h3 h4 hf hz hR hL)
theorem jg_lconst {n : Fin 2} {v : Int64} (hd : decode M.2.1 pc = .ok (.lconst n, 1)) (hv : Int64.ofNat (n : Nat) = v) (kk : jg Γ M d a b (pc + 1) L (.long v :: S) h Q) : jg Γ M d a b pc L (S) h Q := by
  intro p e R s m args below meth c H ls locs cells slots mc ms hE h1 h2 h3 h4 hf hz hR hL
  exact lv_lconst hE.1 hE.2.1 hd hv (kk p e R s m args below meth c H ls locs cells slots mc ms hE h1 h2 h3 h4 hf hz hR hL)
theorem jg_null  (hd : decode M.2.1 pc = .ok (.aconst_null, 1))  (kk : jg Γ M d a b (pc + 1) L (.null :: S) h Q) : jg Γ M d a b pc L (S) h Q := by
  intro p e R s m args below meth c H ls locs cells slots mc ms hE h1 h2 h3 h4 hf hz hR hL
  exact lv_null hE.1 hE.2.1 hd  (kk p e R s m args below meth c H ls locs cells slots mc ms hE h1 h2 h3 h4 hf hz hR hL)
theorem jg_iload_n {k : Fin 4} {x : Int32} (hd : decode M.2.1 pc = .ok (.iload_n k, 1)) (hl : L[(k : Nat)]? = some (some (.int x))) (kk : jg Γ M d a b (pc + 1) L (.int x :: S) h Q) : jg Γ M d a b pc L (S) h Q := by
  intro p e R s m args below meth c H ls locs cells slots mc ms hE h1 h2 h3 h4 hf hz hR hL
  exact lv_iload_n hE.1 hE.2.1 hd rfl (hL.2.2 _ _ hl) (kk p e R s m args below meth c H ls locs cells slots mc ms hE h1 h2 h3 h4 hf hz hR hL)
theorem jg_iload {i : Nat} {x : Int32} (hd : decode M.2.1 pc = .ok (.iload i, 2)) (hl : L[i]? = some (some (.int x))) (kk : jg Γ M d a b (pc + 2) L (.int x :: S) h Q) : jg Γ M d a b pc L (S) h Q := by
  intro p e R s m args below meth c H ls locs cells slots mc ms hE h1 h2 h3 h4 hf hz hR hL
  exact lv_iload hE.1 hE.2.1 hd (hL.2.2 _ _ hl) (kk p e R s m args below meth c H ls locs cells slots mc ms hE h1 h2 h3 h4 hf hz hR hL)
theorem jg_lload_n {k : Fin 4} {x : Int64} (hd : decode M.2.1 pc = .ok (.lload_n k, 1)) (hl : L[(k : Nat)]? = some (some (.long x))) (kk : jg Γ M d a b (pc + 1) L (.long x :: S) h Q) : jg Γ M d a b pc L (S) h Q := by
  intro p e R s m args below meth c H ls locs cells slots mc ms hE h1 h2 h3 h4 hf hz hR hL
  exact lv_lload_n hE.1 hE.2.1 hd rfl (hL.2.2 _ _ hl) (kk p e R s m args below meth c H ls locs cells slots mc ms hE h1 h2 h3 h4 hf hz hR hL)
theorem jg_lload {i : Nat} {x : Int64} (hd : decode M.2.1 pc = .ok (.lload i, 2)) (hl : L[i]? = some (some (.long x))) (kk : jg Γ M d a b (pc + 2) L (.long x :: S) h Q) : jg Γ M d a b pc L (S) h Q := by
  intro p e R s m args below meth c H ls locs cells slots mc ms hE h1 h2 h3 h4 hf hz hR hL
  exact lv_lload hE.1 hE.2.1 hd (hL.2.2 _ _ hl) (kk p e R s m args below meth c H ls locs cells slots mc ms hE h1 h2 h3 h4 hf hz hR hL)
theorem jg_aload_n {k : Fin 4} {x : Nat} (hd : decode M.2.1 pc = .ok (.aload_n k, 1)) (hl : L[(k : Nat)]? = some (some (.ref x))) (kk : jg Γ M d a b (pc + 1) L (.ref x :: S) h Q) : jg Γ M d a b pc L (S) h Q := by
  intro p e R s m args below meth c H ls locs cells slots mc ms hE h1 h2 h3 h4 hf hz hR hL
  exact lv_aload_n hE.1 hE.2.1 hd rfl (hL.2.2 _ _ hl) (kk p e R s m args below meth c H ls locs cells slots mc ms hE h1 h2 h3 h4 hf hz hR hL)
theorem jg_aload {i x : Nat} (hd : decode M.2.1 pc = .ok (.aload i, 2)) (hl : L[i]? = some (some (.ref x))) (kk : jg Γ M d a b (pc + 2) L (.ref x :: S) h Q) : jg Γ M d a b pc L (S) h Q := by
  intro p e R s m args below meth c H ls locs cells slots mc ms hE h1 h2 h3 h4 hf hz hR hL
  exact lv_aload hE.1 hE.2.1 hd (hL.2.2 _ _ hl) (kk p e R s m args below meth c H ls locs cells slots mc ms hE h1 h2 h3 h4 hf hz hR hL)
theorem jg_aload_nN {k : Fin 4} (hd : decode M.2.1 pc = .ok (.aload_n k, 1)) (hl : L[(k : Nat)]? = some (some .null)) (kk : jg Γ M d a b (pc + 1) L (.null :: S) h Q) : jg Γ M d a b pc L (S) h Q := by
  intro p e R s m args below meth c H ls locs cells slots mc ms hE h1 h2 h3 h4 hf hz hR hL
  exact lv_aload_nN hE.1 hE.2.1 hd rfl (hL.2.2 _ _ hl) (kk p e R s m args below meth c H ls locs cells slots mc ms hE h1 h2 h3 h4 hf hz hR hL)
theorem jg_aloadN {i : Nat} (hd : decode M.2.1 pc = .ok (.aload i, 2)) (hl : L[i]? = some (some .null)) (kk : jg Γ M d a b (pc + 2) L (.null :: S) h Q) : jg Γ M d a b pc L (S) h Q := by
  intro p e R s m args below meth c H ls locs cells slots mc ms hE h1 h2 h3 h4 hf hz hR hL
  exact lv_aloadN hE.1 hE.2.1 hd (hL.2.2 _ _ hl) (kk p e R s m args below meth c H ls locs cells slots mc ms hE h1 h2 h3 h4 hf hz hR hL)
theorem jg_iadd {x y : Int32} (hd : decode M.2.1 pc = .ok (.iadd, 1))  (kk : jg Γ M d a b (pc + 1) L (.int (x + y) :: S) h Q) : jg Γ M d a b pc L (.int y :: .int x :: S) h Q := by
  intro p e R s m args below meth c H ls locs cells slots mc ms hE h1 h2 h3 h4 hf hz hR hL
  exact lv_iadd hE.1 hE.2.1 hd  (kk p e R s m args below meth c H ls locs cells slots mc ms hE h1 h2 h3 h4 hf hz hR hL)
theorem jg_isub {x y : Int32} (hd : decode M.2.1 pc = .ok (.isub, 1))  (kk : jg Γ M d a b (pc + 1) L (.int (x - y) :: S) h Q) : jg Γ M d a b pc L (.int y :: .int x :: S) h Q := by
  intro p e R s m args below meth c H ls locs cells slots mc ms hE h1 h2 h3 h4 hf hz hR hL
  exact lv_isub hE.1 hE.2.1 hd  (kk p e R s m args below meth c H ls locs cells slots mc ms hE h1 h2 h3 h4 hf hz hR hL)
theorem jg_imul {x y : Int32} (hd : decode M.2.1 pc = .ok (.imul, 1))  (kk : jg Γ M d a b (pc + 1) L (.int (x * y) :: S) h Q) : jg Γ M d a b pc L (.int y :: .int x :: S) h Q := by
  intro p e R s m args below meth c H ls locs cells slots mc ms hE h1 h2 h3 h4 hf hz hR hL
  exact lv_imul hE.1 hE.2.1 hd  (kk p e R s m args below meth c H ls locs cells slots mc ms hE h1 h2 h3 h4 hf hz hR hL)
theorem jg_iand {x y : Int32} (hd : decode M.2.1 pc = .ok (.iand, 1))  (kk : jg Γ M d a b (pc + 1) L (.int (x &&& y) :: S) h Q) : jg Γ M d a b pc L (.int y :: .int x :: S) h Q := by
  intro p e R s m args below meth c H ls locs cells slots mc ms hE h1 h2 h3 h4 hf hz hR hL
  exact lv_iand hE.1 hE.2.1 hd  (kk p e R s m args below meth c H ls locs cells slots mc ms hE h1 h2 h3 h4 hf hz hR hL)
theorem jg_ior {x y : Int32} (hd : decode M.2.1 pc = .ok (.ior, 1))  (kk : jg Γ M d a b (pc + 1) L (.int (x ||| y) :: S) h Q) : jg Γ M d a b pc L (.int y :: .int x :: S) h Q := by
  intro p e R s m args below meth c H ls locs cells slots mc ms hE h1 h2 h3 h4 hf hz hR hL
  exact lv_ior hE.1 hE.2.1 hd  (kk p e R s m args below meth c H ls locs cells slots mc ms hE h1 h2 h3 h4 hf hz hR hL)
theorem jg_ixor {x y : Int32} (hd : decode M.2.1 pc = .ok (.ixor, 1))  (kk : jg Γ M d a b (pc + 1) L (.int (x ^^^ y) :: S) h Q) : jg Γ M d a b pc L (.int y :: .int x :: S) h Q := by
  intro p e R s m args below meth c H ls locs cells slots mc ms hE h1 h2 h3 h4 hf hz hR hL
  exact lv_ixor hE.1 hE.2.1 hd  (kk p e R s m args below meth c H ls locs cells slots mc ms hE h1 h2 h3 h4 hf hz hR hL)
theorem jg_ishl {x y : Int32} (hd : decode M.2.1 pc = .ok (.ishl, 1))  (kk : jg Γ M d a b (pc + 1) L (.int (x <<< (y &&& 31)) :: S) h Q) : jg Γ M d a b pc L (.int y :: .int x :: S) h Q := by
  intro p e R s m args below meth c H ls locs cells slots mc ms hE h1 h2 h3 h4 hf hz hR hL
  exact lv_ishl hE.1 hE.2.1 hd  (kk p e R s m args below meth c H ls locs cells slots mc ms hE h1 h2 h3 h4 hf hz hR hL)
theorem jg_ishr {x y : Int32} (hd : decode M.2.1 pc = .ok (.ishr, 1))  (kk : jg Γ M d a b (pc + 1) L (.int (x >>> (y &&& 31)) :: S) h Q) : jg Γ M d a b pc L (.int y :: .int x :: S) h Q := by
  intro p e R s m args below meth c H ls locs cells slots mc ms hE h1 h2 h3 h4 hf hz hR hL
  exact lv_ishr hE.1 hE.2.1 hd  (kk p e R s m args below meth c H ls locs cells slots mc ms hE h1 h2 h3 h4 hf hz hR hL)
theorem jg_idiv {x y : Int32} (hd : decode M.2.1 pc = .ok (.idiv, 1)) (hne : ¬ y = 0) (kk : jg Γ M d a b (pc + 1) L (.int (x / y) :: S) h Q) : jg Γ M d a b pc L (.int y :: .int x :: S) h Q := by
  intro p e R s m args below meth c H ls locs cells slots mc ms hE h1 h2 h3 h4 hf hz hR hL
  exact lv_idiv hE.1 hE.2.1 hd hne (kk p e R s m args below meth c H ls locs cells slots mc ms hE h1 h2 h3 h4 hf hz hR hL)
theorem jg_irem {x y : Int32} (hd : decode M.2.1 pc = .ok (.irem, 1)) (hne : ¬ y = 0) (kk : jg Γ M d a b (pc + 1) L (.int (x - x / y * y) :: S) h Q) : jg Γ M d a b pc L (.int y :: .int x :: S) h Q := by
  intro p e R s m args below meth c H ls locs cells slots mc ms hE h1 h2 h3 h4 hf hz hR hL
  exact lv_irem hE.1 hE.2.1 hd hne (kk p e R s m args below meth c H ls locs cells slots mc ms hE h1 h2 h3 h4 hf hz hR hL)
theorem jg_ineg {x : Int32} (hd : decode M.2.1 pc = .ok (.ineg, 1))  (kk : jg Γ M d a b (pc + 1) L (.int (-x) :: S) h Q) : jg Γ M d a b pc L (.int x :: S) h Q := by
  intro p e R s m args below meth c H ls locs cells slots mc ms hE h1 h2 h3 h4 hf hz hR hL
  exact lv_ineg hE.1 hE.2.1 hd  (kk p e R s m args below meth c H ls locs cells slots mc ms hE h1 h2 h3 h4 hf hz hR hL)
theorem jg_iushr {x y : Int32} (hd : decode M.2.1 pc = .ok (.iushr, 1))  (kk : jg Γ M d a b (pc + 1) L (.int ((x.toUInt32 >>> (y.toUInt32 &&& Int32.toUInt32 31)).toInt32) :: S) h Q) : jg Γ M d a b pc L (.int y :: .int x :: S) h Q := by
  intro p e R s m args below meth c H ls locs cells slots mc ms hE h1 h2 h3 h4 hf hz hR hL
  exact lv_iushr hE.1 hE.2.1 hd rfl (kk p e R s m args below meth c H ls locs cells slots mc ms hE h1 h2 h3 h4 hf hz hR hL)
theorem jg_ladd {x y : Int64} (hd : decode M.2.1 pc = .ok (.ladd, 1))  (kk : jg Γ M d a b (pc + 1) L (.long (x + y) :: S) h Q) : jg Γ M d a b pc L (.long y :: .long x :: S) h Q := by
  intro p e R s m args below meth c H ls locs cells slots mc ms hE h1 h2 h3 h4 hf hz hR hL
  exact lv_ladd hE.1 hE.2.1 hd  (kk p e R s m args below meth c H ls locs cells slots mc ms hE h1 h2 h3 h4 hf hz hR hL)
theorem jg_lsub {x y : Int64} (hd : decode M.2.1 pc = .ok (.lsub, 1))  (kk : jg Γ M d a b (pc + 1) L (.long (x - y) :: S) h Q) : jg Γ M d a b pc L (.long y :: .long x :: S) h Q := by
  intro p e R s m args below meth c H ls locs cells slots mc ms hE h1 h2 h3 h4 hf hz hR hL
  exact lv_lsub hE.1 hE.2.1 hd  (kk p e R s m args below meth c H ls locs cells slots mc ms hE h1 h2 h3 h4 hf hz hR hL)
theorem jg_lmul {x y : Int64} (hd : decode M.2.1 pc = .ok (.lmul, 1))  (kk : jg Γ M d a b (pc + 1) L (.long (x * y) :: S) h Q) : jg Γ M d a b pc L (.long y :: .long x :: S) h Q := by
  intro p e R s m args below meth c H ls locs cells slots mc ms hE h1 h2 h3 h4 hf hz hR hL
  exact lv_lmul hE.1 hE.2.1 hd  (kk p e R s m args below meth c H ls locs cells slots mc ms hE h1 h2 h3 h4 hf hz hR hL)
theorem jg_ldiv {x y : Int64} (hd : decode M.2.1 pc = .ok (.ldiv, 1)) (hne : ¬ y = 0) (kk : jg Γ M d a b (pc + 1) L (.long (x / y) :: S) h Q) : jg Γ M d a b pc L (.long y :: .long x :: S) h Q := by
  intro p e R s m args below meth c H ls locs cells slots mc ms hE h1 h2 h3 h4 hf hz hR hL
  exact lv_ldiv hE.1 hE.2.1 hd hne (kk p e R s m args below meth c H ls locs cells slots mc ms hE h1 h2 h3 h4 hf hz hR hL)
theorem jg_lcmp {x y : Int64} (hd : decode M.2.1 pc = .ok (.lcmp, 1))  (kk : jg Γ M d a b (pc + 1) L (.int (lg_cmp x y) :: S) h Q) : jg Γ M d a b pc L (.long y :: .long x :: S) h Q := by
  intro p e R s m args below meth c H ls locs cells slots mc ms hE h1 h2 h3 h4 hf hz hR hL
  exact W.lcmp hE.1 hE.2.1 hd  (kk p e R s m args below meth c H ls locs cells slots mc ms hE h1 h2 h3 h4 hf hz hR hL)
theorem jg_i2l {x : Int32} (hd : decode M.2.1 pc = .ok (.i2l, 1))  (kk : jg Γ M d a b (pc + 1) L (.long x.toInt64 :: S) h Q) : jg Γ M d a b pc L (.int x :: S) h Q := by
  intro p e R s m args below meth c H ls locs cells slots mc ms hE h1 h2 h3 h4 hf hz hR hL
  exact lv_i2l hE.1 hE.2.1 hd rfl (kk p e R s m args below meth c H ls locs cells slots mc ms hE h1 h2 h3 h4 hf hz hR hL)
theorem jg_l2i {x : Int64} (hd : decode M.2.1 pc = .ok (.l2i, 1))  (kk : jg Γ M d a b (pc + 1) L (.int x.toInt32 :: S) h Q) : jg Γ M d a b pc L (.long x :: S) h Q := by
  intro p e R s m args below meth c H ls locs cells slots mc ms hE h1 h2 h3 h4 hf hz hR hL
  exact lv_l2i hE.1 hE.2.1 hd rfl (kk p e R s m args below meth c H ls locs cells slots mc ms hE h1 h2 h3 h4 hf hz hR hL)
theorem jg_i2b {x : Int32} (hd : decode M.2.1 pc = .ok (.i2b, 1))  (kk : jg Γ M d a b (pc + 1) L (.int x.toInt8.toInt32 :: S) h Q) : jg Γ M d a b pc L (.int x :: S) h Q := by
  intro p e R s m args below meth c H ls locs cells slots mc ms hE h1 h2 h3 h4 hf hz hR hL
  exact lv_i2b hE.1 hE.2.1 hd rfl (kk p e R s m args below meth c H ls locs cells slots mc ms hE h1 h2 h3 h4 hf hz hR hL)
theorem jg_i2c {x : Int32} (hd : decode M.2.1 pc = .ok (.i2c, 1))  (kk : jg Γ M d a b (pc + 1) L (.int (x.toUInt32 % 65536).toInt32 :: S) h Q) : jg Γ M d a b pc L (.int x :: S) h Q := by
  intro p e R s m args below meth c H ls locs cells slots mc ms hE h1 h2 h3 h4 hf hz hR hL
  exact lv_i2c hE.1 hE.2.1 hd rfl (kk p e R s m args below meth c H ls locs cells slots mc ms hE h1 h2 h3 h4 hf hz hR hL)
theorem jg_dup {va : Value} (hd : decode M.2.1 pc = .ok (.dup, 1)) (hva : va.category = 1) (kk : jg Γ M d a b (pc + 1) L (va :: va :: S) h Q) : jg Γ M d a b pc L (va :: S) h Q := by
  intro p e R s m args below meth c H ls locs cells slots mc ms hE h1 h2 h3 h4 hf hz hR hL
  exact lv_dup hE.1 hE.2.1 hd ((jg_v_cat Γ va).trans hva) (kk p e R s m args below meth c H ls locs cells slots mc ms hE h1 h2 h3 h4 hf hz hR hL)
theorem jg_pop {va : Value} (hd : decode M.2.1 pc = .ok (.pop, 1)) (hva : va.category = 1) (kk : jg Γ M d a b (pc + 1) L (S) h Q) : jg Γ M d a b pc L (va :: S) h Q := by
  intro p e R s m args below meth c H ls locs cells slots mc ms hE h1 h2 h3 h4 hf hz hR hL
  exact lv_pop hE.1 hE.2.1 hd ((jg_v_cat Γ va).trans hva) (kk p e R s m args below meth c H ls locs cells slots mc ms hE h1 h2 h3 h4 hf hz hR hL)
theorem jg_dup_x1 {va vb : Value} (hd : decode M.2.1 pc = .ok (.dup_x1, 1)) (hva : va.category = 1) (hvb : vb.category = 1) (kk : jg Γ M d a b (pc + 1) L (va :: vb :: va :: S) h Q) : jg Γ M d a b pc L (va :: vb :: S) h Q := by
  intro p e R s m args below meth c H ls locs cells slots mc ms hE h1 h2 h3 h4 hf hz hR hL
  exact lv_dup_x1 hE.1 hE.2.1 hd ((jg_v_cat Γ va).trans hva) ((jg_v_cat Γ vb).trans hvb) (kk p e R s m args below meth c H ls locs cells slots mc ms hE h1 h2 h3 h4 hf hz hR hL)
theorem jg_dup_x2 {va vb vc : Value} (hd : decode M.2.1 pc = .ok (.dup_x2, 1)) (hva : va.category = 1) (hvb : vb.category = 1) (hvc : vc.category = 1) (kk : jg Γ M d a b (pc + 1) L (va :: vb :: vc :: va :: S) h Q) : jg Γ M d a b pc L (va :: vb :: vc :: S) h Q := by
  intro p e R s m args below meth c H ls locs cells slots mc ms hE h1 h2 h3 h4 hf hz hR hL
  exact lv_dup_x2 hE.1 hE.2.1 hd ((jg_v_cat Γ va).trans hva) ((jg_v_cat Γ vb).trans hvb) ((jg_v_cat Γ vc).trans hvc) (kk p e R s m args below meth c H ls locs cells slots mc ms hE h1 h2 h3 h4 hf hz hR hL)
theorem jg_dup2 {va vb : Value} (hd : decode M.2.1 pc = .ok (.dup2, 1)) (hva : va.category = 1) (hvb : vb.category = 1) (kk : jg Γ M d a b (pc + 1) L (va :: vb :: va :: vb :: S) h Q) : jg Γ M d a b pc L (va :: vb :: S) h Q := by
  intro p e R s m args below meth c H ls locs cells slots mc ms hE h1 h2 h3 h4 hf hz hR hL
  exact lv_dup2_11 hE.1 hE.2.1 hd ((jg_v_cat Γ va).trans hva) ((jg_v_cat Γ vb).trans hvb) (kk p e R s m args below meth c H ls locs cells slots mc ms hE h1 h2 h3 h4 hf hz hR hL)
theorem jg_if_eq {x : Int32} {off : Int} {tgt : Nat} (hd : decode M.2.1 pc = .ok (.ifCond .eq off, 3)) (ht : (pc : Int) + off = (tgt : Int)) (kt : x = 0 → jg Γ M d a b tgt L S h Q) (kf : ¬ x = 0 → jg Γ M d a b (pc + 3) L S h Q) : jg Γ M d a b pc L (.int x :: S) h Q := by
  intro p e R s m args below meth c H ls locs cells slots mc ms hE h1 h2 h3 h4 hf hz hR hL
  exact lv_if_eq hE.1 hE.2.1 hd ht (fun q => kt q p e R s m args below meth c H ls locs cells slots mc ms hE h1 h2 h3 h4 hf hz hR hL) (fun q => kf q p e R s m args below meth c H ls locs cells slots mc ms hE h1 h2 h3 h4 hf hz hR hL)
theorem jg_if_ne {x : Int32} {off : Int} {tgt : Nat} (hd : decode M.2.1 pc = .ok (.ifCond .ne off, 3)) (ht : (pc : Int) + off = (tgt : Int)) (kt : ¬ x = 0 → jg Γ M d a b tgt L S h Q) (kf : x = 0 → jg Γ M d a b (pc + 3) L S h Q) : jg Γ M d a b pc L (.int x :: S) h Q := by
  intro p e R s m args below meth c H ls locs cells slots mc ms hE h1 h2 h3 h4 hf hz hR hL
  exact lv_if_ne hE.1 hE.2.1 hd ht (fun q => kt q p e R s m args below meth c H ls locs cells slots mc ms hE h1 h2 h3 h4 hf hz hR hL) (fun q => kf q p e R s m args below meth c H ls locs cells slots mc ms hE h1 h2 h3 h4 hf hz hR hL)
theorem jg_if_lt {x : Int32} {off : Int} {tgt : Nat} (hd : decode M.2.1 pc = .ok (.ifCond .lt off, 3)) (ht : (pc : Int) + off = (tgt : Int)) (kt : x < 0 → jg Γ M d a b tgt L S h Q) (kf : ¬ x < 0 → jg Γ M d a b (pc + 3) L S h Q) : jg Γ M d a b pc L (.int x :: S) h Q := by
  intro p e R s m args below meth c H ls locs cells slots mc ms hE h1 h2 h3 h4 hf hz hR hL
  exact lv_if_lt hE.1 hE.2.1 hd ht (fun q => kt q p e R s m args below meth c H ls locs cells slots mc ms hE h1 h2 h3 h4 hf hz hR hL) (fun q => kf q p e R s m args below meth c H ls locs cells slots mc ms hE h1 h2 h3 h4 hf hz hR hL)
theorem jg_if_ge {x : Int32} {off : Int} {tgt : Nat} (hd : decode M.2.1 pc = .ok (.ifCond .ge off, 3)) (ht : (pc : Int) + off = (tgt : Int)) (kt : 0 ≤ x → jg Γ M d a b tgt L S h Q) (kf : ¬ 0 ≤ x → jg Γ M d a b (pc + 3) L S h Q) : jg Γ M d a b pc L (.int x :: S) h Q := by
  intro p e R s m args below meth c H ls locs cells slots mc ms hE h1 h2 h3 h4 hf hz hR hL
  exact lv_if_ge hE.1 hE.2.1 hd ht (fun q => kt q p e R s m args below meth c H ls locs cells slots mc ms hE h1 h2 h3 h4 hf hz hR hL) (fun q => kf q p e R s m args below meth c H ls locs cells slots mc ms hE h1 h2 h3 h4 hf hz hR hL)
theorem jg_if_gt {x : Int32} {off : Int} {tgt : Nat} (hd : decode M.2.1 pc = .ok (.ifCond .gt off, 3)) (ht : (pc : Int) + off = (tgt : Int)) (kt : 0 < x → jg Γ M d a b tgt L S h Q) (kf : ¬ 0 < x → jg Γ M d a b (pc + 3) L S h Q) : jg Γ M d a b pc L (.int x :: S) h Q := by
  intro p e R s m args below meth c H ls locs cells slots mc ms hE h1 h2 h3 h4 hf hz hR hL
  exact lv_if_gt hE.1 hE.2.1 hd ht (fun q => kt q p e R s m args below meth c H ls locs cells slots mc ms hE h1 h2 h3 h4 hf hz hR hL) (fun q => kf q p e R s m args below meth c H ls locs cells slots mc ms hE h1 h2 h3 h4 hf hz hR hL)
theorem jg_if_le {x : Int32} {off : Int} {tgt : Nat} (hd : decode M.2.1 pc = .ok (.ifCond .le off, 3)) (ht : (pc : Int) + off = (tgt : Int)) (kt : x ≤ 0 → jg Γ M d a b tgt L S h Q) (kf : ¬ x ≤ 0 → jg Γ M d a b (pc + 3) L S h Q) : jg Γ M d a b pc L (.int x :: S) h Q := by
  intro p e R s m args below meth c H ls locs cells slots mc ms hE h1 h2 h3 h4 hf hz hR hL
  exact lv_if_le hE.1 hE.2.1 hd ht (fun q => kt q p e R s m args below meth c H ls locs cells slots mc ms hE h1 h2 h3 h4 hf hz hR hL) (fun q => kf q p e R s m args below meth c H ls locs cells slots mc ms hE h1 h2 h3 h4 hf hz hR hL)
theorem jg_icmp_eq {x y : Int32} {off : Int} {tgt : Nat} (hd : decode M.2.1 pc = .ok (.if_icmp .eq off, 3)) (ht : (pc : Int) + off = (tgt : Int)) (kt : x = y → jg Γ M d a b tgt L S h Q) (kf : ¬ x = y → jg Γ M d a b (pc + 3) L S h Q) : jg Γ M d a b pc L (.int y :: .int x :: S) h Q := by
  intro p e R s m args below meth c H ls locs cells slots mc ms hE h1 h2 h3 h4 hf hz hR hL
  exact lv_icmp_eq hE.1 hE.2.1 hd ht (fun q => kt q p e R s m args below meth c H ls locs cells slots mc ms hE h1 h2 h3 h4 hf hz hR hL) (fun q => kf q p e R s m args below meth c H ls locs cells slots mc ms hE h1 h2 h3 h4 hf hz hR hL)
theorem jg_icmp_ne {x y : Int32} {off : Int} {tgt : Nat} (hd : decode M.2.1 pc = .ok (.if_icmp .ne off, 3)) (ht : (pc : Int) + off = (tgt : Int)) (kt : ¬ x = y → jg Γ M d a b tgt L S h Q) (kf : x = y → jg Γ M d a b (pc + 3) L S h Q) : jg Γ M d a b pc L (.int y :: .int x :: S) h Q := by
  intro p e R s m args below meth c H ls locs cells slots mc ms hE h1 h2 h3 h4 hf hz hR hL
  exact lv_icmp_ne hE.1 hE.2.1 hd ht (fun q => kt q p e R s m args below meth c H ls locs cells slots mc ms hE h1 h2 h3 h4 hf hz hR hL) (fun q => kf q p e R s m args below meth c H ls locs cells slots mc ms hE h1 h2 h3 h4 hf hz hR hL)
theorem jg_icmp_lt {x y : Int32} {off : Int} {tgt : Nat} (hd : decode M.2.1 pc = .ok (.if_icmp .lt off, 3)) (ht : (pc : Int) + off = (tgt : Int)) (kt : x < y → jg Γ M d a b tgt L S h Q) (kf : ¬ x < y → jg Γ M d a b (pc + 3) L S h Q) : jg Γ M d a b pc L (.int y :: .int x :: S) h Q := by
  intro p e R s m args below meth c H ls locs cells slots mc ms hE h1 h2 h3 h4 hf hz hR hL
  exact lv_icmp_lt hE.1 hE.2.1 hd ht (fun q => kt q p e R s m args below meth c H ls locs cells slots mc ms hE h1 h2 h3 h4 hf hz hR hL) (fun q => kf q p e R s m args below meth c H ls locs cells slots mc ms hE h1 h2 h3 h4 hf hz hR hL)
theorem jg_icmp_ge {x y : Int32} {off : Int} {tgt : Nat} (hd : decode M.2.1 pc = .ok (.if_icmp .ge off, 3)) (ht : (pc : Int) + off = (tgt : Int)) (kt : y ≤ x → jg Γ M d a b tgt L S h Q) (kf : ¬ y ≤ x → jg Γ M d a b (pc + 3) L S h Q) : jg Γ M d a b pc L (.int y :: .int x :: S) h Q := by
  intro p e R s m args below meth c H ls locs cells slots mc ms hE h1 h2 h3 h4 hf hz hR hL
  exact lv_icmp_ge hE.1 hE.2.1 hd ht (fun q => kt q p e R s m args below meth c H ls locs cells slots mc ms hE h1 h2 h3 h4 hf hz hR hL) (fun q => kf q p e R s m args below meth c H ls locs cells slots mc ms hE h1 h2 h3 h4 hf hz hR hL)
theorem jg_icmp_gt {x y : Int32} {off : Int} {tgt : Nat} (hd : decode M.2.1 pc = .ok (.if_icmp .gt off, 3)) (ht : (pc : Int) + off = (tgt : Int)) (kt : y < x → jg Γ M d a b tgt L S h Q) (kf : ¬ y < x → jg Γ M d a b (pc + 3) L S h Q) : jg Γ M d a b pc L (.int y :: .int x :: S) h Q := by
  intro p e R s m args below meth c H ls locs cells slots mc ms hE h1 h2 h3 h4 hf hz hR hL
  exact lv_icmp_gt hE.1 hE.2.1 hd ht (fun q => kt q p e R s m args below meth c H ls locs cells slots mc ms hE h1 h2 h3 h4 hf hz hR hL) (fun q => kf q p e R s m args below meth c H ls locs cells slots mc ms hE h1 h2 h3 h4 hf hz hR hL)
theorem jg_icmp_le {x y : Int32} {off : Int} {tgt : Nat} (hd : decode M.2.1 pc = .ok (.if_icmp .le off, 3)) (ht : (pc : Int) + off = (tgt : Int)) (kt : x ≤ y → jg Γ M d a b tgt L S h Q) (kf : ¬ x ≤ y → jg Γ M d a b (pc + 3) L S h Q) : jg Γ M d a b pc L (.int y :: .int x :: S) h Q := by
  intro p e R s m args below meth c H ls locs cells slots mc ms hE h1 h2 h3 h4 hf hz hR hL
  exact lv_icmp_le hE.1 hE.2.1 hd ht (fun q => kt q p e R s m args below meth c H ls locs cells slots mc ms hE h1 h2 h3 h4 hf hz hR hL) (fun q => kf q p e R s m args below meth c H ls locs cells slots mc ms hE h1 h2 h3 h4 hf hz hR hL)
theorem jg_goto {off : Int} {tgt : Nat} (hd : decode M.2.1 pc = .ok (.goto off, 3)) (ht : (pc : Int) + off = (tgt : Int)) (kk : jg Γ M d a b tgt L S h Q) : jg Γ M d a b pc L (S) h Q := by
  intro p e R s m args below meth c H ls locs cells slots mc ms hE h1 h2 h3 h4 hf hz hR hL
  exact lv_goto hE.1 hE.2.1 hd ht (kk p e R s m args below meth c H ls locs cells slots mc ms hE h1 h2 h3 h4 hf hz hR hL)
theorem jg_ifnonnull {off : Int} {tgt x : Nat} (hd : decode M.2.1 pc = .ok (.ifnonnull off, 3)) (ht : (pc : Int) + off = (tgt : Int)) (kk : jg Γ M d a b tgt L S h Q) : jg Γ M d a b pc L (.ref x :: S) h Q := by
  intro p e R s m args below meth c H ls locs cells slots mc ms hE h1 h2 h3 h4 hf hz hR hL
  exact lv_ifnonnull hE.1 hE.2.1 hd ht (kk p e R s m args below meth c H ls locs cells slots mc ms hE h1 h2 h3 h4 hf hz hR hL)
theorem jg_ifnullN {off : Int} {tgt : Nat} (hd : decode M.2.1 pc = .ok (.ifnull off, 3)) (ht : (pc : Int) + off = (tgt : Int)) (kk : jg Γ M d a b tgt L S h Q) : jg Γ M d a b pc L (.null :: S) h Q := by
  intro p e R s m args below meth c H ls locs cells slots mc ms hE h1 h2 h3 h4 hf hz hR hL
  exact lv_ifnullN hE.1 hE.2.1 hd ht (kk p e R s m args below meth c H ls locs cells slots mc ms hE h1 h2 h3 h4 hf hz hR hL)
theorem jg_ifnull {off : Int} {x : Nat} (hd : decode M.2.1 pc = .ok (.ifnull off, 3))  (kk : jg Γ M d a b (pc + 3) L (S) h Q) : jg Γ M d a b pc L (.ref x :: S) h Q := by
  intro p e R s m args below meth c H ls locs cells slots mc ms hE h1 h2 h3 h4 hf hz hR hL
  exact lv_ifnull hE.1 hE.2.1 hd  (kk p e R s m args below meth c H ls locs cells slots mc ms hE h1 h2 h3 h4 hf hz hR hL)
theorem jg_ifnonnullN {off : Int} (hd : decode M.2.1 pc = .ok (.ifnonnull off, 3))  (kk : jg Γ M d a b (pc + 3) L (S) h Q) : jg Γ M d a b pc L (.null :: S) h Q := by
  intro p e R s m args below meth c H ls locs cells slots mc ms hE h1 h2 h3 h4 hf hz hR hL
  exact lv_ifnonnullN hE.1 hE.2.1 hd  (kk p e R s m args below meth c H ls locs cells slots mc ms hE h1 h2 h3 h4 hf hz hR hL)
theorem jg_tableOut {dflt lo hi : Int} {offs : Array Int} {len tgt : Nat} {x : Int32} (hd : decode M.2.1 pc = .ok (.tableswitch dflt lo hi offs, len)) (hx : x.toInt < lo ∨ hi < x.toInt) (ht : (pc : Int) + dflt = (tgt : Int)) (kk : jg Γ M d a b tgt L S h Q) : jg Γ M d a b pc L (.int x :: S) h Q := by
  intro p e R s m args below meth c H ls locs cells slots mc ms hE h1 h2 h3 h4 hf hz hR hL
  exact lv_tableOut hE.1 hE.2.1 hd hx ht (kk p e R s m args below meth c H ls locs cells slots mc ms hE h1 h2 h3 h4 hf hz hR hL)
theorem jg_tableIn {dflt lo hi off : Int} {offs : Array Int} {len tgt : Nat} {x : Int32} (hd : decode M.2.1 pc = .ok (.tableswitch dflt lo hi offs, len)) (hx1 : ¬ x.toInt < lo) (hx2 : ¬ hi < x.toInt) (ho : offs[(x.toInt - lo).toNat]? = some off) (ht : (pc : Int) + off = (tgt : Int)) (kk : jg Γ M d a b tgt L S h Q) : jg Γ M d a b pc L (.int x :: S) h Q := by
  intro p e R s m args below meth c H ls locs cells slots mc ms hE h1 h2 h3 h4 hf hz hR hL
  exact lv_tableIn hE.1 hE.2.1 hd hx1 hx2 ho ht (kk p e R s m args below meth c H ls locs cells slots mc ms hE h1 h2 h3 h4 hf hz hR hL)
theorem jg_lookup {dflt off : Int} {ps : Array (Int × Int)} {len tgt : Nat} {x : Int32} (hd : decode M.2.1 pc = .ok (.lookupswitch dflt ps, len)) (hp : (ps.toList.zip (ps.toList.drop 1)).all (fun (a, next) => a.1 < next.1) = true) (ho : Op.lookupswitch.offset ps.toList dflt x.toInt = off) (ht : (pc : Int) + off = (tgt : Int)) (kk : jg Γ M d a b tgt L S h Q) : jg Γ M d a b pc L (.int x :: S) h Q := by
  intro p e R s m args below meth c H ls locs cells slots mc ms hE h1 h2 h3 h4 hf hz hR hL
  exact lv_lookup hE.1 hE.2.1 hd hp ho ht (kk p e R s m args below meth c H ls locs cells slots mc ms hE h1 h2 h3 h4 hf hz hR hL)
/-- a computed number gets a name -/
theorem jg_topi {x : Int32} (kk : ∀ y : Int32, y = x → jg Γ M d a b pc L (.int y :: S) h Q) : jg Γ M d a b pc L (.int x :: S) h Q := kk x rfl
theorem jg_topl {x : Int64} (kk : ∀ y : Int64, y = x → jg Γ M d a b pc L (.long y :: S) h Q) : jg Γ M d a b pc L (.long x :: S) h Q := kk x rfl
/-- the same at another spelling -/
theorem jg_at_eq {pc' : Nat} {L' : List (Option Value)} {S' : List Value} {h' : jg_H} (kk : jg Γ M d a b pc' L' S' h' Q) (e1 : pc = pc') (e2 : L = L') (e3 : S = S') (e4 : h = h') : jg Γ M d a b pc L S h Q := by subst e1; subst e2; subst e3; subst e4; exact kk
end JGR
/-! the locals -/
def jg_lv (Γ : jg_G) (L : List (Option Value)) : List (Nat × Value) := L.zipIdx.filterMap (fun q => q.1.map (fun v => (q.2, jg_v Γ v)))
theorem jg_lv_mem {Γ : jg_G} {L : List (Option Value)} {i : Nat} {w : Value} : (i, w) ∈ jg_lv Γ L ↔ ∃ v, L[i]? = some (some v) ∧ w = jg_v Γ v := by
  unfold jg_lv
  rw [List.mem_filterMap]
  constructor
  · rintro ⟨⟨o, j⟩, hm, he⟩
    have h1 := List.mem_zipIdx_iff_getElem?.mp hm
    cases o with
    | none => simp at he
    | some v =>
      simp at he
      obtain ⟨e1, e2⟩ := he
      subst e1
      exact ⟨v, h1, e2.symm⟩
  · rintro ⟨v, h1, rfl⟩
    exact ⟨(some v, i), List.mem_zipIdx_iff_getElem?.mpr h1, by simp⟩
theorem jg_L.has {Γ : jg_G} {nL : Nat} {ls : Array Slot} {L : List (Option Value)} (hL : jg_L Γ nL ls L) : lv_has ls nL (jg_lv Γ L) := ⟨hL.1, hL.2.1, fun q hq => by
  obtain ⟨i, w⟩ := q
  obtain ⟨v, h1, rfl⟩ := jg_lv_mem.mp hq
  exact hL.2.2 i v h1⟩
/-- a long ahead of the place is gone -/
def jg_kl (L : List (Option Value)) (i : Nat) : List (Option Value) := match i with
  | 0 => L
  | j + 1 => match L[j]? with
    | some (some (.long _)) => L.set j none
    | some (some (.double _)) => L.set j none
    | _ => L
def jg_s1 (L : List (Option Value)) (i : Nat) (v : Value) : List (Option Value) := (jg_kl L i).set i (some v)
def jg_s2 (L : List (Option Value)) (i : Nat) (v : Value) : List (Option Value) := ((jg_kl L i).set i (some v)).set (i + 1) none
theorem jg_kl_get {L : List (Option Value)} {i j : Nat} {w : Value} (h : (jg_kl L i)[j]? = some (some w)) : L[j]? = some (some w) ∧ ¬ (j + 1 = i ∧ w.category = 2) := by
  unfold jg_kl at h
  cases i with
  | zero => exact ⟨h, fun q => by omega⟩
  | succ i =>
    by_cases hj : j = i
    · subst hj
      have hn : (L.set j none)[j]? ≠ some (some w) := by
        rw [List.getElem?_set]
        simp
      have key : ∀ x : Option (Option Value), L[j]? = x → L[j]? = some (some w) ∧ ¬ (j + 1 = j + 1 ∧ w.category = 2) := by
        intro x hx
        cases x with
        | none => simp [hx] at h
        | some y =>
          cases y with
          | none => simp [hx] at h
          | some v =>
            cases v <;> simp only [hx] at h <;> first
              | exact absurd h hn
              | (cases h; exact ⟨hx, fun q => by simp [Value.category] at q⟩)
      exact key _ rfl
    · refine ⟨?_, fun q => hj (by omega)⟩
      dsimp only at h
      revert h
      split
      · rw [List.getElem?_set_ne (fun q => hj q.symm)]; exact id
      · rw [List.getElem?_set_ne (fun q => hj q.symm)]; exact id
      · exact id
theorem jg_L.s1 {Γ : jg_G} {nL i : Nat} {ls ls' : Array Slot} {L : List (Option Value)} {v : Value} (hl : lv_has ls' nL ((i, jg_v Γ v) :: (jg_lv Γ L).filter (fun q => !(q.1 == i) && !(q.1 + 1 == i && q.2.category == 2)))) : jg_L Γ nL ls' (jg_s1 L i v) := by
  refine ⟨hl.1, hl.2.1, fun j w hj => ?_⟩
  unfold jg_s1 at hj
  by_cases e : j = i
  · subst e
    have hw : w = v := by
      rw [List.getElem?_set] at hj
      simp at hj
      exact hj.2.symm
    subst hw
    exact hl.2.2 (j, jg_v Γ w) List.mem_cons_self
  · rw [List.getElem?_set_ne (fun q => e q.symm)] at hj
    obtain ⟨h1, h2⟩ := jg_kl_get hj
    refine hl.2.2 (j, jg_v Γ w) (List.mem_cons_of_mem _ (List.mem_filter.mpr ⟨jg_lv_mem.mpr ⟨w, h1, rfl⟩, ?_⟩))
    simp only [Bool.and_eq_true, Bool.not_eq_true', beq_eq_false_iff_ne, ne_eq, Bool.and_eq_false_iff, jg_v_cat]
    refine ⟨e, ?_⟩
    by_cases e2 : j + 1 = i
    · exact Or.inr (fun q => h2 ⟨e2, q⟩)
    · exact Or.inl e2
theorem jg_L.s2 {Γ : jg_G} {nL i : Nat} {ls ls' : Array Slot} {L : List (Option Value)} {v : Value} (hl : lv_has ls' nL ((i, jg_v Γ v) :: (jg_lv Γ L).filter (fun q => !(q.1 == i) && (!(q.1 == i + 1) && !(q.1 + 1 == i && q.2.category == 2))))) : jg_L Γ nL ls' (jg_s2 L i v) := by
  refine ⟨hl.1, hl.2.1, fun j w hj => ?_⟩
  unfold jg_s2 at hj
  by_cases e0 : j = i + 1
  · subst e0
    rw [List.getElem?_set] at hj
    simp at hj
  · rw [List.getElem?_set_ne (fun q => e0 q.symm)] at hj
    by_cases e : j = i
    · subst e
      have hw : w = v := by
        rw [List.getElem?_set] at hj
        simp at hj
        exact hj.2.symm
      subst hw
      exact hl.2.2 (j, jg_v Γ w) List.mem_cons_self
    · rw [List.getElem?_set_ne (fun q => e q.symm)] at hj
      obtain ⟨h1, h2⟩ := jg_kl_get hj
      refine hl.2.2 (j, jg_v Γ w) (List.mem_cons_of_mem _ (List.mem_filter.mpr ⟨jg_lv_mem.mpr ⟨w, h1, rfl⟩, ?_⟩))
      simp only [Bool.and_eq_true, Bool.not_eq_true', beq_eq_false_iff_ne, ne_eq, Bool.and_eq_false_iff, jg_v_cat]
      refine ⟨e, e0, ?_⟩
      by_cases e2 : j + 1 = i
      · exact Or.inr (fun q => h2 ⟨e2, q⟩)
      · exact Or.inl e2
section JGS
variable {Γ : jg_G} {M : jg_Md} {d a b pc : Nat} {L L' : List (Option Value)} {S : List Value} {h : jg_H} {Q : jg_Q}
theorem jg_istore_n {k : Fin 4} {x : Int32} (hd : decode M.2.1 pc = .ok (.istore_n k, 1)) (hn : (k : Nat) < M.2.2.1) (hl : jg_s1 L (k : Nat) (.int x) = L') (kk : jg Γ M d a b (pc + 1) L' S h Q) : jg Γ M d a b pc L (.int x :: S) h Q := by
  intro p e R s m args below meth c H ls locs cells slots mc ms hE h1 h2 h3 h4 hf hz hR hL
  exact lv_istore_n hE.1 hE.2.1 hd rfl hL.has hn rfl (fun ls hl9 => kk p e R s m args below meth c H ls locs cells slots mc ms hE h1 h2 h3 h4 hf hz hR (hl ▸ jg_L.s1 (v := .int x) (ls := ls) hl9))
theorem jg_istore {i : Nat} {x : Int32} (hd : decode M.2.1 pc = .ok (.istore i, 2)) (hn : i < M.2.2.1) (hl : jg_s1 L i (.int x) = L') (kk : jg Γ M d a b (pc + 2) L' S h Q) : jg Γ M d a b pc L (.int x :: S) h Q := by
  intro p e R s m args below meth c H ls locs cells slots mc ms hE h1 h2 h3 h4 hf hz hR hL
  exact lv_istore hE.1 hE.2.1 hd  hL.has hn rfl (fun ls hl9 => kk p e R s m args below meth c H ls locs cells slots mc ms hE h1 h2 h3 h4 hf hz hR (hl ▸ jg_L.s1 (v := .int x) (ls := ls) hl9))
theorem jg_lstore_n {k : Fin 4} {x : Int64} (hd : decode M.2.1 pc = .ok (.lstore_n k, 1)) (hn : (k : Nat) + 1 < M.2.2.1) (hl : jg_s2 L (k : Nat) (.long x) = L') (kk : jg Γ M d a b (pc + 1) L' S h Q) : jg Γ M d a b pc L (.long x :: S) h Q := by
  intro p e R s m args below meth c H ls locs cells slots mc ms hE h1 h2 h3 h4 hf hz hR hL
  exact lv_lstore_n hE.1 hE.2.1 hd rfl hL.has hn rfl (fun ls hl9 => kk p e R s m args below meth c H ls locs cells slots mc ms hE h1 h2 h3 h4 hf hz hR (hl ▸ jg_L.s2 (v := .long x) (ls := ls) hl9))
theorem jg_lstore {i : Nat} {x : Int64} (hd : decode M.2.1 pc = .ok (.lstore i, 2)) (hn : i + 1 < M.2.2.1) (hl : jg_s2 L i (.long x) = L') (kk : jg Γ M d a b (pc + 2) L' S h Q) : jg Γ M d a b pc L (.long x :: S) h Q := by
  intro p e R s m args below meth c H ls locs cells slots mc ms hE h1 h2 h3 h4 hf hz hR hL
  exact lv_lstore hE.1 hE.2.1 hd  hL.has hn rfl (fun ls hl9 => kk p e R s m args below meth c H ls locs cells slots mc ms hE h1 h2 h3 h4 hf hz hR (hl ▸ jg_L.s2 (v := .long x) (ls := ls) hl9))
theorem jg_astore_n {k : Fin 4} {x : Nat} (hd : decode M.2.1 pc = .ok (.astore_n k, 1)) (hn : (k : Nat) < M.2.2.1) (hl : jg_s1 L (k : Nat) (.ref x) = L') (kk : jg Γ M d a b (pc + 1) L' S h Q) : jg Γ M d a b pc L (.ref x :: S) h Q := by
  intro p e R s m args below meth c H ls locs cells slots mc ms hE h1 h2 h3 h4 hf hz hR hL
  exact lv_astore_n hE.1 hE.2.1 hd rfl hL.has hn rfl (fun ls hl9 => kk p e R s m args below meth c H ls locs cells slots mc ms hE h1 h2 h3 h4 hf hz hR (hl ▸ jg_L.s1 (v := .ref x) (ls := ls) hl9))
theorem jg_astore {i x : Nat} (hd : decode M.2.1 pc = .ok (.astore i, 2)) (hn : i < M.2.2.1) (hl : jg_s1 L i (.ref x) = L') (kk : jg Γ M d a b (pc + 2) L' S h Q) : jg Γ M d a b pc L (.ref x :: S) h Q := by
  intro p e R s m args below meth c H ls locs cells slots mc ms hE h1 h2 h3 h4 hf hz hR hL
  exact lv_astore hE.1 hE.2.1 hd  hL.has hn rfl (fun ls hl9 => kk p e R s m args below meth c H ls locs cells slots mc ms hE h1 h2 h3 h4 hf hz hR (hl ▸ jg_L.s1 (v := .ref x) (ls := ls) hl9))
theorem jg_astore_nN {k : Fin 4} (hd : decode M.2.1 pc = .ok (.astore_n k, 1)) (hn : (k : Nat) < M.2.2.1) (hl : jg_s1 L (k : Nat) (.null) = L') (kk : jg Γ M d a b (pc + 1) L' S h Q) : jg Γ M d a b pc L (.null :: S) h Q := by
  intro p e R s m args below meth c H ls locs cells slots mc ms hE h1 h2 h3 h4 hf hz hR hL
  exact lv_astore_nN hE.1 hE.2.1 hd rfl hL.has hn rfl (fun ls hl9 => kk p e R s m args below meth c H ls locs cells slots mc ms hE h1 h2 h3 h4 hf hz hR (hl ▸ jg_L.s1 (v := .null) (ls := ls) hl9))
theorem jg_astoreN {i : Nat} (hd : decode M.2.1 pc = .ok (.astore i, 2)) (hn : i < M.2.2.1) (hl : jg_s1 L i (.null) = L') (kk : jg Γ M d a b (pc + 2) L' S h Q) : jg Γ M d a b pc L (.null :: S) h Q := by
  intro p e R s m args below meth c H ls locs cells slots mc ms hE h1 h2 h3 h4 hf hz hR hL
  exact lv_astoreN hE.1 hE.2.1 hd  hL.has hn rfl (fun ls hl9 => kk p e R s m args below meth c H ls locs cells slots mc ms hE h1 h2 h3 h4 hf hz hR (hl ▸ jg_L.s1 (v := .null) (ls := ls) hl9))
theorem jg_iinc {i : Nat} {n : Int} {x v : Int32} (hd : decode M.2.1 pc = .ok (.iinc i n, 3)) (hx : L[i]? = some (some (.int x))) (hv : x + Int32.ofInt n = v) (hn : i < M.2.2.1) (hl : jg_s1 L i (.int v) = L') (kk : jg Γ M d a b (pc + 3) L' S h Q) : jg Γ M d a b pc L S h Q := by
  intro p e R s m args below meth c H ls locs cells slots mc ms hE h1 h2 h3 h4 hf hz hR hL
  obtain ⟨k, hk⟩ := List.getElem?_of_mem (jg_lv_mem (Γ := Γ).mpr ⟨.int x, hx, rfl⟩)
  exact lv_iinc hE.1 hE.2.1 hd hL.has hk hv hn rfl (fun ls hl9 => kk p e R s m args below meth c H ls locs cells slots mc ms hE h1 h2 h3 h4 hf hz hR (hl ▸ jg_L.s1 (v := .int v) (ls := ls) hl9))
end JGS
