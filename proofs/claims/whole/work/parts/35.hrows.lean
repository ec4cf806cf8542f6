/-! THE LAW AND ITS WRAPPERS: a judgement of methods with handlers (by program wip/whole/hrows.py) -/
/-- the handlers; the script: its length, its numbers -/
abbrev jh_T : Type := List (Nat × Nat × Nat × Nat) × Nat × (Nat → Int32)
/-- none of the five exceptions is another -/
def jh_N (s : State) : Prop := ∀ i j : Nat, i < 5 → j < 5 → i ≠ j → va_Nc (exn i) (exn j) s
theorem jh_N.moved {u U : State} (hvm : u.vm.Alike U.vm) (h : jh_N u) : jh_N U := fun i j hi hj hn => (h i j hi hj hn).moved hvm
def jh_E (Γ : jg_G) (M : jg_Md) (hh : jh_T) (d : Nat) (p : Program) (R : Room) (s : State) (m : MethodId) (args : Array Value) (meth : Method) (c : Code) : Prop :=
  p.tables.exec = Jvm.exec ∧ c.code = M.2.1 ∧ meth.sig.returnType = M.2.2.2 ∧ c.maxLocals = M.2.2.1 ∧ s.vm.findClass M.1.cls = some m.cls ∧ (∀ w ∈ jg_ws, w.before args s = true) ∧ meth.locks = false ∧ meth.name = M.1.name ∧ d ≤ R.frames ∧ 64 * d ≤ R.locals ∧ jg_U Γ s ∧ (c.exceptionTable.toList.map (fun h => (h.startPc, h.endPc, h.handlerPc, h.catchType)) = hh.1 ∧ jh_N s ∧ va_X (jg_x Γ 500) hh.2.1 hh.2.2 s (jg_H0 Γ) ∧ jg_x Γ 500 < jg_z Γ) ∧ jg_z Γ ≤ s.heap.size ∧ ∀ q : Nat, q < jg_z Γ → s.heap[q]? = (jg_H0 Γ)[q]?
def jh (Γ : jg_G) (M : jg_Md) (hh : jh_T) (d a b pc : Nat) (L : List (Option Value)) (S : List Value) (h : jg_H) (Q : jg_Q) : Prop :=
  ∀ (p : Program) (e : Env) (R : Room) (s : State) (m : MethodId) (args : Array Value) (below : List Frame) (meth : Method) (c : Code) (H : Heap) (ls : Array Slot) (locs : List Loc) (cells slots mc ms : Nat),
    jh_E Γ M hh d p R s m args meth c → cells + a ≤ mc → slots + b ≤ ms → mc ≤ R.cells → ms ≤ R.slots → (∀ q ∈ locs, jg_z Γ ≤ q.base) → s.heap.size ≤ H.size → jg_R Γ h H → jg_L Γ M.2.2.1 ls L →
    W p (jg_l Γ) e R s m args below meth c H locs cells slots (vx_MQ below (jg_Qc Γ Q) (jg_Xc Γ Q) args s mc ms (fun q => jg_z Γ ≤ q)) (F0 m pc ls (S.map (jg_v Γ)))
section JHR
variable {Γ : jg_G} {M M' : jg_Md} {hh : jh_T} {d d' a b a' b' pc : Nat} {L L' : List (Option Value)} {S : List Value} {h : jg_H} {Q Q' : jg_Q}
theorem jh_iconst {n : Int} {v : Int32} (hd : decode M.2.1 pc = .ok (.iconst n, 1)) (hv : Int32.ofInt n = v) (kk : jh Γ M hh d a b (pc + 1) L (.int v :: S) h Q) : jh Γ M hh d a b pc L (S) h Q := by
  intro p e R s m args below meth c H ls locs cells slots mc ms hE h1 h2 h3 h4 hf hz hR hL
  exact lv_iconst hE.1 hE.2.1 hd hv (kk p e R s m args below meth c H ls locs cells slots mc ms hE h1 h2 h3 h4 hf hz hR hL)
theorem jh_bipush {n : Int} {v : Int32} (hd : decode M.2.1 pc = .ok (.bipush n, 2)) (hv : (Int8.ofInt n).toInt32 = v) (kk : jh Γ M hh d a b (pc + 2) L (.int v :: S) h Q) : jh Γ M hh d a b pc L (S) h Q := by
  intro p e R s m args below meth c H ls locs cells slots mc ms hE h1 h2 h3 h4 hf hz hR hL
  exact lv_bipush hE.1 hE.2.1 hd hv (kk p e R s m args below meth c H ls locs cells slots mc ms hE h1 h2 h3 h4 hf hz hR hL)
theorem jh_sipush {n : Int} {v : Int32} (hd : decode M.2.1 pc = .ok (.sipush n, 3)) (hv : (Int16.ofInt n).toInt32 = v) (kk : jh Γ M hh d a b (pc + 3) L (.int v :: S) h Q) : jh Γ M hh d a b pc L (S) h Q := by
  intro p e R s m args below meth c H ls locs cells slots mc ms hE h1 h2 h3 h4 hf hz hR hL
  exact lv_sipush hE.1 hE.2.1 hd hv (kk p e R s m args below meth c H ls locs cells slots mc ms hE h1 h2 h3 h4 hf hz hR hL)
theorem jh_lconst {n : Fin 2} {v : Int64} (hd : decode M.2.1 pc = .ok (.lconst n, 1)) (hv : Int64.ofNat (n : Nat) = v) (kk : jh Γ M hh d a b (pc + 1) L (.long v :: S) h Q) : jh Γ M hh d a b pc L (S) h Q := by
  intro p e R s m args below meth c H ls locs cells slots mc ms hE h1 h2 h3 h4 hf hz hR hL
  exact lv_lconst hE.1 hE.2.1 hd hv (kk p e R s m args below meth c H ls locs cells slots mc ms hE h1 h2 h3 h4 hf hz hR hL)
theorem jh_iload_n {k : Fin 4} {x : Int32} (hd : decode M.2.1 pc = .ok (.iload_n k, 1)) (hl : L[(k : Nat)]? = some (some (.int x))) (kk : jh Γ M hh d a b (pc + 1) L (.int x :: S) h Q) : jh Γ M hh d a b pc L (S) h Q := by
  intro p e R s m args below meth c H ls locs cells slots mc ms hE h1 h2 h3 h4 hf hz hR hL
  exact lv_iload_n hE.1 hE.2.1 hd rfl (hL.2.2 _ _ hl) (kk p e R s m args below meth c H ls locs cells slots mc ms hE h1 h2 h3 h4 hf hz hR hL)
theorem jh_iload {i : Nat} {x : Int32} (hd : decode M.2.1 pc = .ok (.iload i, 2)) (hl : L[i]? = some (some (.int x))) (kk : jh Γ M hh d a b (pc + 2) L (.int x :: S) h Q) : jh Γ M hh d a b pc L (S) h Q := by
  intro p e R s m args below meth c H ls locs cells slots mc ms hE h1 h2 h3 h4 hf hz hR hL
  exact lv_iload hE.1 hE.2.1 hd (hL.2.2 _ _ hl) (kk p e R s m args below meth c H ls locs cells slots mc ms hE h1 h2 h3 h4 hf hz hR hL)
theorem jh_aload_n {k : Fin 4} {x : Nat} (hd : decode M.2.1 pc = .ok (.aload_n k, 1)) (hl : L[(k : Nat)]? = some (some (.ref x))) (kk : jh Γ M hh d a b (pc + 1) L (.ref x :: S) h Q) : jh Γ M hh d a b pc L (S) h Q := by
  intro p e R s m args below meth c H ls locs cells slots mc ms hE h1 h2 h3 h4 hf hz hR hL
  exact lv_aload_n hE.1 hE.2.1 hd rfl (hL.2.2 _ _ hl) (kk p e R s m args below meth c H ls locs cells slots mc ms hE h1 h2 h3 h4 hf hz hR hL)
theorem jh_aload {i x : Nat} (hd : decode M.2.1 pc = .ok (.aload i, 2)) (hl : L[i]? = some (some (.ref x))) (kk : jh Γ M hh d a b (pc + 2) L (.ref x :: S) h Q) : jh Γ M hh d a b pc L (S) h Q := by
  intro p e R s m args below meth c H ls locs cells slots mc ms hE h1 h2 h3 h4 hf hz hR hL
  exact lv_aload hE.1 hE.2.1 hd (hL.2.2 _ _ hl) (kk p e R s m args below meth c H ls locs cells slots mc ms hE h1 h2 h3 h4 hf hz hR hL)
theorem jh_istore_n {k : Fin 4} {x : Int32} (hd : decode M.2.1 pc = .ok (.istore_n k, 1)) (hn : (k : Nat) < M.2.2.1) (hl : jg_s1 L (k : Nat) (.int x) = L') (kk : jh Γ M hh d a b (pc + 1) L' S h Q) : jh Γ M hh d a b pc L (.int x :: S) h Q := by
  intro p e R s m args below meth c H ls locs cells slots mc ms hE h1 h2 h3 h4 hf hz hR hL
  exact lv_istore_n hE.1 hE.2.1 hd rfl hL.has hn rfl (fun ls hl9 => kk p e R s m args below meth c H ls locs cells slots mc ms hE h1 h2 h3 h4 hf hz hR (hl ▸ jg_L.s1 (v := .int x) (ls := ls) hl9))
theorem jh_istore {i : Nat} {x : Int32} (hd : decode M.2.1 pc = .ok (.istore i, 2)) (hn : i < M.2.2.1) (hl : jg_s1 L i (.int x) = L') (kk : jh Γ M hh d a b (pc + 2) L' S h Q) : jh Γ M hh d a b pc L (.int x :: S) h Q := by
  intro p e R s m args below meth c H ls locs cells slots mc ms hE h1 h2 h3 h4 hf hz hR hL
  exact lv_istore hE.1 hE.2.1 hd  hL.has hn rfl (fun ls hl9 => kk p e R s m args below meth c H ls locs cells slots mc ms hE h1 h2 h3 h4 hf hz hR (hl ▸ jg_L.s1 (v := .int x) (ls := ls) hl9))
theorem jh_astore_n {k : Fin 4} {x : Nat} (hd : decode M.2.1 pc = .ok (.astore_n k, 1)) (hn : (k : Nat) < M.2.2.1) (hl : jg_s1 L (k : Nat) (.ref x) = L') (kk : jh Γ M hh d a b (pc + 1) L' S h Q) : jh Γ M hh d a b pc L (.ref x :: S) h Q := by
  intro p e R s m args below meth c H ls locs cells slots mc ms hE h1 h2 h3 h4 hf hz hR hL
  exact lv_astore_n hE.1 hE.2.1 hd rfl hL.has hn rfl (fun ls hl9 => kk p e R s m args below meth c H ls locs cells slots mc ms hE h1 h2 h3 h4 hf hz hR (hl ▸ jg_L.s1 (v := .ref x) (ls := ls) hl9))
theorem jh_astore {i x : Nat} (hd : decode M.2.1 pc = .ok (.astore i, 2)) (hn : i < M.2.2.1) (hl : jg_s1 L i (.ref x) = L') (kk : jh Γ M hh d a b (pc + 2) L' S h Q) : jh Γ M hh d a b pc L (.ref x :: S) h Q := by
  intro p e R s m args below meth c H ls locs cells slots mc ms hE h1 h2 h3 h4 hf hz hR hL
  exact lv_astore hE.1 hE.2.1 hd  hL.has hn rfl (fun ls hl9 => kk p e R s m args below meth c H ls locs cells slots mc ms hE h1 h2 h3 h4 hf hz hR (hl ▸ jg_L.s1 (v := .ref x) (ls := ls) hl9))
theorem jh_iinc {i : Nat} {n : Int} {x v : Int32} (hd : decode M.2.1 pc = .ok (.iinc i n, 3)) (hx : L[i]? = some (some (.int x))) (hv : x + Int32.ofInt n = v) (hn : i < M.2.2.1) (hl : jg_s1 L i (.int v) = L') (kk : jh Γ M hh d a b (pc + 3) L' S h Q) : jh Γ M hh d a b pc L S h Q := by
  intro p e R s m args below meth c H ls locs cells slots mc ms hE h1 h2 h3 h4 hf hz hR hL
  obtain ⟨k, hk⟩ := List.getElem?_of_mem (jg_lv_mem (Γ := Γ).mpr ⟨.int x, hx, rfl⟩)
  exact lv_iinc hE.1 hE.2.1 hd hL.has hk hv hn rfl (fun ls hl9 => kk p e R s m args below meth c H ls locs cells slots mc ms hE h1 h2 h3 h4 hf hz hR (hl ▸ jg_L.s1 (v := .int v) (ls := ls) hl9))
theorem jh_dup {va : Value} (hd : decode M.2.1 pc = .ok (.dup, 1)) (hva : va.category = 1) (kk : jh Γ M hh d a b (pc + 1) L (va :: va :: S) h Q) : jh Γ M hh d a b pc L (va :: S) h Q := by
  intro p e R s m args below meth c H ls locs cells slots mc ms hE h1 h2 h3 h4 hf hz hR hL
  exact lv_dup hE.1 hE.2.1 hd ((jg_v_cat Γ va).trans hva) (kk p e R s m args below meth c H ls locs cells slots mc ms hE h1 h2 h3 h4 hf hz hR hL)
theorem jh_pop {va : Value} (hd : decode M.2.1 pc = .ok (.pop, 1)) (hva : va.category = 1) (kk : jh Γ M hh d a b (pc + 1) L (S) h Q) : jh Γ M hh d a b pc L (va :: S) h Q := by
  intro p e R s m args below meth c H ls locs cells slots mc ms hE h1 h2 h3 h4 hf hz hR hL
  exact lv_pop hE.1 hE.2.1 hd ((jg_v_cat Γ va).trans hva) (kk p e R s m args below meth c H ls locs cells slots mc ms hE h1 h2 h3 h4 hf hz hR hL)
theorem jh_goto {off : Int} {tgt : Nat} (hd : decode M.2.1 pc = .ok (.goto off, 3)) (ht : (pc : Int) + off = (tgt : Int)) (kk : jh Γ M hh d a b tgt L S h Q) : jh Γ M hh d a b pc L (S) h Q := by
  intro p e R s m args below meth c H ls locs cells slots mc ms hE h1 h2 h3 h4 hf hz hR hL
  exact lv_goto hE.1 hE.2.1 hd ht (kk p e R s m args below meth c H ls locs cells slots mc ms hE h1 h2 h3 h4 hf hz hR hL)
theorem jh_if_eq {x : Int32} {off : Int} {tgt : Nat} (hd : decode M.2.1 pc = .ok (.ifCond .eq off, 3)) (ht : (pc : Int) + off = (tgt : Int)) (kt : x = 0 → jh Γ M hh d a b tgt L S h Q) (kf : ¬ x = 0 → jh Γ M hh d a b (pc + 3) L S h Q) : jh Γ M hh d a b pc L (.int x :: S) h Q := by
  intro p e R s m args below meth c H ls locs cells slots mc ms hE h1 h2 h3 h4 hf hz hR hL
  exact lv_if_eq hE.1 hE.2.1 hd ht (fun q => kt q p e R s m args below meth c H ls locs cells slots mc ms hE h1 h2 h3 h4 hf hz hR hL) (fun q => kf q p e R s m args below meth c H ls locs cells slots mc ms hE h1 h2 h3 h4 hf hz hR hL)
theorem jh_if_ne {x : Int32} {off : Int} {tgt : Nat} (hd : decode M.2.1 pc = .ok (.ifCond .ne off, 3)) (ht : (pc : Int) + off = (tgt : Int)) (kt : ¬ x = 0 → jh Γ M hh d a b tgt L S h Q) (kf : x = 0 → jh Γ M hh d a b (pc + 3) L S h Q) : jh Γ M hh d a b pc L (.int x :: S) h Q := by
  intro p e R s m args below meth c H ls locs cells slots mc ms hE h1 h2 h3 h4 hf hz hR hL
  exact lv_if_ne hE.1 hE.2.1 hd ht (fun q => kt q p e R s m args below meth c H ls locs cells slots mc ms hE h1 h2 h3 h4 hf hz hR hL) (fun q => kf q p e R s m args below meth c H ls locs cells slots mc ms hE h1 h2 h3 h4 hf hz hR hL)
theorem jh_icmp_eq {x y : Int32} {off : Int} {tgt : Nat} (hd : decode M.2.1 pc = .ok (.if_icmp .eq off, 3)) (ht : (pc : Int) + off = (tgt : Int)) (kt : x = y → jh Γ M hh d a b tgt L S h Q) (kf : ¬ x = y → jh Γ M hh d a b (pc + 3) L S h Q) : jh Γ M hh d a b pc L (.int y :: .int x :: S) h Q := by
  intro p e R s m args below meth c H ls locs cells slots mc ms hE h1 h2 h3 h4 hf hz hR hL
  exact lv_icmp_eq hE.1 hE.2.1 hd ht (fun q => kt q p e R s m args below meth c H ls locs cells slots mc ms hE h1 h2 h3 h4 hf hz hR hL) (fun q => kf q p e R s m args below meth c H ls locs cells slots mc ms hE h1 h2 h3 h4 hf hz hR hL)
theorem jh_icmp_ne {x y : Int32} {off : Int} {tgt : Nat} (hd : decode M.2.1 pc = .ok (.if_icmp .ne off, 3)) (ht : (pc : Int) + off = (tgt : Int)) (kt : ¬ x = y → jh Γ M hh d a b tgt L S h Q) (kf : x = y → jh Γ M hh d a b (pc + 3) L S h Q) : jh Γ M hh d a b pc L (.int y :: .int x :: S) h Q := by
  intro p e R s m args below meth c H ls locs cells slots mc ms hE h1 h2 h3 h4 hf hz hR hL
  exact lv_icmp_ne hE.1 hE.2.1 hd ht (fun q => kt q p e R s m args below meth c H ls locs cells slots mc ms hE h1 h2 h3 h4 hf hz hR hL) (fun q => kf q p e R s m args below meth c H ls locs cells slots mc ms hE h1 h2 h3 h4 hf hz hR hL)
theorem jh_icmp_lt {x y : Int32} {off : Int} {tgt : Nat} (hd : decode M.2.1 pc = .ok (.if_icmp .lt off, 3)) (ht : (pc : Int) + off = (tgt : Int)) (kt : x < y → jh Γ M hh d a b tgt L S h Q) (kf : ¬ x < y → jh Γ M hh d a b (pc + 3) L S h Q) : jh Γ M hh d a b pc L (.int y :: .int x :: S) h Q := by
  intro p e R s m args below meth c H ls locs cells slots mc ms hE h1 h2 h3 h4 hf hz hR hL
  exact lv_icmp_lt hE.1 hE.2.1 hd ht (fun q => kt q p e R s m args below meth c H ls locs cells slots mc ms hE h1 h2 h3 h4 hf hz hR hL) (fun q => kf q p e R s m args below meth c H ls locs cells slots mc ms hE h1 h2 h3 h4 hf hz hR hL)
theorem jh_icmp_ge {x y : Int32} {off : Int} {tgt : Nat} (hd : decode M.2.1 pc = .ok (.if_icmp .ge off, 3)) (ht : (pc : Int) + off = (tgt : Int)) (kt : y ≤ x → jh Γ M hh d a b tgt L S h Q) (kf : ¬ y ≤ x → jh Γ M hh d a b (pc + 3) L S h Q) : jh Γ M hh d a b pc L (.int y :: .int x :: S) h Q := by
  intro p e R s m args below meth c H ls locs cells slots mc ms hE h1 h2 h3 h4 hf hz hR hL
  exact lv_icmp_ge hE.1 hE.2.1 hd ht (fun q => kt q p e R s m args below meth c H ls locs cells slots mc ms hE h1 h2 h3 h4 hf hz hR hL) (fun q => kf q p e R s m args below meth c H ls locs cells slots mc ms hE h1 h2 h3 h4 hf hz hR hL)
theorem jh_icmp_gt {x y : Int32} {off : Int} {tgt : Nat} (hd : decode M.2.1 pc = .ok (.if_icmp .gt off, 3)) (ht : (pc : Int) + off = (tgt : Int)) (kt : y < x → jh Γ M hh d a b tgt L S h Q) (kf : ¬ y < x → jh Γ M hh d a b (pc + 3) L S h Q) : jh Γ M hh d a b pc L (.int y :: .int x :: S) h Q := by
  intro p e R s m args below meth c H ls locs cells slots mc ms hE h1 h2 h3 h4 hf hz hR hL
  exact lv_icmp_gt hE.1 hE.2.1 hd ht (fun q => kt q p e R s m args below meth c H ls locs cells slots mc ms hE h1 h2 h3 h4 hf hz hR hL) (fun q => kf q p e R s m args below meth c H ls locs cells slots mc ms hE h1 h2 h3 h4 hf hz hR hL)
theorem jh_icmp_le {x y : Int32} {off : Int} {tgt : Nat} (hd : decode M.2.1 pc = .ok (.if_icmp .le off, 3)) (ht : (pc : Int) + off = (tgt : Int)) (kt : x ≤ y → jh Γ M hh d a b tgt L S h Q) (kf : ¬ x ≤ y → jh Γ M hh d a b (pc + 3) L S h Q) : jh Γ M hh d a b pc L (.int y :: .int x :: S) h Q := by
  intro p e R s m args below meth c H ls locs cells slots mc ms hE h1 h2 h3 h4 hf hz hR hL
  exact lv_icmp_le hE.1 hE.2.1 hd ht (fun q => kt q p e R s m args below meth c H ls locs cells slots mc ms hE h1 h2 h3 h4 hf hz hR hL) (fun q => kf q p e R s m args below meth c H ls locs cells slots mc ms hE h1 h2 h3 h4 hf hz hR hL)
theorem jh_isub {x y : Int32} (hd : decode M.2.1 pc = .ok (.isub, 1))  (kk : jh Γ M hh d a b (pc + 1) L (.int (x - y) :: S) h Q) : jh Γ M hh d a b pc L (.int y :: .int x :: S) h Q := by
  intro p e R s m args below meth c H ls locs cells slots mc ms hE h1 h2 h3 h4 hf hz hR hL
  exact lv_isub hE.1 hE.2.1 hd  (kk p e R s m args below meth c H ls locs cells slots mc ms hE h1 h2 h3 h4 hf hz hR hL)
theorem jh_iadd {x y : Int32} (hd : decode M.2.1 pc = .ok (.iadd, 1))  (kk : jh Γ M hh d a b (pc + 1) L (.int (x + y) :: S) h Q) : jh Γ M hh d a b pc L (.int y :: .int x :: S) h Q := by
  intro p e R s m args below meth c H ls locs cells slots mc ms hE h1 h2 h3 h4 hf hz hR hL
  exact lv_iadd hE.1 hE.2.1 hd  (kk p e R s m args below meth c H ls locs cells slots mc ms hE h1 h2 h3 h4 hf hz hR hL)
theorem jh_iand {x y : Int32} (hd : decode M.2.1 pc = .ok (.iand, 1))  (kk : jh Γ M hh d a b (pc + 1) L (.int (x &&& y) :: S) h Q) : jh Γ M hh d a b pc L (.int y :: .int x :: S) h Q := by
  intro p e R s m args below meth c H ls locs cells slots mc ms hE h1 h2 h3 h4 hf hz hR hL
  exact lv_iand hE.1 hE.2.1 hd  (kk p e R s m args below meth c H ls locs cells slots mc ms hE h1 h2 h3 h4 hf hz hR hL)
theorem jh_i2l {x : Int32} (hd : decode M.2.1 pc = .ok (.i2l, 1))  (kk : jh Γ M hh d a b (pc + 1) L (.long x.toInt64 :: S) h Q) : jh Γ M hh d a b pc L (.int x :: S) h Q := by
  intro p e R s m args below meth c H ls locs cells slots mc ms hE h1 h2 h3 h4 hf hz hR hL
  exact lv_i2l hE.1 hE.2.1 hd rfl (kk p e R s m args below meth c H ls locs cells slots mc ms hE h1 h2 h3 h4 hf hz hR hL)
theorem jh_lcmp {x y : Int64} (hd : decode M.2.1 pc = .ok (.lcmp, 1))  (kk : jh Γ M hh d a b (pc + 1) L (.int (lg_cmp x y) :: S) h Q) : jh Γ M hh d a b pc L (.long y :: .long x :: S) h Q := by
  intro p e R s m args below meth c H ls locs cells slots mc ms hE h1 h2 h3 h4 hf hz hR hL
  exact W.lcmp hE.1 hE.2.1 hd  (kk p e R s m args below meth c H ls locs cells slots mc ms hE h1 h2 h3 h4 hf hz hR hL)
theorem jh_tableIn {dflt lo hi off : Int} {offs : Array Int} {len tgt : Nat} {x : Int32} (hd : decode M.2.1 pc = .ok (.tableswitch dflt lo hi offs, len)) (hx1 : ¬ x.toInt < lo) (hx2 : ¬ hi < x.toInt) (ho : offs[(x.toInt - lo).toNat]? = some off) (ht : (pc : Int) + off = (tgt : Int)) (kk : jh Γ M hh d a b tgt L S h Q) : jh Γ M hh d a b pc L (.int x :: S) h Q := by
  intro p e R s m args below meth c H ls locs cells slots mc ms hE h1 h2 h3 h4 hf hz hR hL
  exact lv_tableIn hE.1 hE.2.1 hd hx1 hx2 ho ht (kk p e R s m args below meth c H ls locs cells slots mc ms hE h1 h2 h3 h4 hf hz hR hL)
theorem jh_tableOut {dflt lo hi : Int} {offs : Array Int} {len tgt : Nat} {x : Int32} (hd : decode M.2.1 pc = .ok (.tableswitch dflt lo hi offs, len)) (hx : x.toInt < lo ∨ hi < x.toInt) (ht : (pc : Int) + dflt = (tgt : Int)) (kk : jh Γ M hh d a b tgt L S h Q) : jh Γ M hh d a b pc L (.int x :: S) h Q := by
  intro p e R s m args below meth c H ls locs cells slots mc ms hE h1 h2 h3 h4 hf hz hR hL
  exact lv_tableOut hE.1 hE.2.1 hd hx ht (kk p e R s m args below meth c H ls locs cells slots mc ms hE h1 h2 h3 h4 hf hz hR hL)
theorem jh_lald {q n : Nat} {f : Nat → Int64} {i : Int32} (hd : decode M.2.1 pc = .ok (.laload, 1)) (hq : q < h.2) (hc : h.1 q = .inr (3, n, .inr (.inl f))) (hin : vp_in i n) (kk : jh Γ M hh d a b (pc + 1) L (.long (f i.toNatClampNeg) :: S) h Q) : jh Γ M hh d a b pc L (.int i :: .ref q :: S) h Q := by
  intro p e R s m args below meth c H ls locs cells slots mc ms hE h1 h2 h3 h4 hf hz hR hL
  exact va_lald (D := jg_D Γ) hE.1 hE.2.1 hE.2.2.2.2.2.2.2.2.2.2.1.2.1 (jg_one_a hR hq hc) 0 3 rfl rfl hin hd (kk p e R s m args below meth c H ls locs cells slots mc ms hE h1 h2 h3 h4 hf hz hR hL)
theorem jh_last {q n : Nat} {f : Nat → Int64} {i : Int32} {x : Int64} (hd : decode M.2.1 pc = .ok (.lastore, 1)) (hq : q < h.2) (hc : h.1 q = .inr (3, n, .inr (.inl f))) (hin : vp_in i n) (kk : jh Γ M hh d a b (pc + 1) L S (va_up h.1 q (.inr (3, n, .inr (.inl (vp_updL f i.toNatClampNeg x)))), h.2) Q) : jh Γ M hh d a b pc L (.long x :: .int i :: .ref q :: S) h Q := by
  intro p e R s m args below meth c H ls locs cells slots mc ms hE h1 h2 h3 h4 hf hz hR hL
  refine W.last hE.1 hE.2.1 (jg_arr hR hq hc) (jg_isArr (ki := 3) hE.2.2.2.2.2.2.2.2.2.2.1 rfl n (fun j => .long (f j))) (fun q => by cases q) (by show ¬ (i < 0 ∨ (arrV _ _ _).slots.size ≤ _); rw [arrV_size]; exact hin) rfl rfl hd fun H1 e1 z oq => ?_
  refine kk p e R s m args below meth c H1 ls _ cells slots mc ms hE h1 h2 h3 h4 (jg_fr hR hq hf) (by rw [z]; exact hz) (hR.set hq z oq ?_) hL
  show H1[jg_a Γ q]? = some (vp_cell _ (n, .inr (.inl _)))
  rw [e1]
  show some ((vp_cell _ (n, .inr (.inl f))).setSlot _ _) = _
  rw [vp_cell_l, vp_cell_l, arrV_store]
  congr 2
  funext j
  by_cases hj : j = i.toNatClampNeg
  · subst hj; simp [updV, vp_updL]
  · simp [updV, vp_updL, hj]
theorem jh_new {idx ci N : Nat} {C : String} {T : u_T} {ty : Nat → FieldType} {fs : List Value} (hCl : jg_Cl ci C T N ty) (hw1 : Cond.classLink M.1.cls idx C ∈ jg_ws) (hw2 : Cond.instantiable C N ∈ jg_ws) (hw3 : Cond.initialized C ∈ jg_ws) (hfs : ∀ j, j < N → defaultValue (ty j) = vp_V (fs.map (jg_v Γ)) j) (hd : decode M.2.1 pc = .ok (.new idx, 3)) (hn : h.2 < 1000000) (ha : 1 ≤ a) (hb : N ≤ b) (kk : jh Γ M hh d (a - 1) (b - N) (pc + 3) L (.ref h.2 :: S) (va_up h.1 h.2 (.inl (ci, fs)), h.2 + 1) Q) : jh Γ M hh d a b pc L S h Q := by
  intro p e R s m args below meth c H ls locs cells slots mc ms hE h1 h2 h3 h4 hf hz hR hL
  obtain ⟨c1, c2, c3, c4⟩ := hCl
  obtain ⟨x1, x2, x3, x4, x5, x6, x7, x8, x9, x10, x11, x12⟩ := id hE
  have hKn := x11.2.1.1 ci _ c1
  have hsz : H.size = jg_a Γ h.2 := by rw [jg_a_lt Γ hn]; exact hR.1
  refine W.newcK x1 x2 x5 (x6 _ hw1) (x6 _ hw2) (x6 _ hw3) rfl hd (by omega) (by omega) hKn.2.1 hsz fun H1 kC hkC e1 z1 o1 => ?_
  refine kk p e R s m args below meth c H1 ls locs (cells + 1) (slots + N) mc ms hE (by omega) (by omega) h3 h4 hf (by rw [z1, ← hsz]; omega) (hR.push hn (by rw [z1, hsz]) (fun y hy => o1 y (by rw [← hsz]; exact hy)) ?_) hL
  intro r hr
  have e9 : r = (C, T, N) := Option.some.inj (hr.symm.trans c1)
  subst e9
  exact (u_born ty x6 c2 hKn hkC e1 c3).to hfs
theorem jh_newl {N : Nat} {n : Int32} (hw : Cond.arrayClass .long ∈ jg_ws) (hd : decode M.2.1 pc = .ok (.newarray .long, 2)) (hn0 : ¬ n < 0) (hN : n.toNatClampNeg = N) (hby : N * 8 ≤ 536870912) (hn : h.2 < 1000000) (ha : 1 ≤ a) (hb : N ≤ b) (kk : jh Γ M hh d (a - 1) (b - N) (pc + 2) L (.ref h.2 :: S) (va_up h.1 h.2 (.inr (3, N, .inr (.inl (fun _ => 0)))), h.2 + 1) Q) : jh Γ M hh d a b pc L (.int n :: S) h Q := by
  intro p e R s m args below meth c H ls locs cells slots mc ms hE h1 h2 h3 h4 hf hz hR hL
  obtain ⟨x1, x2, x3, x4, x5, x6, x7, x8, x9, x10, x11, x12⟩ := id hE
  have hsz : H.size = jg_a Γ h.2 := by rw [jg_a_lt Γ hn]; exact hR.1
  refine va_newaK (atype := .long) x1 x2 (x6 _ hw) rfl hd rfl hn0 hN hby (by omega) (by omega) hsz fun H1 cA e1 z1 o1 hAr hNm => ?_
  have hcA : cA = jg_dA Γ 3 := Option.some.inj (hNm.symm.trans (x11.2.1.2 3 _ rfl).2)
  refine kk p e R s m args below meth c H1 ls locs (cells + 1) (slots + N) mc ms hE (by omega) (by omega) h3 h4 hf (by rw [z1, ← hsz]; omega) (hR.push hn (by rw [z1, hsz]) (fun y hy => o1 y (by rw [← hsz]; exact hy)) ?_) hL
  show H1[jg_a Γ h.2]? = some (vp_cell (jg_dA Γ 3) (N, .inr (.inl (fun _ => 0))))
  rw [e1, hcA, vp_cell_l]
  rfl
theorem jh_ireturn {x : Int32} (hd : decode M.2.1 pc = .ok (.ireturn, 1)) (hr : M.2.2.2 = some .int) (hq : Q (.inl (some (.int x))) h) : jh Γ M hh d a b pc L [.int x] h Q := by
  intro p e R s m args below meth c H ls locs cells slots mc ms hE h1 h2 h3 h4 hf hz hR hL
  exact vx_ret (W.widen (k := mc) (n := ms) (by omega) (by omega) (W.iret (v := x) hE.1 hE.2.1 (hE.2.2.1.trans hr) (fun t ht hW => ⟨some (.int x), h, rfl, hq, by rw [ht]; exact hR⟩) hf hd hE.2.2.2.2.2.2.1))
theorem jh_zreturn {x : Int32} {ty : FieldType} (hd : decode M.2.1 pc = .ok (.ireturn, 1)) (hr : M.2.2.2 = some ty) (hn : narrow ty (.int x) = .int x) (hq : Q (.inl (some (.int x))) h) : jh Γ M hh d a b pc L [.int x] h Q := by
  intro p e R s m args below meth c H ls locs cells slots mc ms hE h1 h2 h3 h4 hf hz hR hL
  exact vx_ret (W.widen (k := mc) (n := ms) (by omega) (by omega) (W.zret (v := x) hE.1 hE.2.1 (hE.2.2.1.trans hr) hn (fun t ht hW => ⟨some (.int x), h, rfl, hq, by rw [ht]; exact hR⟩) hf hd hE.2.2.2.2.2.2.1))
theorem jh_fg {Γ : jg_G} {M : jg_Md} {hh : jh_T} {d a b pc : Nat} {L L' : List (Option Value)} {S : List Value} {h : jg_H} {Q : jg_Q} (hl : jg_le L' L) (k : jh Γ M hh d a b pc L' S h Q) : jh Γ M hh d a b pc L S h Q := by
  intro p e R s m args below meth c H ls locs cells slots mc ms hE h1 h2 h3 h4 hf hz hR hL
  exact k p e R s m args below meth c H ls locs cells slots mc ms hE h1 h2 h3 h4 hf hz hR ⟨hL.1, hL.2.1, fun i v hv => hL.2.2 i v (jg_le_at hl i v hv)⟩
theorem jh_less {Γ : jg_G} {M : jg_Md} {hh : jh_T} {d a b a' b' pc : Nat} {L : List (Option Value)} {S : List Value} {h : jg_H} {Q : jg_Q} (ha : a ≤ a') (hb : b ≤ b') (k : jh Γ M hh d a b pc L S h Q) : jh Γ M hh d a' b' pc L S h Q := by
  intro p e R s m args below meth c H ls locs cells slots mc ms hE h1 h2 h3 h4 hf hz hR hL
  exact k p e R s m args below meth c H ls locs cells slots mc ms hE (by omega) (by omega) h3 h4 hf hz hR hL
theorem jh_hs {S' : List Value} {h' : jg_H} (e1 : S = S') (e2 : h = h') (kk : jh Γ M hh d a b pc L S' h' Q) : jh Γ M hh d a b pc L S h Q := by subst e1 e2; exact kk
/-- what becomes of a throw: a handler that leaves it aside and answers v -/
def jh_X (M : jg_Md) (hh : jh_T) (pc : Nat) (E : String) (v : Int32) : Prop := ∃ (i : Nat) (pre suf : List (Nat × Nat × Nat × Nat)) (st en hp k : Nat), i < 5 ∧ E = exn i ∧ hh.1 = pre ++ (st, en, hp, k) :: suf ∧ (∀ z ∈ pre, z.2.2.2 ≠ 0 ∧ ∃ j, j < 5 ∧ i ≠ j ∧ Cond.classLink M.1.cls z.2.2.2 (exn j) ∈ jg_ws) ∧ (st ≤ pc ∧ pc < en) ∧ k ≠ 0 ∧ Cond.classLink M.1.cls k (exn i) ∈ jg_ws ∧ Cond.castable (exn i) (exn i) ∈ jg_cd ∧ M.2.2.2 = some .int ∧ ∃ (l : Nat) (iv : Int), ((∃ r : Nat, decode M.2.1 hp = .ok (.astore r, 2) ∧ l = 2 ∧ r < M.2.2.1) ∨ (∃ r : Fin 4, decode M.2.1 hp = .ok (.astore_n r, 1) ∧ l = 1 ∧ (r : Nat) < M.2.2.1)) ∧ decode M.2.1 (hp + l) = .ok (.iconst iv, 1) ∧ Int32.ofInt iv = v ∧ decode M.2.1 (hp + l + 1) = .ok (.ireturn, 1)
theorem jh_back {p : Program} {e : Env} {R : Room} {s : State} {m : MethodId} {args : Array Value} {below : List Frame} {meth : Method} {c : Code} {H : Heap} {ls : Array Slot} {locs : List Loc} {cells slots mc ms : Nat} {S0 : List Value} {A9 : Array Value} (hE : jh_E Γ M hh d p R s m args meth c) (h1 : cells + a ≤ mc) (h2 : slots + b ≤ ms) (h3 : mc ≤ R.cells) (h4 : ms ≤ R.slots) (hf : ∀ q ∈ locs, jg_z Γ ≤ q.base) (hL : jg_L Γ M.2.2.1 ls L) (ha : a' ≤ a) (hb : b' ≤ b)
    (hr : vx_Run p (jg_l Γ) e R s m args below meth c H locs cells slots a' b' (F0 m pc ls S0) (S.map (jg_v Γ)) (jg_Qc Γ Q' A9) (jg_Xc Γ Q') (fun q => jg_z Γ ≤ q))
    (kr : ∀ v h', Q' (.inl v) h' → jh Γ M hh d (a - a') (b - b') (pc + 3) L (v.toList ++ S) h' Q) (kx : ∀ E h', Q' (.inr E) h' → ∃ v, jh_X M hh pc E v ∧ Q (.inl (some (.int v))) h') :
    W p (jg_l Γ) e R s m args below meth c H locs cells slots (vx_MQ below (jg_Qc Γ Q) (jg_Xc Γ Q) args s mc ms (fun q => jg_z Γ ≤ q)) (F0 m pc ls S0) := by
  intro T hT X
  rcases hr T hT X with ⟨v, st0, t, T', Lc, g0, X', hLc, e1, e2, ⟨v', h', q1, q2, q3⟩, st⟩ | ⟨q, st0, t, T', Lc, E, ce, g0, X', hLc, e1, e2, ⟨h', q2, q3⟩, hce, hcv, hcl, st⟩
  · have hv : v = v'.map (jg_v Γ) := by cases q1; rfl
    subst hv
    have hsz : s.heap.size ≤ T'.heap.size := (vx_frame (U := T') X'.same).1
    have hf' : ∀ y ∈ locs ++ Lc, jg_z Γ ≤ y.base := fun y hy => (List.mem_append.mp hy).elim (hf y) (hLc y)
    obtain ⟨t2, a1, b1⟩ := kr v' h' q2 p e R s m args below meth c T'.heap ls (locs ++ Lc) (cells + a') (slots + b') mc ms hE (by omega) (by omega) h3 h4 hf' hsz (by rw [e1]; exact q3) hL T' rfl X'
    refine ⟨t2, st t2 ?_, b1⟩
    have eS : (v'.map (jg_v Γ)).toList ++ S.map (jg_v Γ) = (v'.toList ++ S).map (jg_v Γ) := by cases v' <;> rfl
    rw [eS]
    exact a1
  · have hf' : ∀ y ∈ locs ++ Lc, jg_z Γ ≤ y.base := fun y hy => (List.mem_append.mp hy).elim (hf y) (hLc y)
    obtain ⟨v, ⟨i, pre, suf, sp, en, hp, k, hi, rfl, hhe, hpre, hcov, hk0, hlk, hcd, hret, l, iv, hst, hic, hiv, hir⟩, hq⟩ := kx E h' q2
    obtain ⟨x1, x2, x3, x4, x5, x6, x7, x8, x9, x10, x11, ⟨xt, xn, -⟩, x13⟩ := id hE
    have hR' : jg_R Γ h' T'.heap := by rw [e1]; exact q3
    have hret2 : meth.sig.returnType = some .int := x3.trans hret
    have tail : ∀ ls' : Array Slot, W p (jg_l Γ) e R s m args below meth c T'.heap (locs ++ Lc) (cells + a') (slots + b') (vx_MQ below (jg_Qc Γ Q) (jg_Xc Γ Q) args s mc ms (fun q => jg_z Γ ≤ q)) (F0 m (hp + l) ls' []) := fun ls' =>
      lv_iconst x1 x2 hic hiv (vx_ret (W.widen (k := mc) (n := ms) (by omega) (by omega) (W.iret (v := v) x1 x2 hret2 (fun t ht hW => ⟨some (.int v), h', rfl, hq, by rw [ht]; exact hR'⟩) hf' hir x7)))
    have hand : W p (jg_l Γ) e R s m args below meth c T'.heap (locs ++ Lc) (cells + a') (slots + b') (vx_MQ below (jg_Qc Γ Q) (jg_Xc Γ Q) args s mc ms (fun q => jg_z Γ ≤ q)) (F0 m hp ls [.ref q]) := by
      rcases hst with ⟨r, hd9, rfl, hr9⟩ | ⟨r, hd9, rfl, hr9⟩
      · exact lv_astore x1 x2 hd9 hL.has hr9 rfl (fun ls' _ => tail ls')
      · exact lv_astore_n x1 x2 hd9 rfl hL.has hr9 rfl (fun ls' _ => tail ls')
    rw [hhe] at xt
    obtain ⟨pre9, l9, hsp, hp1, hp2⟩ := List.map_eq_append_iff.mp xt
    obtain ⟨x9', suf9, rfl, hx1, hx2⟩ := List.map_eq_cons_iff.mp hp2
    have ec : x9'.startPc = sp ∧ x9'.endPc = en ∧ x9'.handlerPc = hp ∧ x9'.catchType = k := by
      have h9 := Prod.mk.inj hx1
      have h8 := Prod.mk.inj h9.2
      have h7 := Prod.mk.inj h8.2
      exact ⟨h9.1, h8.1, h7.1, h7.2⟩
    obtain ⟨t2, a1, b1⟩ := vx_catch (p := p) (l := jg_l Γ) (e := e) (R := R) (s := s) (m := m) (args := args) (below := below) (meth := meth) (c := c) (H := T'.heap) (locs := locs ++ Lc) (cells := cells + a') (slots := slots + b') (Q := vx_MQ below (jg_Qc Γ Q) (jg_Xc Γ Q) args s mc ms (fun q => jg_z Γ ≤ q)) (pc := pc) (ls := ls) (rest := S.map (jg_v Γ)) (own := M.1.cls) (name := exn i) (E := exn i) (ce := ce) (q := q) x5 pre9 x9' suf9 hsp
      (fun z hz => Or.inr (by
        have hz2 : (z.startPc, z.endPc, z.handlerPc, z.catchType) ∈ pre := by rw [← hp1]; exact List.mem_map.mpr ⟨z, hz, rfl⟩
        obtain ⟨h8, j, hj, hne, hl8⟩ := hpre _ hz2
        exact ⟨h8, exn j, x6 _ hl8, xn i j hi hj hne⟩)) (by
        show covers x9' pc = true
        unfold covers
        rw [ec.1, ec.2.1]
        simp [hcov.1, hcov.2]) (by rw [ec.2.2.2]; exact hk0) (by rw [ec.2.2.2]; exact x6 _ hlk) (va_Nw.use (A := args) rfl (x11.2.2.2.2.2.2.2.2.2.1 _ hcd)) (by rw [e1]; exact hce) hcv hcl (by rw [ec.2.2.1]; exact hand) T' rfl X'
    exact ⟨t2, st.trans a1, b1⟩
theorem jh_callV {idx n ci q : Nat} {As : List Value} {T9 : u_T} {N9 : Nat} {fs : List Value} (hc : jg_Vc M.1.cls idx M' n) (hd : decode M.2.1 pc = .ok (.invokevirtual idx, 3)) (hci : jg_cl[ci]? = some (M'.1.cls, T9, N9)) (hq : q < h.2) (hqc : h.1 q = .inl (ci, fs)) (hn : As.length = n) (hm : M'.2.2.1 ≤ 45) (hl : (jg_en (.ref q :: As)).length ≤ M'.2.2.1) (hent : jg_en (.ref q :: As) ++ List.replicate (M'.2.2.1 - (jg_en (.ref q :: As)).length) none = L') (hdd : d' + 1 ≤ d) (ha : a' ≤ a) (hb : b' ≤ b) (hS : (S.map fun v => v.category).sum ≤ 8)
    (K : jg Γ M' d' a' b' 0 L' [] h Q') (kr : ∀ v h', Q' (.inl v) h' → jh Γ M hh d (a - a') (b - b') (pc + 3) L (v.toList ++ S) h' Q) (kx : ∀ E h', Q' (.inr E) h' → ∃ v, jh_X M hh pc E v ∧ Q (.inl (some (.int v))) h') : jh Γ M hh d a b pc L (As.reverse ++ .ref q :: S) h Q := by
  intro p e R s m args below meth c H ls locs cells slots mc ms hE h1 h2 h3 h4 hf hz hR hL
  obtain ⟨x1, x2, x3, x4, x5, x6, x7, x8, x9, x10, x11, x12⟩ := id hE
  obtain ⟨w1, w2, w2s, w3, w4, w5, w6, w7, w8⟩ := hc
  refine jh_back (a' := a') (b' := b') (A9 := (Value.ref (jg_a Γ q) :: As.map (jg_v Γ)).toArray) hE h1 h2 h3 h4 hf hL ha hb ?_ kr kx
  refine vx_runV (y := M'.1) (bytes := M'.2.1) (maxL := M'.2.2.1) (ret := M'.2.2.2) (ws := jg_wm M') (n := n) (rm := jg_rm d' a' b') (C := M'.1.cls) (b := jg_a Γ q) (Pc := jg_Pc Γ (.ref q :: As) h) (As := As.map (jg_v Γ)) ⟨x1, x2, x4, x5, x6⟩ (jg_met w8 hl hent K) ⟨⟨rfl, rfl, ?_, ?_, pay_in x6 (jg_good w4), List.mem_cons_self, x6 _ w4, x6 _ w3, ⟨w5, w6⟩, jg_parm w7, x6 _ w1⟩, x6 _ w2, x6 _ w2s⟩ ⟨jg_blind Γ (.ref q :: As) h, va_recv x11.2.1 (jg_one_o hR hq hqc hci) hci (q0 := 0) rfl, fun U hU hW => ⟨rfl, jg_U.warm hW x11, by rw [hU]; exact hR⟩⟩ rfl (by rw [List.length_map]; exact hn) hL.1 ?_ ?_ hd ⟨by omega, by omega⟩
  · show d' + 1 ≤ R.frames; omega
  · show 8 + (M'.2.2.1 + 11) + 64 * d' ≤ R.locals; omega
  · show (As.reverse ++ .ref q :: S).map (jg_v Γ) = _
    rw [List.map_append, List.map_reverse]
    rfl
  · show 2 * 0 + _ ≤ 8
    rw [List.map_map, show ((fun v : Value => v.category) ∘ jg_v Γ) = (fun v => v.category) from funext (jg_v_cat Γ)]
    omega
theorem jh_callI {idx n q : Nat} {As : List Value} (hc : jg_Ic M.1.cls idx M' n) (hd : decode M.2.1 pc = .ok (.invokespecial idx, 3)) (hn : As.length = n) (hm : M'.2.2.1 ≤ 45) (hl : (jg_en (.ref q :: As)).length ≤ M'.2.2.1) (hent : jg_en (.ref q :: As) ++ List.replicate (M'.2.2.1 - (jg_en (.ref q :: As)).length) none = L') (hdd : d' + 1 ≤ d) (ha : a' ≤ a) (hb : b' ≤ b) (hS : (S.map fun v => v.category).sum ≤ 8)
    (K : jg Γ M' d' a' b' 0 L' [] h Q') (kr : ∀ v h', Q' (.inl v) h' → jh Γ M hh d (a - a') (b - b') (pc + 3) L (v.toList ++ S) h' Q) (kx : ∀ E h', Q' (.inr E) h' → ∃ v, jh_X M hh pc E v ∧ Q (.inl (some (.int v))) h') : jh Γ M hh d a b pc L (As.reverse ++ .ref q :: S) h Q := by
  intro p e R s m args below meth c H ls locs cells slots mc ms hE h1 h2 h3 h4 hf hz hR hL
  obtain ⟨x1, x2, x3, x4, x5, x6, x7, x8, x9, x10, x11, x12⟩ := id hE
  obtain ⟨w1, w2, wi, wr, w3, w4, w5, w6, w7, w8⟩ := hc
  refine jh_back (a' := a') (b' := b') (A9 := (Value.ref (jg_a Γ q) :: As.map (jg_v Γ)).toArray) hE h1 h2 h3 h4 hf hL ha hb ?_ kr kx
  have hM := jg_met w8 hl hent K
  have hK := jg_vb (p := p) (e := e) (R := R) (below := below) x6 w4 w3 (by omega) (by omega) hM
  intro T hT X
  have hpl : e.platform.magicAccessors = ({} : Platform).magicAccessors := by rw [X.admits.platform]
  have hst : (As.reverse ++ .ref q :: S).map (jg_v Γ) = (As.map (jg_v Γ)).reverse ++ .ref (jg_a Γ q) :: S.map (jg_v Γ) := by
    rw [List.map_append, List.map_reverse]; rfl
  have hcd : (Cond.code M'.1 M'.2.1 M'.2.2.1 none).before args s = true := by rw [← wr]; exact x6 _ w4
  obtain ⟨mk, methM, cM, kP, vm₁, hnamed, hmethM, hcodeM, -, hlocalsM, -, hkP, -, hW₁, hstep₁⟩ := Steps.initColdArgs (e := e) X.here x1 X.warmed hpl x5 wi ⟨w5, w6⟩ (x6 _ w1) (x6 _ w2) hcd (f := F0 m pc ls ((As.reverse ++ .ref q :: S).map (jg_v Γ))) rfl (argsL := As.map (jg_v Γ)) (rest := S.map (jg_v Γ)) (fun sig h9 => by rw [List.length_map, hn]; exact jg_parm w7 sig h9) hst (by rw [x2]; exact hd)
  have X₁ := X.noted hW₁
  have hWs : 2 * (F0 m pc ls (S.map (jg_v Γ))).monitorRoom + ((S.map (jg_v Γ)).map fun v => v.category).sum ≤ 8 := by
    show 2 * 0 + _ ≤ 8
    rw [List.map_map, show ((fun v : Value => v.category) ∘ jg_v Γ) = (fun v => v.category) from funext (jg_v_cat Γ)]
    omega
  rcases hK m meth c ⟨T.setVm vm₁, locs, cells, slots⟩ (F0 m pc ls (S.map (jg_v Γ))) (.invokespecial idx) mk (Value.ref (jg_a Γ q) :: As.map (jg_v Γ)).toArray X₁ rfl (hL.1.trans x4.symm) (by rw [x2]; exact hd) hWs (X₁.named hnamed) ⟨by show cells + a' ≤ R.cells; omega, by show slots + b' ≤ R.slots; omega, rfl, jg_U.warm hW₁ x11, by show jg_R Γ h T.heap; rw [hT]; exact hR⟩ with ⟨v, ⟨U', l2, c2, s2⟩, X', ⟨g', mk', t, Lc, e1, e2, hq9, g1, hLc, g2, g3⟩, st⟩ | ⟨q9, ⟨U', l2, c2, s2⟩, X', ⟨g', mk', t, Lc, E, ce, e1, e2, hq9, hce, hcv, hcl, g1, hLc, g2, g3⟩, st⟩
  · dsimp only [Pt.U, Pt.locs, Pt.cells, Pt.slots] at X' e1 e2 g1 g2 g3 st
    subst g1; subst g2; subst g3
    exact Or.inl ⟨v, _, t, U', Lc, hT, X', hLc, e1, e2, hq9, fun target h9 => hstep₁ _ fun acts => by rw [doInvoke_state]; exact st.trans h9⟩
  · dsimp only [Pt.U, Pt.locs, Pt.cells, Pt.slots] at X' e1 e2 g1 g2 g3 st hcl
    subst g1; subst g2; subst g3
    exact Or.inr ⟨q9, _, t, U', Lc, E, ce, hT, X', hLc, e1, e2, hq9, hce, hcv, vx_cls hW₁ hcl, hstep₁ _ fun acts => by rw [doInvoke_state]; exact st⟩
/-- the script -/
theorem jh_sld {i : Int32} (hd : decode M.2.1 pc = .ok (.iaload, 1)) (hin : vp_in i hh.2.1) (kk : jh Γ M hh d a b (pc + 1) L (.int (hh.2.2 i.toNatClampNeg) :: S) h Q) : jh Γ M hh d a b pc L (.int i :: .ref 1000500 :: S) h Q := by
  intro p e R s m args below meth c H ls locs cells slots mc ms hE h1 h2 h3 h4 hf hz hR hL
  obtain ⟨x1, x2, x3, x4, x5, x6, x7, x8, x9, x10, x11, ⟨xt, xn, xX, xl⟩, x13⟩ := id hE
  exact va_sld (A := fun q => jg_z Γ ≤ q) (b := jg_x Γ 500) x1 x2 xX xl (Nat.not_le.mpr xl) ⟨by rw [hR.1]; exact Nat.le_add_right _ _, fun q hq _ => hR.2.2.1 q hq, hf⟩ hin hd (kk p e R s m args below meth c H ls locs cells slots mc ms hE h1 h2 h3 h4 hf hz hR hL)
theorem jh_slen (hd : decode M.2.1 pc = .ok (.arraylength, 1)) (kk : jh Γ M hh d a b (pc + 1) L (.int (nI hh.2.1) :: S) h Q) : jh Γ M hh d a b pc L (.ref 1000500 :: S) h Q := by
  intro p e R s m args below meth c H ls locs cells slots mc ms hE h1 h2 h3 h4 hf hz hR hL
  obtain ⟨x1, x2, x3, x4, x5, x6, x7, x8, x9, x10, x11, ⟨xt, xn, xX, xl⟩, x13⟩ := id hE
  exact va_slen (A := fun q => jg_z Γ ≤ q) (b := jg_x Γ 500) x1 x2 xX xl (Nat.not_le.mpr xl) ⟨by rw [hR.1]; exact Nat.le_add_right _ _, fun q hq _ => hR.2.2.1 q hq, hf⟩ hd (kk p e R s m args below meth c H ls locs cells slots mc ms hE h1 h2 h3 h4 hf hz hR hL)
end JHR
def jh_wm (M : jg_Md) (hh : jh_T) : List Cond := Cond.codeWith M.1 M.2.1 M.2.2.1 M.2.2.2 hh.1 :: jg_ws
def jh_Pc (Γ : jg_G) (hh : jh_T) (As : List Value) (h : jg_H) : Array Value → State → Prop := va_Pc (As.map (jg_v Γ)) (fun U => jg_U Γ U ∧ (jh_N U ∧ va_X (jg_x Γ 500) hh.2.1 hh.2.2 U (jg_H0 Γ) ∧ jg_x Γ 500 < jg_z Γ) ∧ jg_R Γ h U.heap)
theorem jh_met {Γ : jg_G} {M : jg_Md} {hh : jh_T} {d a b : Nat} {As : List Value} {L : List (Option Value)} {h : jg_H} {Q : jg_Q} (hpl : plainName M.1.cls = true) (hn : (jg_en As).length ≤ M.2.2.1) (hent : jg_en As ++ List.replicate (M.2.2.1 - (jg_en As).length) none = L) (K : jh Γ M hh d a b 0 L [] h Q) :
    vx_Met (jg_l Γ) M.1 (jh_wm M hh) (jg_rm d a b) (jh_Pc Γ hh As h) (jg_Qc Γ Q) (jg_Xc Γ Q) a b (fun q => jg_z Γ ≤ q) := by
  refine vx_ofWH (cc := M.2.1) (maxL := M.2.2.1) (ret := M.2.2.2) (hh := hh.1) (ws' := jg_ws) hpl rfl ?_
  intro p e s m args below meth c s₁ B hml hv
  obtain ⟨rfl, hU, hN, hR⟩ := hv
  have hts := atoms_spec (ws := jh_wm M hh) B.pre
  have hl := lv_entry (As.map (jg_v Γ)) (n := M.2.2.1) (by rw [jg_en_len]; exact hn)
  obtain ⟨m9, meth9, c9, hn9, k1, k2, k3, k4, kT, k5, k6, -⟩ := Cond.codeWith_spec (hts _ List.mem_cons_self)
  cases hn9.symm.trans B.named
  cases k1.symm.trans B.method
  cases (Stand.of_body B).code.symm.trans k2
  rw [lg_entry_eq]
  generalize (lg_sl (As.map (jg_v Γ)) ++ List.replicate (M.2.2.1 - (lg_sl (As.map (jg_v Γ))).length) Slot.unset).toArray = ls at hl ⊢
  refine K p e _ s m _ below meth c s.heap ls [] 0 0 a b ⟨B.exec, B.bytes, B.returns, hml, findClass_of_methodNamed B.named, fun w hw => hts w (List.mem_cons_of_mem _ hw), B.notSynchronized, (name_of_methodNamed B.named B.method).1, Nat.le_refl _, Nat.le_refl _, hU, ⟨kT, hN⟩, by rw [hR.1]; exact Nat.le_add_right _ _, hR.2.2.1⟩ (by omega) (by omega) (Nat.le_refl _) (Nat.le_refl _) (fun _ h => nomatch h) (Nat.le_refl _) hR ⟨hl.1, hl.2.1, fun i v hv => ?_⟩
  rw [← hent] at hv
  have h2 := jg_en_mem Γ _ As 0 i v hv
  rw [Nat.zero_add] at h2
  exact hl.2.2 _ h2
theorem jh_good {M : jg_Md} {hh : jh_T} (hc : Cond.codeWith M.1 M.2.1 M.2.2.1 M.2.2.2 hh.1 ∈ jg_ws) : GoodIn jg_ws (jh_wm M hh) := by
  intro w hw
  have hm : w ∈ jg_ws := by
    rcases List.mem_cons.mp hw with rfl | h
    · exact hc
    · exact h
  exact ⟨hm, good_of_word (List.mem_filter.mp hm).2⟩
theorem jh_blind (Γ : jg_G) (hh : jh_T) (As : List Value) (h : jg_H) : FrameBlind (jh_Pc Γ hh As h) := by
  intro a U g mk q
  obtain ⟨q0, qU, ⟨qN, qX, ql⟩, qR⟩ := q
  exact ⟨q0, jg_U.warm (State.WarmedH.refl U) qU, ⟨qN.moved (State.WarmedH.refl U).alike, qX.moved (State.WarmedH.refl U).alike, ql⟩, qR⟩
def jh_Sc (own : String) (idx : Nat) (M : jg_Md) (hh : List (Nat × Nat × Nat × Nat)) (n : Nat) : Prop := Cond.methodLink own idx M.1 ∈ jg_ws ∧ Cond.static M.1 ∈ jg_ws ∧ Cond.initialized M.1.cls ∈ jg_ws ∧ Cond.codeWith M.1 M.2.1 M.2.2.1 M.2.2.2 hh ∈ jg_ws ∧ M.1.cls ≠ "java/lang/invoke/MethodHandle" ∧ M.1.cls ≠ "java/lang/invoke/VarHandle" ∧ (parseMethodDescriptor M.1.desc).map (fun d => d.parameters.length) = some n ∧ plainName M.1.cls = true
section JHC
variable {Γ : jg_G} {M M' : jg_Md} {hh hh' : jh_T} {d d' a b a' b' pc : Nat} {L L' : List (Option Value)} {S : List Value} {h : jg_H} {Q Q' : jg_Q}
theorem jh_callW {idx n : Nat} {As : List Value} (hc : jh_Sc M.1.cls idx M' hh'.1 n) (h2' : hh'.2 = hh.2) (hd : decode M.2.1 pc = .ok (.invokestatic idx, 3)) (hn : As.length = n) (hm : M'.2.2.1 ≤ 45) (hl : (jg_en As).length ≤ M'.2.2.1) (hent : jg_en As ++ List.replicate (M'.2.2.1 - (jg_en As).length) none = L') (hdd : d' + 1 ≤ d) (ha : a' ≤ a) (hb : b' ≤ b) (hS : (S.map fun v => v.category).sum ≤ 8)
    (K : jh Γ M' hh' d' a' b' 0 L' [] h Q') (kr : ∀ v h', Q' (.inl v) h' → jh Γ M hh d (a - a') (b - b') (pc + 3) L (v.toList ++ S) h' Q) (kx : ∀ E h', Q' (.inr E) h' → ∃ v, jh_X M hh pc E v ∧ Q (.inl (some (.int v))) h') : jh Γ M hh d a b pc L (As.reverse ++ S) h Q := by
  intro p e R s m args below meth c H ls locs cells slots mc ms hE h1 h2 h3 h4 hf hz hR hL
  obtain ⟨x1, x2, x3, x4, x5, x6, x7, x8, x9, x10, x11, ⟨xt, xn, xX, xl⟩, x13⟩ := id hE
  obtain ⟨w1, w2, w3, w4, w5, w6, w7, w8⟩ := hc
  refine jh_back (a' := a') (b' := b') (A9 := (As.map (jg_v Γ)).toArray) hE h1 h2 h3 h4 hf hL ha hb ?_ kr kx
  refine vx_runSX (y := M'.1) (bytes := M'.2.1) (maxL := M'.2.2.1) (ret := M'.2.2.2) (hh := hh'.1) (ws := jh_wm M' hh') (n := n) (rm := jg_rm d' a' b') (Pc := jh_Pc Γ hh' As h) (As := As.map (jg_v Γ)) ⟨x1, x2, x4, x5, x6⟩ (jh_met w8 hl hent K) ⟨⟨rfl, rfl, ?_, ?_, pay_in x6 (jh_good w4), List.mem_cons_self⟩, x6 _ w4, x6 _ w3, ⟨w5, w6⟩, jg_parm w7, x6 _ w1, x6 _ w2⟩ ⟨jh_blind Γ hh' As h, fun U hU hW => ⟨rfl, jg_U.warm hW x11, ⟨xn.moved hW.alike, by rw [h2']; exact xX.moved hW.alike, xl⟩, by rw [hU]; exact hR⟩⟩ rfl (by rw [List.length_map]; exact hn) hL.1 ?_ ?_ hd ⟨by omega, by omega⟩
  · show d' + 1 ≤ R.frames; omega
  · show 8 + (M'.2.2.1 + 11) + 64 * d' ≤ R.locals; omega
  · show (As.reverse ++ S).map (jg_v Γ) = _
    rw [List.map_append, List.map_reverse]
  · show 2 * 0 + _ ≤ 8
    rw [List.map_map, show ((fun v : Value => v.category) ∘ jg_v Γ) = (fun v => v.category) from funext (jg_v_cat Γ)]
    omega
end JHC
