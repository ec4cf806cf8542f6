/-! MAKING: cells laid in a row; arrays of arrays, clone, checkcast -/
theorem mk_arr {cA : ClassId} {n : Nat} {f f' : Nat → Value} (h : ∀ i, i < n → f i = f' i) : arrV cA n f = arrV cA n f' := by
  have e : (Array.ofFn (n := n) fun j => f j.val) = Array.ofFn (n := n) fun j => f' j.val := congrArg _ (funext fun j => h j.val j.isLt)
  show ({ cls := cA, slots := Array.ofFn (n := n) fun j => f j.val, vm := .none } : Cell) = { cls := cA, slots := Array.ofFn (n := n) fun j => f' j.val, vm := .none }
  rw [e]
/-- two cells that the machine can't tell apart -/
def ceq (x y : jg_C) : Prop := ∀ (Γ : jg_G) (k : Nat) (H : Heap), jg_at Γ k H x → jg_at Γ k H y
theorem ceq_i {ki n : Nat} {f f' : Nat → Int32} (h : ∀ i, i < n → f i = f' i) : ceq (.inr (ki, n, .inl f)) (.inr (ki, n, .inl f')) := fun Γ k H h1 => by
  refine Eq.trans h1 (congrArg some ?_)
  show vp_cell _ (n, .inl f) = vp_cell _ (n, .inl f')
  rw [vp_cell_i, vp_cell_i]
  exact mk_arr fun i hi => by rw [h i hi]
theorem ceq_q {ki n : Nat} {f f' : Nat → Option Nat} (h : ∀ i, i < n → f i = f' i) : ceq (.inr (ki, n, .inr (.inr f))) (.inr (ki, n, .inr (.inr f'))) := fun Γ k H h1 => by
  refine Eq.trans h1 (congrArg some ?_)
  show vp_cell _ (n, .inr (.inr (.inr (.inr (fun j => (f j).map (jg_a Γ)))))) = vp_cell _ (n, .inr (.inr (.inr (.inr (fun j => (f' j).map (jg_a Γ))))))
  rw [vp_cell_q, vp_cell_q]
  exact mk_arr fun i hi => by rw [h i hi]
theorem ceq_r (x : jg_C) : ceq x x := fun _ _ _ h => h
/-- cells laid from n on -/
def apx (f : Nat → jg_C) (n : Nat) (xs : List jg_C) : Nat → jg_C := fun k => if n ≤ k then (xs[k - n]?).getD (f k) else f k
theorem app_lt {f : Nat → jg_C} {n k : Nat} {xs : List jg_C} (h : k < n) : apx f n xs k = f k := if_neg (by omega)
theorem app_at {f : Nat → jg_C} {n i : Nat} {xs : List jg_C} {x : jg_C} (h : xs[i]? = some x) : apx f n xs (n + i) = x := by
  unfold apx; rw [if_pos (by omega), Nat.add_sub_cancel_left, h]; rfl
theorem app_nil (f : Nat → jg_C) (n : Nat) : apx f n [] = f := by
  funext k; unfold apx; split <;> rfl
theorem app_push {f : Nat → jg_C} {n k : Nat} {xs xs' : List jg_C} {x : jg_C} (hk : xs.length = k) (hx : xs ++ [x] = xs') : va_up (apx f n xs) (n + k) x = apx f n xs' := by
  subst hk hx
  funext j
  by_cases e : j = n + xs.length
  · subst e; rw [va_up_self]; exact (app_at (by simp)).symm
  · rw [va_up_ne _ _ e]
    unfold apx
    by_cases h : n ≤ j
    · rw [if_pos h, if_pos h]
      by_cases h2 : j - n < xs.length
      · rw [List.getElem?_append_left h2]
      · rw [List.getElem?_eq_none (by omega), List.getElem?_eq_none (by simp; omega)]
    · rw [if_neg h, if_neg h]
theorem app_set {f : Nat → jg_C} {n i : Nat} {xs xs' : List jg_C} {x : jg_C} (hi : i < xs.length) (hx : xs.set i x = xs') : va_up (apx f n xs) (n + i) x = apx f n xs' := by
  subst hx
  funext j
  by_cases e : j = n + i
  · subst e; rw [va_up_self]; exact (app_at (by rw [List.getElem?_set_self hi])).symm
  · rw [va_up_ne _ _ e]
    unfold apx
    by_cases h : n ≤ j
    · rw [if_pos h, if_pos h, List.getElem?_set_ne (by omega)]
    · rw [if_neg h, if_neg h]
theorem app_app {f : Nat → jg_C} {n k : Nat} {xs ys zs : List jg_C} (hk : xs.length = k) (hz : xs ++ ys = zs) : apx (apx f n xs) (n + k) ys = apx f n zs := by
  subst hk hz
  funext j
  unfold apx
  by_cases h : n ≤ j
  · by_cases h2 : n + xs.length ≤ j
    · rw [if_pos h2, if_pos h, if_pos h, List.getElem?_append_right (by omega), List.getElem?_eq_none (l := xs) (by omega), show j - n - xs.length = j - (n + xs.length) by omega]; rfl
    · rw [if_neg h2, if_pos h, if_pos h, List.getElem?_append_left (by omega)]
  · rw [if_neg (by omega), if_neg h, if_neg h]
theorem jg_R.app {Γ : jg_G} {h : jg_H} {H H1 : Heap} {xs : List jg_C} (hR : jg_R Γ h H) (hn : h.2 + xs.length ≤ 1000000) (hs : H1.size = H.size + xs.length) (ho : ∀ y : Nat, y < H.size → H1[y]? = H[y]?) (hx : ∀ i x, xs[i]? = some x → jg_at Γ (h.2 + i) H1 x) : jg_R Γ (apx h.1 h.2 xs, h.2 + xs.length) H1 := by
  have e0 := hR.1
  refine ⟨by rw [hs, hR.1]; exact Nat.add_assoc _ _ _, hn, fun y hy => (ho y (by omega)).trans (hR.2.2.1 y hy), fun k hk => ?_⟩
  have hk' : k < h.2 + xs.length := hk
  by_cases e : k < h.2
  · show jg_at Γ k H1 (apx h.1 h.2 xs k)
    rw [app_lt e]
    exact (hR.2.2.2 k e).kept (ho _ (by rw [hR.lt e]; omega))
  · obtain ⟨i, rfl⟩ : ∃ i, k = h.2 + i := ⟨k - h.2, by omega⟩
    have hi : i < xs.length := by omega
    show jg_at Γ (h.2 + i) H1 (apx h.1 h.2 xs (h.2 + i))
    rw [app_at (List.getElem?_eq_getElem hi)]
    exact hx i _ (List.getElem?_eq_getElem hi)
theorem mk_asg {vm : Vm} {c : ClassId} : vm.assignable c c = true := by
  unfold Vm.assignable Vm.assignableAux
  simp
theorem mk_outer (c : ClassId) (N h0 : Nat) : ∀ i : Nat, Jvm.Free.Multi.outerC c N h0 i = arrV c N (fun j => va_rf (if j < i then some (h0 + 1 + j) else none)) := by
  intro i
  induction i with
  | zero =>
    show ({ cls := c, slots := Array.replicate N .null, vm := .none } : Cell) = _
    rw [arrV_new]
    exact congrArg (arrV c N) (funext fun j => by simp [va_rf])
  | succ i ih =>
    show (Jvm.Free.Multi.outerC c N h0 i).setSlot i (.ref (h0 + 1 + i)) = _
    rw [ih, arrV_store]
    refine congrArg (arrV c N) (funext fun j => ?_)
    by_cases e : j = i
    · subst e; simp [updV, va_rf]
    · by_cases h : j < i
      · simp [updV, e, h, Nat.lt_succ_of_lt h]
      · simp [updV, e, h, show ¬ j < i + 1 by omega]
section MKR
variable {Γ : jg_G} {M M' : jg_Md} {d d' a b a' b' pc : Nat} {L L' : List (Option Value)} {S : List Value} {h : jg_H} {Q : jg_Q}
/-- another heap that the machine can't tell from this one -/
theorem jg_swap {h' : jg_H} (h2 : h.2 = h'.2) (hc : ∀ k, k < h.2 → ceq (h.1 k) (h'.1 k)) (kk : jg Γ M d a b pc L S h' Q) : jg Γ M d a b pc L S h Q := by
  intro p e R s m args below meth c H ls locs cells slots mc ms hE h1 h2' h3 h4 hf hz hR hL
  exact kk p e R s m args below meth c H ls locs cells slots mc ms hE h1 h2' h3 h4 hf hz ⟨by rw [← h2]; exact hR.1, by rw [← h2]; exact hR.2.1, hR.2.2.1, fun k hk => hc k (by rw [h2]; exact hk) Γ k H (hR.2.2.2 k (by rw [h2]; exact hk))⟩ hL
theorem jg_mna {idx N K : Nat} {n k : Int32} (hw : Cond.classLink M.1.cls idx "[[I" ∈ jg_ws) (hw2 : Cond.arrayClass .int ∈ jg_ws) (hd : decode M.2.1 pc = .ok (.multianewarray idx 2, 4)) (hn0 : ¬ n < 0) (hk0 : ¬ k < 0) (hN : n.toNatClampNeg = N) (hK : k.toNatClampNeg = K) (hb1 : N * 4 ≤ 536870912) (hb2 : K * 4 ≤ 536870912) (hn : h.2 + (1 + N) ≤ 1000000) (ha : 1 + N ≤ a) (hb : N + N * K ≤ b)
    (kk : jg Γ M d (a - (1 + N)) (b - (N + N * K)) (pc + 4) L (.ref h.2 :: S) (apx h.1 h.2 (.inr (7, N, .inr (.inr (fun i => some (h.2 + 1 + i)))) :: List.replicate N (.inr (0, K, .inl (fun _ => 0)))), h.2 + (1 + N)) Q) : jg Γ M d a b pc L (.int k :: .int n :: S) h Q := by
  intro p e R s m args below meth c H ls locs cells slots mc ms hE h1 h2 h3 h4 hf hz hR hL
  obtain ⟨x1, x2, x3, x4, x5, x6, x7, x8, x9, x10, x11, x12⟩ := id hE
  have hsz : H.size = jg_a Γ h.2 := by rw [jg_a_lt Γ (by omega)]; exact hR.1
  subst hN hK
  intro T hT Xs
  obtain ⟨vm₁, cA, comp, -, fA, fC, hO, -, X', step⟩ := Jvm.Stand.multianewarray2F Xs x1 x5 (x6 _ hw) (va_AOA.use x11.2.2.2.2.2.2.2.2.2.2.2.2.2) (x6 _ hw2) (g := F0 m pc ls (.int k :: .int n :: S.map (jg_v Γ))) rfl (by rw [x2]; exact hd) rfl hn0 hk0 hb1 (by show _ * 4 ≤ _; exact hb2) (by omega) rfl rfl (by omega) (by omega)
  have eA : cA = jg_dA Γ 7 := Option.some.inj (fA.symm.trans (x11.2.1.2 7 _ rfl).2)
  have eC : comp = jg_dA Γ 0 := Option.some.inj (fC.symm.trans (x11.2.1.2 0 _ rfl).2)
  subst eA eC
  have hTh : (T.setVm vm₁).heap = H := hT
  obtain ⟨f1, f2, -, -⟩ := Jvm.Free.Multi.fill_facts (T.setVm vm₁) (jg_dA Γ 7) (jg_dA Γ 0) n.toNatClampNeg k.toNatClampNeg (defaultValue .int) n.toNatClampNeg
  have hold : ∀ x : Nat, x < H.size → (Jvm.Free.Multi.fill (T.setVm vm₁) (jg_dA Γ 7) (jg_dA Γ 0) n.toNatClampNeg k.toNatClampNeg (defaultValue .int) n.toNatClampNeg).heap[x]? = H[x]? := fun x hx => by
    have := Jvm.Free.Multi.fill_old (T.setVm vm₁) (jg_dA Γ 7) (jg_dA Γ 0) n.toNatClampNeg k.toNatClampNeg (defaultValue .int) (a := x) (by rw [hTh]; exact hx) n.toNatClampNeg
    rw [hTh] at this
    exact this
  have hrow : ∀ j : Nat, j < n.toNatClampNeg → (Jvm.Free.Multi.fill (T.setVm vm₁) (jg_dA Γ 7) (jg_dA Γ 0) n.toNatClampNeg k.toNatClampNeg (defaultValue .int) n.toNatClampNeg).heap[H.size + 1 + j]? = some (Jvm.Free.Multi.innerC (jg_dA Γ 0) k.toNatClampNeg (defaultValue .int)) := fun j hj => by
    have := Jvm.Free.Multi.fill_inner (T.setVm vm₁) (jg_dA Γ 7) (jg_dA Γ 0) n.toNatClampNeg k.toNatClampNeg (defaultValue .int) n.toNatClampNeg j hj
    rw [hTh] at this
    exact this
  rw [hTh] at f1 f2
  generalize Jvm.Free.Multi.fill (T.setVm vm₁) (jg_dA Γ 7) (jg_dA Γ 0) n.toNatClampNeg k.toNatClampNeg (defaultValue .int) n.toNatClampNeg = F at X' step f1 f2 hold hrow
  have hR' : jg_R Γ (apx h.1 h.2 (.inr (7, n.toNatClampNeg, .inr (.inr (fun i => some (h.2 + 1 + i)))) :: List.replicate n.toNatClampNeg (.inr (0, k.toNatClampNeg, .inl (fun _ => 0)))), h.2 + (1 + n.toNatClampNeg)) F.heap := by
    have h9 := jg_R.app (H1 := F.heap) (xs := .inr (7, n.toNatClampNeg, .inr (.inr (fun i => some (h.2 + 1 + i)))) :: List.replicate n.toNatClampNeg (.inr (0, k.toNatClampNeg, .inl (fun _ => 0)))) hR (by simp; omega) (by rw [f1]; simp; omega) hold (fun i x hx => ?_)
    · simpa [Nat.add_comm] using h9
    · cases i with
      | zero =>
        cases hx
        show F.heap[jg_a Γ (h.2 + 0)]? = some (vp_cell (jg_dA Γ 7) (n.toNatClampNeg, .inr (.inr (.inr (.inr (fun j => (some (h.2 + 1 + j)).map (jg_a Γ)))))))
        rw [Nat.add_zero, ← hsz, f2, vp_cell_q, mk_outer]
        refine congrArg some (mk_arr fun j hj => ?_)
        rw [if_pos hj]
        show va_rf (some _) = va_rf (some _)
        rw [hsz, jg_a_lt Γ (show h.2 < 1000000 by omega), jg_a_lt Γ (show h.2 + 1 + j < 1000000 by omega)]
        congr 2
        omega
      | succ i =>
        have hi : i < n.toNatClampNeg := by
          have := (List.getElem?_eq_some_iff.mp hx).1
          simpa using this
        rw [List.getElem?_cons_succ, List.getElem?_replicate, if_pos hi] at hx
        cases hx
        show F.heap[jg_a Γ (h.2 + (i + 1))]? = some (vp_cell (jg_dA Γ 0) (k.toNatClampNeg, .inl (fun _ => 0)))
        rw [jg_a_lt Γ (by omega), show jg_z Γ + (h.2 + (i + 1)) = H.size + 1 + i by rw [hR.1]; omega, hrow i hi, vp_cell_i]
        exact congrArg some (arrV_new _ _ _)
  have hsz2 : s.heap.size ≤ F.heap.size := by omega
  obtain ⟨t, b1, b2⟩ := kk p e R s m args below meth c F.heap ls locs (cells + 1 + n.toNatClampNeg) (slots + n.toNatClampNeg + n.toNatClampNeg * k.toNatClampNeg) mc ms hE (by omega) (by omega) h3 h4 hf hsz2 hR' hL F rfl X'
  refine ⟨t, step t ?_, b2⟩
  rw [show T.heap.size = jg_a Γ h.2 by rw [hT]; exact hsz]
  exact b1
theorem jg_clone {idx q N : Nat} {f : Nat → Int32} (hM : M.1.cls = "java/util/Arrays") (hl : Cond.methodLink "java/util/Arrays" idx ⟨"[I", "clone", "()Ljava/lang/Object;"⟩ ∈ jg_ws) (hsame : Cond.sameMethod "[I" "java/lang/Object" "clone" "()Ljava/lang/Object;" ∈ jg_ws) (hnat : Cond.native ⟨"java/lang/Object", "clone", "()Ljava/lang/Object;"⟩ ∈ jg_ws) (hinst : Cond.instanceMethod ⟨"java/lang/Object", "clone", "()Ljava/lang/Object;"⟩ ∈ jg_ws) (hsel : Cond.selects "[I" ⟨"[I", "clone", "()Ljava/lang/Object;"⟩ ⟨"java/lang/Object", "clone", "()Ljava/lang/Object;"⟩ ∈ jg_ws) (hcd : Cond.castable "[I" "java/lang/Cloneable" ∈ jg_cd)
    (hd : decode M.2.1 pc = .ok (.invokevirtual idx, 3)) (hq : q < h.2) (hc : h.1 q = .inr (0, N, .inl f)) (hn : h.2 < 1000000) (ha : 1 ≤ a) (hb : N ≤ b) (hdd : 1 ≤ d) (hS : (S.map fun v => v.category).sum ≤ 8) (kk : jg Γ M d (a - 1) (b - N) (pc + 3) L (.ref h.2 :: S) (va_up h.1 h.2 (.inr (0, N, .inl f)), h.2 + 1) Q) : jg Γ M d a b pc L (.ref q :: S) h Q := by
  intro p e R s m args below meth c H ls locs cells slots mc ms hE h1 h2 h3 h4 hf hz hR hL
  obtain ⟨x1, x2, x3, x4, x5, x6, x7, x8, x9, x10, x11, x12⟩ := id hE
  have hsz : H.size = jg_a Γ h.2 := by rw [jg_a_lt Γ hn]; exact hR.1
  have hsum : ((S.map (jg_v Γ)).map fun v => v.category).sum ≤ 8 := by rw [jg_cat]; exact hS
  have hcell := jg_arr hR hq hc
  have hnm : s.vm.findClass "[I" = some (jg_dA Γ 0) := (x11.2.1.2 0 _ rfl).2
  obtain ⟨c0, t0', f1, f2, f3⟩ := Cond.castable_spec (va_Nw.use (A := args) rfl (x11.2.2.2.2.2.2.2.2.2.1 _ hcd))
  cases hnm.symm.trans f1
  intro T hT X
  have hcellT : T.heap[jg_a Γ q]? = some (vp_cell (jg_dA Γ 0) (N, .inl f)) := by rw [hT]; exact hcell
  obtain ⟨-, kA, hkA, comp, hkind⟩ := State.isArrayOf_alike X.warmed.alike ((x11.2.1.2 0 _ rfl).1 0 (fun _ => .null))
  obtain ⟨-, kS, hkS, compS, hkindS⟩ := (x11.2.1.2 0 _ rfl).1 0 (fun _ => .null)
  obtain ⟨vm', X', st⟩ := X.cloneArray x1 (hM ▸ x5) (x6 _ hl) (x6 _ hsame) (x6 _ hnat) (x6 _ hinst) (x6 _ hsel) (a := jg_a Γ q) (cell := vp_cell (jg_dA Γ 0) (N, .inl f)) hcellT (fun k h => by cases h) (fun h => by cases h) hnm f2 f3
    (fun i v hv => by
      have hk' : T.vm.classes[jg_dA Γ 0]? = some kA := hkA
      have hi : i < N := by
        have h9 := (Array.getElem?_eq_some_iff.mp hv).1
        rw [show (vp_cell (jg_dA Γ 0) (N, .inl f)).slots.size = N from arrV_size _ _ _] at h9
        exact h9
      have hv2 : v = .int (f i) := (Option.some.inj ((arrV_read (jg_dA Γ 0) (fun j => .int (f j)) hi).symm.trans hv)).symm
      subst hv2
      show T.fitsSlot (jg_dA Γ 0) .none i (.int (f i)) = true
      simp only [State.fitsSlot, State.slotType?, hk', hkind]
      simp [hk', hkind]
      rfl)
    (g := F0 m pc ls (.ref (jg_a Γ q) :: S.map (jg_v Γ))) rfl (by exact hL.1.trans x4.symm) rfl (by rw [x2]; exact hd) (by omega) (by show 2 * 0 + _ + 14 ≤ _; omega) (by omega) (by rw [show (vp_cell (jg_dA Γ 0) (N, .inl f)).slots.size = N from arrV_size _ _ _]; omega) (hloader := Vm.clonesLoader_of_array hkS hkindS)
  rw [show (vp_cell (jg_dA Γ 0) (N, .inl f)).slots.size = N from arrV_size _ _ _] at X'
  have hcE : ({ cls := (vp_cell (jg_dA Γ 0) (N, .inl f)).cls, slots := (vp_cell (jg_dA Γ 0) (N, .inl f)).slots } : Cell) = vp_cell (jg_dA Γ 0) (N, .inl f) := rfl
  rw [hcE] at X'
  have hH : ((T.setVm vm').pushCell (vp_cell (jg_dA Γ 0) (N, .inl f))).heap = H.push (vp_cell (jg_dA Γ 0) (N, .inl f)) := by rw [← hT]; rfl
  obtain ⟨t, b1, b2⟩ := kk p e R s m args below meth c (H.push (vp_cell (jg_dA Γ 0) (N, .inl f))) ls locs (cells + 1) (slots + N) mc ms hE (by omega) (by omega) h3 h4 hf (by rw [Array.size_push]; omega) (hR.push hn (by rw [Array.size_push]) (fun y hy => by rw [Array.getElem?_push, if_neg (Nat.ne_of_lt hy)]) (by show (H.push _)[jg_a Γ h.2]? = some (vp_cell (jg_dA Γ 0) (N, .inl f)); rw [← hsz, Array.getElem?_push_size])) hL _ hH X'
  refine ⟨t, st t ?_, b2⟩
  rw [hcE, show T.heap.size = jg_a Γ h.2 by rw [hT]; exact hsz]
  exact b1
theorem jg_castI {idx q N : Nat} {f : Nat → Int32} (hw : Cond.classLink M.1.cls idx "[I" ∈ jg_ws) (hd : decode M.2.1 pc = .ok (.checkcast idx, 3)) (hq : q < h.2) (hc : h.1 q = .inr (0, N, .inl f)) (kk : jg Γ M d a b (pc + 3) L (.ref q :: S) h Q) : jg Γ M d a b pc L (.ref q :: S) h Q := by
  intro p e R s m args below meth c H ls locs cells slots mc ms hE h1 h2 h3 h4 hf hz hR hL
  obtain ⟨x1, x2, x3, x4, x5, x6, x7, x8, x9, x10, x11, x12⟩ := id hE
  have hnm : s.vm.findClass "[I" = some (jg_dA Γ 0) := (x11.2.1.2 0 _ rfl).2
  intro T hT X
  have hcellT : T.heap[jg_a Γ q]? = some (vp_cell (jg_dA Γ 0) (N, .inl f)) := by rw [hT]; exact jg_arr hR hq hc
  obtain ⟨vm', X', st⟩ := X.checkcastYes x1 x5 (x6 _ hw) (cell := vp_cell (jg_dA Γ 0) (N, .inl f)) hcellT rfl hnm mk_asg (g := F0 m pc ls (.ref (jg_a Γ q) :: S.map (jg_v Γ))) rfl rfl (by rw [x2]; exact hd)
  obtain ⟨t, b1, b2⟩ := kk p e R s m args below meth c H ls locs cells slots mc ms hE h1 h2 h3 h4 hf hz hR hL (T.setVm vm') hT X'
  exact ⟨t, st t b1, b2⟩
end MKR
