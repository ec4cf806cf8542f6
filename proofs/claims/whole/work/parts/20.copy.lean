/-! rows are copied -/
set_option maxRecDepth 20000 in
theorem wl_cp11 : Cond.methodLink RX11 486 arraycopyName ∈ jg_ws := (jg_m4 20 rfl rfl)
set_option maxRecDepth 20000 in
theorem wl_cpJ7 : Cond.methodLink RJ7 150 arraycopyName ∈ jg_ws := (jg_m7 9 rfl rfl)
set_option maxRecDepth 20000 in
theorem ws_cp : Cond.static arraycopyName ∈ jg_ws := (jg_m4 21 rfl rfl)
set_option maxRecDepth 20000 in
theorem wn_cp : Cond.native arraycopyName ∈ jg_ws := (jg_m4 22 rfl rfl)
theorem dX11_copyRow_0 : decode cX11_copyRow 0 = .ok (.aload_n 0, 1) := by decide +kernel
theorem dX11_copyRow_1 : decode cX11_copyRow 1 = .ok (.iconst 0, 1) := by decide +kernel
theorem dX11_copyRow_2 : decode cX11_copyRow 2 = .ok (.aload_n 1, 1) := by decide +kernel
theorem dX11_copyRow_3 : decode cX11_copyRow 3 = .ok (.iconst 0, 1) := by decide +kernel
theorem dX11_copyRow_4 : decode cX11_copyRow 4 = .ok (.aload_n 0, 1) := by decide +kernel
theorem dX11_copyRow_5 : decode cX11_copyRow 5 = .ok (.arraylength, 1) := by decide +kernel
theorem dX11_copyRow_6 : decode cX11_copyRow 6 = .ok (.aload_n 1, 1) := by decide +kernel
theorem dX11_copyRow_7 : decode cX11_copyRow 7 = .ok (.arraylength, 1) := by decide +kernel
theorem dX11_copyRow_8 : decode cX11_copyRow 8 = .ok (.invokestatic 484, 3) := by decide +kernel
theorem dX11_copyRow_11 : decode cX11_copyRow 11 = .ok (.invokestatic 486, 3) := by decide +kernel
theorem dX11_copyRow_14 : decode cX11_copyRow 14 = .ok (.return_, 1) := by decide +kernel
section ACP
variable {p : Program} {l : Launch} {e : Env} {R : Room} {s : State} {m : MethodId} {args : Array Value} {below : List Frame} {meth : Method} {c : Code} {H : Heap} {locs : List Loc} {cells slots : Nat} {Q : State → Prop} {cc : ByteArray} {pc : Nat} {ls : Array Slot} {rest : List Value}
theorem jw_nn (z : Int32) (hz : ¬ z < 0) : z.toInt = (z.toNatClampNeg : Int) := by
  obtain ⟨j, hj, rfl⟩ := nI_of hz
  rw [nI_toInt hj, nI_clamp hj]
theorem jw_copy (hexec : p.tables.exec = Jvm.exec) (hb : c.code = cc) (hml : c.maxLocals = ls.size) {own : String} {index : Nat} (hown : s.vm.findClass own = some m.cls) (hlink : (Cond.methodLink own index arraycopyName).before args s = true) (hnat : (Cond.native arraycopyName).before args s = true) (hstat : (Cond.static arraycopyName).before args s = true) (hini : (Cond.initialized "java/lang/System").before args s = true)
    {a0 a1 : Nat} {cI : ClassId} {n0 n1 : Nat} {f g : Nat → Int32} (hA : ArrOfT s cI .int) (hc0 : H[a0]? = some (vp_cell cI (n0, .inl f))) (hc1 : H[a1]? = some (vp_cell cI (n1, .inl g))) {sp dp n : Int32} (h1 : ¬ sp < 0) (h2 : ¬ dp < 0) (h3 : ¬ n < 0) (h4 : sp.toNatClampNeg + n.toNatClampNeg ≤ n0) (h5 : dp.toNatClampNeg + n.toNatClampNeg ≤ n1)
    (hframes : 1 ≤ R.frames) (hlocals : (rest.map fun v => v.category).sum + (nativeFrameWords "java/lang/System" "arraycopy" 5 + 11) ≤ R.locals) (hdg : decode cc pc = .ok (.invokestatic index, 3))
    (kk : ∀ locs1 : List Loc, (∀ y ∈ locs1, y ∈ locs ∨ y.base = a1) → W p l e R s m args below meth c (H.setIfInBounds a1 (vp_cell cI (n1, .inl (va_cpy f g sp.toNatClampNeg dp.toNatClampNeg n.toNatClampNeg)))) locs1 cells slots Q (F0 m (pc + 3) ls rest)) : W p l e R s m args below meth c H locs cells slots Q (F0 m pc ls (.int n :: .int dp :: .ref a1 :: .int sp :: .ref a0 :: rest)) := by
  intro T hT X
  obtain ⟨-, k0, hk0, cm0, hkk0⟩ := hA n0 (fun j => .int (f j))
  obtain ⟨-, k1, hk1, cm1, hkk1⟩ := hA n1 (fun j => .int (g j))
  obtain ⟨vm', X', step⟩ := X.arraycopy hexec hown hlink hnat hstat hini (src := a0) (dst := a1) (cs := vp_cell cI (n0, .inl f)) (cd := vp_cell cI (n1, .inl g)) (srcPos := sp) (destPos := dp) (n := n) (by rw [hT]; exact hc0) (by rw [hT]; exact hc1)
    (fun _ h => by cases h) (fun _ h => by cases h) (fun h => by cases h) (fun h => by cases h) hk0 hk1 hkk0 hkk1 (by simp [show refKind .int = false from rfl]) h1 h2 h3
    (by rw [jw_nn sp h1, jw_nn n h3]; show ¬ _ > ((arrV cI n0 (fun j => .int (f j))).slots.size : Int); rw [arrV_size]; omega)
    (by rw [jw_nn dp h2, jw_nn n h3]; show ¬ _ > ((arrV cI n1 (fun j => .int (g j))).slots.size : Int); rw [arrV_size]; omega)
    (fun vm₁ _ i hi => by
      have e : (vp_cell cI (n0, .inl f)).slots.getD (sp.toNatClampNeg + i) .null = .int (f (sp.toNatClampNeg + i)) := by
        show (arrV cI n0 (fun j => .int (f j))).slots.getD _ _ = _
        rw [Array.getD_eq_getD_getElem?, arrV_read _ _ (by omega)]
        rfl
      exact ⟨by rw [e]; rfl, by rw [e]; exact trivial⟩)
    (g := F0 m pc ls (.int n :: .int dp :: .ref a1 :: .int sp :: .ref a0 :: rest)) rfl (by rw [hml]) (rest := rest) rfl (by rw [hb]; exact hdg) hframes (by show 2 * 0 + _ + _ ≤ _; omega)
  rw [show copied (vp_cell cI (n0, .inl f)) (vp_cell cI (n1, .inl g)) sp dp n = vp_cell cI (n1, .inl (va_cpy f g sp.toNatClampNeg dp.toNatClampNeg n.toNatClampNeg)) from va_copied (fun z => .int z) cI cI f g h4] at X' step
  obtain ⟨t, b1, b2⟩ := kk _ (fun y hy => by
      rcases List.mem_append.mp hy with h | h
      · exact Or.inl h
      · obtain ⟨z, -, hz⟩ := List.mem_map.mp h
        exact Or.inr (by rw [← hz])) _ (by rw [← hT]; rfl) X'
  exact ⟨t, step t b1, b2⟩
end ACP
section ACQ
variable {Γ : jg_G} {M : jg_Md} {d a b pc : Nat} {L : List (Option Value)} {S : List Value} {h : jg_H} {Q : jg_Q}
theorem jg_copy {idx q0 q1 n0 n1 : Nat} {f g : Nat → Int32} {sp dp n : Int32} (hw : Cond.methodLink M.1.cls idx arraycopyName ∈ jg_ws) (hd : decode M.2.1 pc = .ok (.invokestatic idx, 3)) (hq0 : q0 < h.2) (hq1 : q1 < h.2) (hc0 : h.1 q0 = .inr (0, n0, .inl f)) (hc1 : h.1 q1 = .inr (0, n1, .inl g)) (h1 : ¬ sp < 0) (h2 : ¬ dp < 0) (h3 : ¬ n < 0) (h4 : sp.toNatClampNeg + n.toNatClampNeg ≤ n0) (h5 : dp.toNatClampNeg + n.toNatClampNeg ≤ n1) (hdd : 1 ≤ d) (hS : (S.map fun v => v.category).sum ≤ 8)
    (kk : jg Γ M d a b (pc + 3) L S (va_up h.1 q1 (.inr (0, n1, .inl (va_cpy f g sp.toNatClampNeg dp.toNatClampNeg n.toNatClampNeg))), h.2) Q) : jg Γ M d a b pc L (.int n :: .int dp :: .ref q1 :: .int sp :: .ref q0 :: S) h Q := by
  intro p e R s m args below meth c H ls locs cells slots mc ms hE g1 g2 g3 g4 hf hz hR hL
  obtain ⟨x1, x2, x3, x4, x5, x6, x7, x8, x9, x10, x11, x12⟩ := id hE
  have hl : jg_a Γ q1 < H.size := (Array.getElem?_eq_some_iff.mp (jg_arr hR hq1 hc1)).1
  have hsum : ((S.map (jg_v Γ)).map fun v => v.category).sum ≤ 8 := by rw [jg_cat]; exact hS
  have hnf : nativeFrameWords "java/lang/System" "arraycopy" 5 ≤ 40 := by decide
  refine jw_copy (rest := S.map (jg_v Γ)) x1 x2 (x4.trans hL.1.symm) x5 (x6 _ hw) (x6 _ wn_cp) (x6 _ ws_cp) (x6 _ wi_J10) (jg_isArr (ki := 0) x11 rfl) (jg_arr hR hq0 hc0) (jg_arr hR hq1 hc1) h1 h2 h3 h4 h5 (by omega) (by omega) hd (fun locs1 hl1 => ?_)
  refine kk p e R s m args below meth c _ ls _ cells slots mc ms hE g1 g2 g3 g4 (fun y hy => ?_) (by simpa using hz) (hR.set hq1 (by simp) (fun y hy => by simp [Array.getElem?_setIfInBounds, Ne.symm hy]) ?_) hL
  · rcases hl1 y hy with h9 | h9
    · exact hf y h9
    · rw [h9]; exact hR.ge hq1
  · show (H.setIfInBounds _ _)[jg_a Γ q1]? = some (vp_cell _ (n1, .inl _))
    simp [Array.getElem?_setIfInBounds, hl]
    try rfl
end ACQ
/-- a row is copied onto another of the same length -/
def cc (s : cS) (q0 q1 len : Nat) : cS := (va_up s.1 q1 (fun i => if i < len then s.1 q0 i else s.1 q1 i), s.2)
theorem t_copyRow {Γ : jg_G} {g : Nat → jg_C} {τ : cT} {n : Nat} (s : cS) (q0 q1 len : Nat) (hlen : len < 2 ^ 31) (h0 : Ar τ n q0 0 len) (h1 : Ar τ n q1 0 len) : jc Γ mX11_copyRow 1 0 0 [some (.ref q0), some (.ref q1)] (ct_h g τ s, n) (.inl none) (ct_h g τ (cc s q0 q1 len), n) := by
  refine jc_of ?_
  refine jg_aload_n dX11_copyRow_0 rfl ?_
  refine jg_iconst (v := 0) dX11_copyRow_1 (by decide) ?_
  refine jg_aload_n dX11_copyRow_2 rfl ?_
  refine jg_iconst (v := 0) dX11_copyRow_3 (by decide) ?_
  refine jg_aload_n dX11_copyRow_4 rfl ?_
  refine cs_len (by decide) dX11_copyRow_5 h0 ?_
  refine jg_aload_n dX11_copyRow_6 rfl ?_
  refine cs_len (by decide) dX11_copyRow_7 h1 ?_
  refine jg_mmin (x := nI len) (y := nI len) km_X11_484 jw_min.1 jw_min.2 dX11_copyRow_8 (by decide) (Nat.le_of_ble_eq_true rfl) ?_
  rw [show (if nI len < nI len then nI len else nI len) = nI len by split <;> rfl]
  refine jg_copy (S := []) wl_cp11 dX11_copyRow_11 h0.1 h1.1 (ct_ri h0 (by decide)) (ct_ri h1 (by decide)) (by decide) (by decide) (nI_pos hlen) (by rw [nI_clamp hlen]; exact Nat.le_of_eq (Nat.zero_add _)) (by rw [nI_clamp hlen]; exact Nat.le_of_eq (Nat.zero_add _)) (by decide) (Nat.le_of_ble_eq_true rfl) ?_
  refine jg_return dX11_copyRow_14 rfl ⟨rfl, ?_⟩
  refine congrArg (fun z => (z, n)) (ct_ne (s' := cc s q0 q1 len) (fun a h => va_up_ne _ _ h) (fun _ _ => rfl) ?_)
  rw [ct_ri h1 (by decide)]
  show Sum.inr (0, len, Sum.inl (va_up s.1 q1 _ q1)) = _
  rw [va_up_self, nI_clamp hlen]
  refine congrArg (fun z => Sum.inr (0, len, Sum.inl z)) (funext fun i => ?_)
  show (if i < len then s.1 q0 i else s.1 q1 i) = (if 0 ≤ i ∧ i < 0 + len then s.1 q0 (0 + (i - 0)) else s.1 q1 i)
  by_cases hi : i < len
  · rw [if_pos hi, if_pos ⟨Nat.zero_le _, by omega⟩, show 0 + (i - 0) = i by omega]
  · rw [if_neg hi, if_neg (by omega)]
theorem lk_eq {k : Nat} (hk : k < 2 ^ 31) {x : Int32} (h : Int.ofNat k = x.toInt) : x = nI k := Int32.toInt_inj.mp (by rw [nI_toInt hk]; exact h.symm)
theorem zb_fits {x : Int32} (h : zb x) : fits .boolean (.int x) = true := by rcases h with h | h <;> rw [h] <;> rfl
theorem ltb {a b : Nat} (h : Nat.ble (a + 1) b = true) : a < b := Nat.le_of_ble_eq_true h
theorem cs_sub {Γ : jg_G} {g : Nat → jg_C} {M : jg_Md} {d a b pc : Nat} {L : List (Option Value)} {S : List Value} {Q : jg_Q} {τ : cT} {n : Nat} {s s1 : cS} (e : s = s1) (k : jg Γ M d a b pc L S (ct_h g τ s1, n) Q) : jg Γ M d a b pc L S (ct_h g τ s, n) Q := by subst e; exact k
theorem oe_n {α β : Type} {x : β} {f : α → β} {r : β} (h : Option.elim none x f = r) : x = r := h
theorem oe_s {α β : Type} {x : β} {f : α → β} {y : α} {r : β} (h : Option.elim (some y) x f = r) : f y = r := h
