/-! NEW CELLS, RETURNS, CALLS -/
section JGN
variable {Γ : jg_G} {M : jg_Md} {d a b pc : Nat} {L : List (Option Value)} {S : List Value} {h : jg_H} {Q : jg_Q}
theorem jg_new {idx ci N : Nat} {C : String} {T : u_T} {ty : Nat → FieldType} {fs : List Value} (hCl : jg_Cl ci C T N ty) (hw1 : Cond.classLink M.1.cls idx C ∈ jg_ws) (hw2 : Cond.instantiable C N ∈ jg_ws) (hw3 : Cond.initialized C ∈ jg_ws) (hfs : ∀ j, j < N → defaultValue (ty j) = vp_V (fs.map (jg_v Γ)) j) (hd : decode M.2.1 pc = .ok (.new idx, 3)) (hn : h.2 < 1000000) (ha : 1 ≤ a) (hb : N ≤ b) (kk : jg Γ M d (a - 1) (b - N) (pc + 3) L (.ref h.2 :: S) (va_up h.1 h.2 (.inl (ci, fs)), h.2 + 1) Q) : jg Γ M d a b pc L S h Q := by
  intro p e R s m args below meth c H ls locs cells slots mc ms hE h1 h2 h3 h4 hf hz hR hL
  obtain ⟨c1, c2, c3, c4⟩ := hCl
  obtain ⟨x1, x2, x3, x4, x5, x6, x7, x8, x9, x10, x11, x12⟩ := id hE
  have hKn := x11.2.1.1 ci _ c1
  have hsz : H.size = jg_a Γ h.2 := by rw [jg_a_lt Γ hn]; exact hR.1
  refine W.newcK x1 x2 x5 (x6 _ hw1) (x6 _ hw2) (x6 _ hw3) rfl hd (by omega) (by omega) hKn.2.1 hsz fun H1 kC hkC e1 z1 o1 => ?_
  refine kk p e R s m args below meth c H1 ls locs (cells + 1) (slots + N) mc ms hE (by omega) (by omega) h3 h4 hf (by rw [z1, ← hsz]; omega) (hR.push hn (by rw [z1, hsz]) (fun y hy => o1 y (by rw [← hsz]; exact hy)) ?_) hL
  intro r hr
  have e9 : r = (C, T, N) := Option.some.inj (hr.symm.trans c1)
  subst e9
  exact (u_born ty x6 c2 hKn hkC e1 c3).to hfs
/-- newarray of a small whole type: kinds 0 int, 1 byte, 2 boolean -/
theorem jg_newa {ki N : Nat} {at9 : ArrayType} {n : Int32} (hki : ki < 3) (hty : jg_ty[ki]? = some (newarray.typeOf at9)) (hw : Cond.arrayClass (newarray.typeOf at9) ∈ jg_ws) (hd : decode M.2.1 pc = .ok (.newarray at9, 2)) (hn0 : ¬ n < 0) (hN : n.toNatClampNeg = N) (hby : N * 4 ≤ 536870912) (hn : h.2 < 1000000) (ha : 1 ≤ a) (hb : N ≤ b) (kk : jg Γ M d (a - 1) (b - N) (pc + 2) L (.ref h.2 :: S) (va_up h.1 h.2 (.inr (ki, N, .inl (fun _ => 0))), h.2 + 1) Q) : jg Γ M d a b pc L (.int n :: S) h Q := by
  intro p e R s m args below meth c H ls locs cells slots mc ms hE h1 h2 h3 h4 hf hz hR hL
  obtain ⟨x1, x2, x3, x4, x5, x6, x7, x8, x9, x10, x11, x12⟩ := id hE
  have hsz : H.size = jg_a Γ h.2 := by rw [jg_a_lt Γ hn]; exact hR.1
  have hdf : defaultValue (newarray.typeOf at9) = .int 0 ∧ componentBytes (newarray.typeOf at9) ≤ 4 ∧ s.vm.findClass ("[" ++ (newarray.typeOf at9).toString) = some (jg_dA Γ ki) := by
    match ki, hki with
    | 0, _ => have e0 := Option.some.inj hty; rw [← e0]; exact ⟨rfl, by decide, (x11.2.1.2 0 _ rfl).2⟩
    | 1, _ => have e0 := Option.some.inj hty; rw [← e0]; exact ⟨rfl, by decide, (x11.2.1.2 1 _ rfl).2⟩
    | 2, _ => have e0 := Option.some.inj hty; rw [← e0]; exact ⟨rfl, by decide, (x11.2.1.2 2 _ rfl).2⟩
    | k + 3, hk => exact absurd hk (by omega)
  refine va_newaK x1 x2 (x6 _ hw) rfl hd rfl hn0 hN (Nat.le_trans (Nat.mul_le_mul_left _ hdf.2.1) hby) (by omega) (by omega) hsz fun H1 cA e1 z1 o1 hAr hNm => ?_
  have hcA : cA = jg_dA Γ ki := Option.some.inj (hNm.symm.trans hdf.2.2)
  refine kk p e R s m args below meth c H1 ls locs (cells + 1) (slots + N) mc ms hE (by omega) (by omega) h3 h4 hf (by rw [z1, ← hsz]; omega) (hR.push hn (by rw [z1, hsz]) (fun y hy => o1 y (by rw [← hsz]; exact hy)) ?_) hL
  show H1[jg_a Γ h.2]? = some (vp_cell (jg_dA Γ ki) (N, .inl (fun _ => 0)))
  rw [e1, hcA, hdf.1, vp_cell_i]
theorem jg_newl {N : Nat} {n : Int32} (hw : Cond.arrayClass .long ∈ jg_ws) (hd : decode M.2.1 pc = .ok (.newarray .long, 2)) (hn0 : ¬ n < 0) (hN : n.toNatClampNeg = N) (hby : N * 8 ≤ 536870912) (hn : h.2 < 1000000) (ha : 1 ≤ a) (hb : N ≤ b) (kk : jg Γ M d (a - 1) (b - N) (pc + 2) L (.ref h.2 :: S) (va_up h.1 h.2 (.inr (3, N, .inr (.inl (fun _ => 0)))), h.2 + 1) Q) : jg Γ M d a b pc L (.int n :: S) h Q := by
  intro p e R s m args below meth c H ls locs cells slots mc ms hE h1 h2 h3 h4 hf hz hR hL
  obtain ⟨x1, x2, x3, x4, x5, x6, x7, x8, x9, x10, x11, x12⟩ := id hE
  have hsz : H.size = jg_a Γ h.2 := by rw [jg_a_lt Γ hn]; exact hR.1
  refine va_newaK (atype := .long) x1 x2 (x6 _ hw) rfl hd rfl hn0 hN hby (by omega) (by omega) hsz fun H1 cA e1 z1 o1 hAr hNm => ?_
  have hcA : cA = jg_dA Γ 3 := Option.some.inj (hNm.symm.trans (x11.2.1.2 3 _ rfl).2)
  refine kk p e R s m args below meth c H1 ls locs (cells + 1) (slots + N) mc ms hE (by omega) (by omega) h3 h4 hf (by rw [z1, ← hsz]; omega) (hR.push hn (by rw [z1, hsz]) (fun y hy => o1 y (by rw [← hsz]; exact hy)) ?_) hL
  show H1[jg_a Γ h.2]? = some (vp_cell (jg_dA Γ 3) (N, .inr (.inl (fun _ => 0))))
  rw [e1, hcA, vp_cell_l]
  rfl
/-- anewarray: kinds 4, 5, 6 -/
theorem jg_newq {ki N idx : Nat} {C : String} {n : Int32} (hki : (ki = 4 ∧ C = RX0) ∨ (ki = 5 ∧ C = RX1) ∨ (ki = 6 ∧ C = RX9)) (hw : Cond.classLink M.1.cls idx C ∈ jg_ws) (hd : decode M.2.1 pc = .ok (.anewarray idx, 3)) (hn0 : ¬ n < 0) (hN : n.toNatClampNeg = N) (hby : N * 4 ≤ 536870912) (hn : h.2 < 1000000) (ha : 1 ≤ a) (hb : N ≤ b) (kk : jg Γ M d (a - 1) (b - N) (pc + 3) L (.ref h.2 :: S) (va_up h.1 h.2 (.inr (ki, N, .inr (.inr (fun _ => none)))), h.2 + 1) Q) : jg Γ M d a b pc L (.int n :: S) h Q := by
  intro p e R s m args below meth c H ls locs cells slots mc ms hE h1 h2 h3 h4 hf hz hR hL
  obtain ⟨x1, x2, x3, x4, x5, x6, x7, x8, x9, x10, x11, x12⟩ := id hE
  have hsz : H.size = jg_a Γ h.2 := by rw [jg_a_lt Γ hn]; exact hR.1
  subst hN
  have hAO : va_AO C s ∧ s.vm.findClass ("[" ++ (FieldType.object C).toString) = some (jg_dA Γ ki) := by
    rcases hki with ⟨rfl, rfl⟩ | ⟨rfl, rfl⟩ | ⟨rfl, rfl⟩
    · obtain ⟨_, _, _, _, _, k4⟩ := (x11.2.1.2 4 _ rfl).2; exact ⟨x11.2.2.2.2.2.2.1, k4⟩
    · obtain ⟨_, _, _, _, _, k4⟩ := (x11.2.1.2 5 _ rfl).2; exact ⟨x11.2.2.2.2.2.2.2.1, k4⟩
    · obtain ⟨_, _, _, _, _, k4⟩ := (x11.2.1.2 6 _ rfl).2; exact ⟨x11.2.2.2.2.2.2.2.2.1, k4⟩
  refine W.anew x1 x2 x5 (x6 _ hw) (va_AO.use hAO.1) rfl hd rfl hn0 hby (by omega) (by omega) fun cA kA comp f1 f2 f3 f4 => ?_
  have hcA : cA = jg_dA Γ ki := Option.some.inj (f1.symm.trans hAO.2)
  subst hcA
  generalize hH1 : H.push ({ cls := jg_dA Γ ki, slots := Array.replicate n.toNatClampNeg .null, vm := .none } : Cell) = H1
  have z1 : H1.size = H.size + 1 := by rw [← hH1, Array.size_push]
  have e1 : H1[H.size]? = some (arrV (jg_dA Γ ki) n.toNatClampNeg (fun _ => .null)) := by rw [← hH1, Array.getElem?_push_size, ← arrV_new]
  have o1 : ∀ q : Nat, q < H.size → H1[q]? = H[q]? := fun q hq => by rw [← hH1, Array.getElem?_push, if_neg (Nat.ne_of_lt hq)]
  rw [hsz]
  refine kk p e R s m args below meth c H1 ls locs (cells + 1) (slots + n.toNatClampNeg) mc ms hE (by omega) (by omega) h3 h4 hf (by omega) (hR.push hn z1 o1 ?_) hL
  show H1[jg_a Γ h.2]? = some (vp_cell (jg_dA Γ ki) (n.toNatClampNeg, .inr (.inr (.inr (.inr (fun _ => none))))))
  rw [← hsz, e1, vp_cell_q]
  rfl
/-! returns -/
theorem jg_ireturn {x : Int32} (hd : decode M.2.1 pc = .ok (.ireturn, 1)) (hr : M.2.2.2 = some .int) (hq : Q (.inl (some (.int x))) h) : jg Γ M d a b pc L [.int x] h Q := by
  intro p e R s m args below meth c H ls locs cells slots mc ms hE h1 h2 h3 h4 hf hz hR hL
  exact vx_ret (W.widen (k := mc) (n := ms) (by omega) (by omega) (W.iret (v := x) hE.1 hE.2.1 (hE.2.2.1.trans hr) (fun t ht hW => ⟨some (.int x), h, rfl, hq, by rw [ht]; exact hR⟩) hf hd hE.2.2.2.2.2.2.1))
theorem jg_zreturn {x : Int32} {ty : FieldType} (hd : decode M.2.1 pc = .ok (.ireturn, 1)) (hr : M.2.2.2 = some ty) (hn : narrow ty (.int x) = .int x) (hq : Q (.inl (some (.int x))) h) : jg Γ M d a b pc L [.int x] h Q := by
  intro p e R s m args below meth c H ls locs cells slots mc ms hE h1 h2 h3 h4 hf hz hR hL
  exact vx_ret (W.widen (k := mc) (n := ms) (by omega) (by omega) (W.zret (v := x) hE.1 hE.2.1 (hE.2.2.1.trans hr) hn (fun t ht hW => ⟨some (.int x), h, rfl, hq, by rw [ht]; exact hR⟩) hf hd hE.2.2.2.2.2.2.1))
theorem jg_lreturn {x : Int64} (hd : decode M.2.1 pc = .ok (.lreturn, 1)) (hr : M.2.2.2 = some .long) (hq : Q (.inl (some (.long x))) h) : jg Γ M d a b pc L [.long x] h Q := by
  intro p e R s m args below meth c H ls locs cells slots mc ms hE h1 h2 h3 h4 hf hz hR hL
  exact vx_ret (W.widen (k := mc) (n := ms) (by omega) (by omega) (W.lret (v := x) hE.1 hE.2.1 (hE.2.2.1.trans hr) (fun t ht hW => ⟨some (.long x), h, rfl, hq, by rw [ht]; exact hR⟩) hf hd hE.2.2.2.2.2.2.1))
theorem jg_areturn {y : Nat} {rt : FieldType} (hd : decode M.2.1 pc = .ok (.areturn, 1)) (hr : M.2.2.2 = some rt) (hrt : (∃ n, rt = .object n) ∨ ∃ t, rt = .array t) (hq : Q (.inl (some (.ref y))) h) : jg Γ M d a b pc L [.ref y] h Q := by
  intro p e R s m args below meth c H ls locs cells slots mc ms hE h1 h2 h3 h4 hf hz hR hL
  exact vx_ret (W.widen (k := mc) (n := ms) (by omega) (by omega) (W.aret (v := .ref (jg_a Γ y)) hE.1 hE.2.1 (hE.2.2.1.trans hr) hrt (Or.inr ⟨_, rfl⟩) (fun t ht hW => ⟨some (.ref y), h, rfl, hq, by rw [ht]; exact hR⟩) hf hd hE.2.2.2.2.2.2.1))
theorem jg_areturnN {rt : FieldType} (hd : decode M.2.1 pc = .ok (.areturn, 1)) (hr : M.2.2.2 = some rt) (hrt : (∃ n, rt = .object n) ∨ ∃ t, rt = .array t) (hq : Q (.inl (some .null)) h) : jg Γ M d a b pc L [.null] h Q := by
  intro p e R s m args below meth c H ls locs cells slots mc ms hE h1 h2 h3 h4 hf hz hR hL
  exact vx_ret (W.widen (k := mc) (n := ms) (by omega) (by omega) (W.aret (v := .null) hE.1 hE.2.1 (hE.2.2.1.trans hr) hrt (Or.inl rfl) (fun t ht hW => ⟨some .null, h, rfl, hq, by rw [ht]; exact hR⟩) hf hd hE.2.2.2.2.2.2.1))
theorem jg_return (hd : decode M.2.1 pc = .ok (.return_, 1)) (hr : M.2.2.2 = none) (hq : Q (.inl none) h) : jg Γ M d a b pc L [] h Q := by
  intro p e R s m args below meth c H ls locs cells slots mc ms hE h1 h2 h3 h4 hf hz hR hL
  exact vx_ret (W.widen (k := mc) (n := ms) (by omega) (by omega) (W.vret hE.1 hE.2.1 (hE.2.2.1.trans hr) (fun t ht hW => ⟨none, h, rfl, hq, by rw [ht]; exact hR⟩) hf hd hE.2.2.2.2.2.2.1))
/-! constants of the pool -/
theorem jg_ldc {idx : Nat} {v : Int32} (hw : Cond.constant M.1.cls idx v ∈ jg_ws) (hd : decode M.2.1 pc = .ok (.ldc idx, 2)) (kk : jg Γ M d a b (pc + 2) L (.int v :: S) h Q) : jg Γ M d a b pc L S h Q := by
  intro p e R s m args below meth c H ls locs cells slots mc ms hE h1 h2 h3 h4 hf hz hR hL
  exact lv_ldc hE.1 hE.2.1 hE.2.2.2.2.1 (hE.2.2.2.2.2.1 _ hw) hd (kk p e R s m args below meth c H ls locs cells slots mc ms hE h1 h2 h3 h4 hf hz hR hL)
theorem jg_ldcw {idx : Nat} {v : Int32} (hw : Cond.constant M.1.cls idx v ∈ jg_ws) (hd : decode M.2.1 pc = .ok (.ldc_w idx, 3)) (kk : jg Γ M d a b (pc + 3) L (.int v :: S) h Q) : jg Γ M d a b pc L S h Q := by
  intro p e R s m args below meth c H ls locs cells slots mc ms hE h1 h2 h3 h4 hf hz hR hL
  exact lv_ldcw hE.1 hE.2.1 hE.2.2.2.2.1 (hE.2.2.2.2.2.1 _ hw) hd (kk p e R s m args below meth c H ls locs cells slots mc ms hE h1 h2 h3 h4 hf hz hR hL)
theorem jg_ldc2 {idx : Nat} {v : Int64} (hw : Cond.constantLong M.1.cls idx v ∈ jg_ws) (hd : decode M.2.1 pc = .ok (.ldc2_w idx, 3)) (kk : jg Γ M d a b (pc + 3) L (.long v :: S) h Q) : jg Γ M d a b pc L S h Q := by
  intro p e R s m args below meth c H ls locs cells slots mc ms hE h1 h2 h3 h4 hf hz hR hL
  exact lv_ldc2 hE.1 hE.2.1 hE.2.2.2.2.1 (hE.2.2.2.2.2.1 _ hw) hd (kk p e R s m args below meth c H ls locs cells slots mc ms hE h1 h2 h3 h4 hf hz hR hL)
end JGN
/-! calls -/
def jg_en : List Value → List (Option Value)
  | [] => []
  | v :: vs => if v.category = 2 then some v :: none :: jg_en vs else some v :: jg_en vs
theorem jg_en_mem (Γ : jg_G) (n : Nat) : ∀ (vs : List Value) (k i : Nat) (v : Value), (jg_en vs ++ List.replicate n none)[i]? = some (some v) → (k + i, jg_v Γ v) ∈ lv_args k (vs.map (jg_v Γ))
  | [], k, i, v, h => by
    simp [jg_en, List.getElem?_replicate] at h
  | w :: vs, k, i, v, h => by
    by_cases hc : w.category = 2
    · have hc' : (jg_v Γ w).category = 2 := (jg_v_cat Γ w).trans hc
      simp only [jg_en, hc, if_true, List.cons_append] at h
      simp only [List.map_cons, lv_args, hc', if_true]
      match i, h with
      | 0, h =>
        simp at h
        subst h
        exact List.mem_cons_self
      | 1, h => simp at h
      | i + 2, h =>
        have h1 : (jg_en vs ++ List.replicate n none)[i]? = some (some v) := by simpa using h
        have h2 := jg_en_mem Γ n vs (k + 2) i v h1
        rw [show k + (i + 2) = k + 2 + i by omega]
        exact List.mem_cons_of_mem _ h2
    · have hc' : ¬ (jg_v Γ w).category = 2 := fun q => hc ((jg_v_cat Γ w).symm.trans q)
      simp only [jg_en, hc, if_false, List.cons_append] at h
      simp only [List.map_cons, lv_args, hc', if_false]
      match i, h with
      | 0, h =>
        simp at h
        subst h
        exact List.mem_cons_self
      | i + 1, h =>
        have h1 : (jg_en vs ++ List.replicate n none)[i]? = some (some v) := by simpa using h
        have h2 := jg_en_mem Γ n vs (k + 1) i v h1
        rw [show k + (i + 1) = k + 1 + i by omega]
        exact List.mem_cons_of_mem _ h2
theorem jg_en_len (Γ : jg_G) : ∀ vs : List Value, (lg_sl (vs.map (jg_v Γ))).length = (jg_en vs).length
  | [] => rfl
  | w :: vs => by
    have ih := jg_en_len Γ vs
    unfold lg_sl at ih ⊢
    by_cases hc : w.category = 2
    · have hc' : (jg_v Γ w).category = 2 := (jg_v_cat Γ w).trans hc
      simp only [List.map_cons, List.flatMap_cons, hc', jg_en, hc, if_true, List.length_append, List.length_cons, List.length_nil, ih]
      omega
    · have hc' : ¬ (jg_v Γ w).category = 2 := fun q => hc ((jg_v_cat Γ w).symm.trans q)
      simp only [List.map_cons, List.flatMap_cons, hc', jg_en, hc, if_false, List.length_append, List.length_cons, List.length_nil, ih]
      omega
def jg_wm (M : jg_Md) : List Cond := Cond.code M.1 M.2.1 M.2.2.1 M.2.2.2 :: jg_ws
def jg_rm (d a b : Nat) : Room := { frames := d, cells := a, slots := b, locals := 64 * d }
def jg_Pc (Γ : jg_G) (As : List Value) (h : jg_H) : Array Value → State → Prop := va_Pc (As.map (jg_v Γ)) (fun U => jg_U Γ U ∧ jg_R Γ h U.heap)
theorem jg_met {Γ : jg_G} {M : jg_Md} {d a b : Nat} {As : List Value} {L : List (Option Value)} {h : jg_H} {Q : jg_Q} (hpl : plainName M.1.cls = true) (hn : (jg_en As).length ≤ M.2.2.1) (hent : jg_en As ++ List.replicate (M.2.2.1 - (jg_en As).length) none = L) (K : jg Γ M d a b 0 L [] h Q) :
    vx_Met (jg_l Γ) M.1 (jg_wm M) (jg_rm d a b) (jg_Pc Γ As h) (jg_Qc Γ Q) (jg_Xc Γ Q) a b (fun q => jg_z Γ ≤ q) := by
  refine vx_ofW (cc := M.2.1) (maxL := M.2.2.1) (ret := M.2.2.2) (ws' := jg_ws) hpl rfl ?_
  intro p e s m args below meth c s₁ B hml ht hv
  obtain ⟨rfl, hU, hR⟩ := hv
  have hts := atoms_spec (ws := jg_wm M) B.pre
  have hl := lv_entry (As.map (jg_v Γ)) (n := M.2.2.1) (by rw [jg_en_len]; exact hn)
  rw [lg_entry_eq]
  generalize (lg_sl (As.map (jg_v Γ)) ++ List.replicate (M.2.2.1 - (lg_sl (As.map (jg_v Γ))).length) Slot.unset).toArray = ls at hl ⊢
  refine K p e _ s m _ below meth c s.heap ls [] 0 0 a b ⟨B.exec, B.bytes, B.returns, hml, findClass_of_methodNamed B.named, fun w hw => hts w (List.mem_cons_of_mem _ hw), B.notSynchronized, (name_of_methodNamed B.named B.method).1, Nat.le_refl _, Nat.le_refl _, hU, ht, by rw [hR.1]; exact Nat.le_add_right _ _, hR.2.2.1⟩ (by omega) (by omega) (Nat.le_refl _) (Nat.le_refl _) (fun _ h => nomatch h) (Nat.le_refl _) hR ⟨hl.1, hl.2.1, fun i v hv => ?_⟩
  rw [← hent] at hv
  have h2 := jg_en_mem Γ _ As 0 i v hv
  rw [Nat.zero_add] at h2
  exact hl.2.2 _ h2
theorem jg_good {M : jg_Md} (hc : Cond.code M.1 M.2.1 M.2.2.1 M.2.2.2 ∈ jg_ws) : GoodIn jg_ws (jg_wm M) := by
  intro w hw
  have hm : w ∈ jg_ws := by
    rcases List.mem_cons.mp hw with rfl | h
    · exact hc
    · exact h
  exact ⟨hm, good_of_word (List.mem_filter.mp hm).2⟩
theorem jg_blind (Γ : jg_G) (As : List Value) (h : jg_H) : FrameBlind (jg_Pc Γ As h) := by
  intro a U g mk q
  obtain ⟨q0, qU, qR⟩ := q
  exact ⟨q0, jg_U.warm (State.WarmedH.refl U) qU, qR⟩
/-- entry idx of class own calls the static method M of n parameters -/
def jg_Sc (own : String) (idx : Nat) (M : jg_Md) (n : Nat) : Prop := Cond.methodLink own idx M.1 ∈ jg_ws ∧ Cond.static M.1 ∈ jg_ws ∧ Cond.initialized M.1.cls ∈ jg_ws ∧ Cond.code M.1 M.2.1 M.2.2.1 M.2.2.2 ∈ jg_ws ∧ M.1.cls ≠ "java/lang/invoke/MethodHandle" ∧ M.1.cls ≠ "java/lang/invoke/VarHandle" ∧ (parseMethodDescriptor M.1.desc).map (fun d => d.parameters.length) = some n ∧ plainName M.1.cls = true
/-- .. the instance method M -/
def jg_Vc (own : String) (idx : Nat) (M : jg_Md) (n : Nat) : Prop := Cond.methodLink own idx M.1 ∈ jg_ws ∧ Cond.instanceMethod M.1 ∈ jg_ws ∧ Cond.selects M.1.cls M.1 M.1 ∈ jg_ws ∧ Cond.initialized M.1.cls ∈ jg_ws ∧ Cond.code M.1 M.2.1 M.2.2.1 M.2.2.2 ∈ jg_ws ∧ M.1.cls ≠ "java/lang/invoke/MethodHandle" ∧ M.1.cls ≠ "java/lang/invoke/VarHandle" ∧ (parseMethodDescriptor M.1.desc).map (fun d => d.parameters.length) = some n ∧ plainName M.1.cls = true
/-- .. the constructor M -/
def jg_Ic (own : String) (idx : Nat) (M : jg_Md) (n : Nat) : Prop := Cond.methodLink own idx M.1 ∈ jg_ws ∧ Cond.instanceMethod M.1 ∈ jg_ws ∧ M.1.name = "<init>" ∧ M.2.2.2 = none ∧ Cond.initialized M.1.cls ∈ jg_ws ∧ Cond.code M.1 M.2.1 M.2.2.1 M.2.2.2 ∈ jg_ws ∧ M.1.cls ≠ "java/lang/invoke/MethodHandle" ∧ M.1.cls ≠ "java/lang/invoke/VarHandle" ∧ (parseMethodDescriptor M.1.desc).map (fun d => d.parameters.length) = some n ∧ plainName M.1.cls = true
theorem jg_parm {M : jg_Md} {n : Nat} (h : (parseMethodDescriptor M.1.desc).map (fun d => d.parameters.length) = some n) : ∀ sig, parseMethodDescriptor M.1.desc = some sig → n = sig.parameters.length := by
  intro sig hs
  rw [hs] at h
  exact (Option.some.inj h).symm
section JGC
variable {Γ : jg_G} {M M' : jg_Md} {d d' a b a' b' pc : Nat} {L L' : List (Option Value)} {S : List Value} {h : jg_H} {Q Q' : jg_Q}
/-- behind a call that returned or threw -/
theorem jg_back {p : Program} {e : Env} {R : Room} {s : State} {m : MethodId} {args : Array Value} {below : List Frame} {meth : Method} {c : Code} {H : Heap} {ls : Array Slot} {locs : List Loc} {cells slots mc ms : Nat} {S0 : List Value} {A9 : Array Value} (hE : jg_E Γ M d p R s m args meth c) (h1 : cells + a ≤ mc) (h2 : slots + b ≤ ms) (h3 : mc ≤ R.cells) (h4 : ms ≤ R.slots) (hf : ∀ q ∈ locs, jg_z Γ ≤ q.base) (hL : jg_L Γ M.2.2.1 ls L) (ha : a' ≤ a) (hb : b' ≤ b)
    (hr : vx_Run p (jg_l Γ) e R s m args below meth c H locs cells slots a' b' (F0 m pc ls S0) (S.map (jg_v Γ)) (jg_Qc Γ Q' A9) (jg_Xc Γ Q') (fun q => jg_z Γ ≤ q))
    (kr : ∀ v h', Q' (.inl v) h' → jg Γ M d (a - a') (b - b') (pc + 3) L (v.toList ++ S) h' Q) (kx : ∀ E h', Q' (.inr E) h' → Q (.inr E) h') :
    W p (jg_l Γ) e R s m args below meth c H locs cells slots (vx_MQ below (jg_Qc Γ Q) (jg_Xc Γ Q) args s mc ms (fun q => jg_z Γ ≤ q)) (F0 m pc ls S0) := by
  intro T hT X
  rcases hr T hT X with ⟨v, st0, t, T', Lc, g0, X', hLc, e1, e2, ⟨v', h', q1, q2, q3⟩, st⟩ | ⟨q, st0, t, T', Lc, E, ce, g0, X', hLc, e1, e2, ⟨h', q2, q3⟩, hce, hcv, hcl, st⟩
  · have hv : v = v'.map (jg_v Γ) := by cases q1; rfl
    subst hv
    have hsz : s.heap.size ≤ T'.heap.size := (vx_frame (U := T') X'.same).1
    have hf' : ∀ y ∈ locs ++ Lc, jg_z Γ ≤ y.base := fun y hy => (List.mem_append.mp hy).elim (hf y) (hLc y)
    obtain ⟨t2, a1, b1⟩ := kr v' h' q2 p e R s m args below meth c T'.heap ls (locs ++ Lc) (cells + a') (slots + b') mc ms hE (by omega) (by omega) h3 h4 hf' hsz (by rw [e1]; exact q3) hL T' rfl X'
    refine ⟨t2, st t2 ?_, b1⟩
    have eS : (v'.map (jg_v Γ)).toList ++ S.map (jg_v Γ) = (v'.toList ++ S).map (jg_v Γ) := by cases v' <;> rfl
    rw [eS]
    exact a1
  · have hf' : ∀ y ∈ locs ++ Lc, jg_z Γ ≤ y.base := fun y hy => (List.mem_append.mp hy).elim (hf y) (hLc y)
    obtain ⟨t2, a1, b1⟩ := vx_out (p := p) (l := jg_l Γ) (e := e) (R := R) (below := below) (pc := pc) (ls := ls) (rest := S.map (jg_v Γ)) (Qc := jg_Qc Γ Q) (XC := jg_Xc Γ Q) (mc := mc) (ms := ms) (free := fun q => jg_z Γ ≤ q) (locs := locs ++ Lc) (cells := cells + a') (slots := slots + b') (H := T'.heap) (E := E) (ce := ce) (q := q) (m := m) (args := args) (meth := meth) (c := c) (s := s)
      (fun x hx => absurd hx (fun z => hE.2.2.2.2.2.2.2.2.2.2.2.1 x z)) hE.2.2.2.2.2.2.1 (by rw [e1]; exact hce) hcv hcl (fun t9 ht9 _ => ⟨h', kx E h' q2, by rw [ht9, e1]; exact q3⟩) hf' (by omega) (by omega) T' rfl X'
    exact ⟨t2, st.trans a1, b1⟩
theorem jg_callS {idx n : Nat} {As : List Value} (hc : jg_Sc M.1.cls idx M' n) (hd : decode M.2.1 pc = .ok (.invokestatic idx, 3)) (hn : As.length = n) (hm : M'.2.2.1 ≤ 45) (hl : (jg_en As).length ≤ M'.2.2.1) (hent : jg_en As ++ List.replicate (M'.2.2.1 - (jg_en As).length) none = L') (hdd : d' + 1 ≤ d) (ha : a' ≤ a) (hb : b' ≤ b) (hS : (S.map fun v => v.category).sum ≤ 8)
    (K : jg Γ M' d' a' b' 0 L' [] h Q') (kr : ∀ v h', Q' (.inl v) h' → jg Γ M d (a - a') (b - b') (pc + 3) L (v.toList ++ S) h' Q) (kx : ∀ E h', Q' (.inr E) h' → Q (.inr E) h') : jg Γ M d a b pc L (As.reverse ++ S) h Q := by
  intro p e R s m args below meth c H ls locs cells slots mc ms hE h1 h2 h3 h4 hf hz hR hL
  obtain ⟨x1, x2, x3, x4, x5, x6, x7, x8, x9, x10, x11, x12⟩ := id hE
  obtain ⟨w1, w2, w3, w4, w5, w6, w7, w8⟩ := hc
  refine jg_back (a' := a') (b' := b') (A9 := (As.map (jg_v Γ)).toArray) hE h1 h2 h3 h4 hf hL ha hb ?_ kr kx
  refine vx_runS (y := M'.1) (bytes := M'.2.1) (maxL := M'.2.2.1) (ret := M'.2.2.2) (ws := jg_wm M') (n := n) (rm := jg_rm d' a' b') (Pc := jg_Pc Γ As h) (As := As.map (jg_v Γ)) ⟨x1, x2, x4, x5, x6⟩ (jg_met w8 hl hent K) ⟨⟨rfl, rfl, ?_, ?_, pay_in x6 (jg_good w4), List.mem_cons_self, x6 _ w4, x6 _ w3, ⟨w5, w6⟩, jg_parm w7, x6 _ w1⟩, x6 _ w2⟩ ⟨jg_blind Γ As h, fun U hU hW => ⟨rfl, jg_U.warm hW x11, by rw [hU]; exact hR⟩⟩ rfl (by rw [List.length_map]; exact hn) hL.1 ?_ ?_ hd ⟨by omega, by omega⟩
  · show d' + 1 ≤ R.frames; omega
  · show 8 + (M'.2.2.1 + 11) + 64 * d' ≤ R.locals; omega
  · show (As.reverse ++ S).map (jg_v Γ) = _
    rw [List.map_append, List.map_reverse]
  · show 2 * 0 + _ ≤ 8
    rw [List.map_map, show ((fun v : Value => v.category) ∘ jg_v Γ) = (fun v => v.category) from funext (jg_v_cat Γ)]
    omega
theorem jg_callV {idx n ci q : Nat} {As : List Value} {T9 : u_T} {N9 : Nat} {fs : List Value} (hc : jg_Vc M.1.cls idx M' n) (hd : decode M.2.1 pc = .ok (.invokevirtual idx, 3)) (hci : jg_cl[ci]? = some (M'.1.cls, T9, N9)) (hq : q < h.2) (hqc : h.1 q = .inl (ci, fs)) (hn : As.length = n) (hm : M'.2.2.1 ≤ 45) (hl : (jg_en (.ref q :: As)).length ≤ M'.2.2.1) (hent : jg_en (.ref q :: As) ++ List.replicate (M'.2.2.1 - (jg_en (.ref q :: As)).length) none = L') (hdd : d' + 1 ≤ d) (ha : a' ≤ a) (hb : b' ≤ b) (hS : (S.map fun v => v.category).sum ≤ 8)
    (K : jg Γ M' d' a' b' 0 L' [] h Q') (kr : ∀ v h', Q' (.inl v) h' → jg Γ M d (a - a') (b - b') (pc + 3) L (v.toList ++ S) h' Q) (kx : ∀ E h', Q' (.inr E) h' → Q (.inr E) h') : jg Γ M d a b pc L (As.reverse ++ .ref q :: S) h Q := by
  intro p e R s m args below meth c H ls locs cells slots mc ms hE h1 h2 h3 h4 hf hz hR hL
  obtain ⟨x1, x2, x3, x4, x5, x6, x7, x8, x9, x10, x11, x12⟩ := id hE
  obtain ⟨w1, w2, w2s, w3, w4, w5, w6, w7, w8⟩ := hc
  refine jg_back (a' := a') (b' := b') (A9 := (Value.ref (jg_a Γ q) :: As.map (jg_v Γ)).toArray) hE h1 h2 h3 h4 hf hL ha hb ?_ kr kx
  refine vx_runV (y := M'.1) (bytes := M'.2.1) (maxL := M'.2.2.1) (ret := M'.2.2.2) (ws := jg_wm M') (n := n) (rm := jg_rm d' a' b') (C := M'.1.cls) (b := jg_a Γ q) (Pc := jg_Pc Γ (.ref q :: As) h) (As := As.map (jg_v Γ)) ⟨x1, x2, x4, x5, x6⟩ (jg_met w8 hl hent K) ⟨⟨rfl, rfl, ?_, ?_, pay_in x6 (jg_good w4), List.mem_cons_self, x6 _ w4, x6 _ w3, ⟨w5, w6⟩, jg_parm w7, x6 _ w1⟩, x6 _ w2, x6 _ w2s⟩ ⟨jg_blind Γ (.ref q :: As) h, va_recv x11.2.1 (jg_one_o hR hq hqc hci) hci (q0 := 0) rfl, fun U hU hW => ⟨rfl, jg_U.warm hW x11, by rw [hU]; exact hR⟩⟩ rfl (by rw [List.length_map]; exact hn) hL.1 ?_ ?_ hd ⟨by omega, by omega⟩
  · show d' + 1 ≤ R.frames; omega
  · show 8 + (M'.2.2.1 + 11) + 64 * d' ≤ R.locals; omega
  · show (As.reverse ++ .ref q :: S).map (jg_v Γ) = _
    rw [List.map_append, List.map_reverse]
    rfl
  · show 2 * 0 + _ ≤ 8
    rw [List.map_map, show ((fun v : Value => v.category) ∘ jg_v Γ) = (fun v => v.category) from funext (jg_v_cat Γ)]
    omega
/-- what a call's own words give of its callee -/
theorem jg_vb {p : Program} {e : Env} {R : Room} {s : State} {args : Array Value} {below : List Frame} {As : List Value} (hx6 : ∀ w ∈ jg_ws, w.before args s = true) (hcode : Cond.code M'.1 M'.2.1 M'.2.2.1 M'.2.2.2 ∈ jg_ws) (hini : Cond.initialized M'.1.cls ∈ jg_ws) (hfr : d' + 1 ≤ R.frames) (hlo : 8 + (M'.2.2.1 + 11) + 64 * d' ≤ R.locals) (hM : vx_Met (jg_l Γ) M'.1 (jg_wm M') (jg_rm d' a' b') (jg_Pc Γ As h) (jg_Qc Γ Q') (jg_Xc Γ Q') a' b' (fun q => jg_z Γ ≤ q)) :
    vx_Back (jg_l Γ) R p e below s args M'.1 3 8 (PreOf R a' b' (jg_Pc Γ As h)) (PostOf (jg_Qc Γ Q') a' b' (fun q => jg_z Γ ≤ q)) (vx_Post (jg_Xc Γ Q') a' b' (fun q => jg_z Γ ≤ q)) :=
  vx_back (bytes := M'.2.1) (maxL := M'.2.2.1) (ret := M'.2.2.2) hM (jg_blind Γ As h) rfl rfl hfr hlo (pay_in hx6 (jg_good hcode)) List.mem_cons_self (fun a' U hW => word_at hW (Or.inl (by first | rfl | simp [Cond.onTables, Cond.keeps, Cond.steady])) (hx6 _ hini))
theorem jg_callI {idx n q : Nat} {As : List Value} (hc : jg_Ic M.1.cls idx M' n) (hd : decode M.2.1 pc = .ok (.invokespecial idx, 3)) (hn : As.length = n) (hm : M'.2.2.1 ≤ 45) (hl : (jg_en (.ref q :: As)).length ≤ M'.2.2.1) (hent : jg_en (.ref q :: As) ++ List.replicate (M'.2.2.1 - (jg_en (.ref q :: As)).length) none = L') (hdd : d' + 1 ≤ d) (ha : a' ≤ a) (hb : b' ≤ b) (hS : (S.map fun v => v.category).sum ≤ 8)
    (K : jg Γ M' d' a' b' 0 L' [] h Q') (kr : ∀ v h', Q' (.inl v) h' → jg Γ M d (a - a') (b - b') (pc + 3) L (v.toList ++ S) h' Q) (kx : ∀ E h', Q' (.inr E) h' → Q (.inr E) h') : jg Γ M d a b pc L (As.reverse ++ .ref q :: S) h Q := by
  intro p e R s m args below meth c H ls locs cells slots mc ms hE h1 h2 h3 h4 hf hz hR hL
  obtain ⟨x1, x2, x3, x4, x5, x6, x7, x8, x9, x10, x11, x12⟩ := id hE
  obtain ⟨w1, w2, wi, wr, w3, w4, w5, w6, w7, w8⟩ := hc
  refine jg_back (a' := a') (b' := b') (A9 := (Value.ref (jg_a Γ q) :: As.map (jg_v Γ)).toArray) hE h1 h2 h3 h4 hf hL ha hb ?_ kr kx
  have hM := jg_met w8 hl hent K
  have hK := jg_vb (p := p) (e := e) (R := R) (below := below) x6 w4 w3 (by omega) (by omega) hM
  intro T hT X
  have hpl : e.platform.magicAccessors = ({} : Platform).magicAccessors := by rw [X.admits.platform]
  have hst : (As.reverse ++ .ref q :: S).map (jg_v Γ) = (As.map (jg_v Γ)).reverse ++ .ref (jg_a Γ q) :: S.map (jg_v Γ) := by
    rw [List.map_append, List.map_reverse]; rfl
  have hcd : (Cond.code M'.1 M'.2.1 M'.2.2.1 none).before args s = true := by rw [← wr]; exact x6 _ w4
  obtain ⟨mk, methM, cM, kP, vm₁, hnamed, hmethM, hcodeM, -, hlocalsM, -, hkP, -, hW₁, hstep₁⟩ := Steps.initColdArgs (e := e) X.here x1 X.warmed hpl x5 wi ⟨w5, w6⟩ (x6 _ w1) (x6 _ w2) hcd (f := F0 m pc ls ((As.reverse ++ .ref q :: S).map (jg_v Γ))) rfl (argsL := As.map (jg_v Γ)) (rest := S.map (jg_v Γ)) (fun sig h9 => by rw [List.length_map, hn]; exact jg_parm w7 sig h9) hst (by rw [x2]; exact hd)
  have X₁ := X.noted hW₁
  have hWs : 2 * (F0 m pc ls (S.map (jg_v Γ))).monitorRoom + ((S.map (jg_v Γ)).map fun v => v.category).sum ≤ 8 := by
    show 2 * 0 + _ ≤ 8
    rw [List.map_map, show ((fun v : Value => v.category) ∘ jg_v Γ) = (fun v => v.category) from funext (jg_v_cat Γ)]
    omega
  rcases hK m meth c ⟨T.setVm vm₁, locs, cells, slots⟩ (F0 m pc ls (S.map (jg_v Γ))) (.invokespecial idx) mk (Value.ref (jg_a Γ q) :: As.map (jg_v Γ)).toArray X₁ rfl (hL.1.trans x4.symm) (by rw [x2]; exact hd) hWs (X₁.named hnamed) ⟨by show cells + a' ≤ R.cells; omega, by show slots + b' ≤ R.slots; omega, rfl, jg_U.warm hW₁ x11, by show jg_R Γ h T.heap; rw [hT]; exact hR⟩ with ⟨v, ⟨U', l2, c2, s2⟩, X', ⟨g', mk', t, Lc, e1, e2, hq9, g1, hLc, g2, g3⟩, st⟩ | ⟨q9, ⟨U', l2, c2, s2⟩, X', ⟨g', mk', t, Lc, E, ce, e1, e2, hq9, hce, hcv, hcl, g1, hLc, g2, g3⟩, st⟩
  · dsimp only [Pt.U, Pt.locs, Pt.cells, Pt.slots] at X' e1 e2 g1 g2 g3 st
    subst g1; subst g2; subst g3
    exact Or.inl ⟨v, _, t, U', Lc, hT, X', hLc, e1, e2, hq9, fun target h9 => hstep₁ _ fun acts => by rw [doInvoke_state]; exact st.trans h9⟩
  · dsimp only [Pt.U, Pt.locs, Pt.cells, Pt.slots] at X' e1 e2 g1 g2 g3 st hcl
    subst g1; subst g2; subst g3
    exact Or.inr ⟨q9, _, t, U', Lc, E, ce, hT, X', hLc, e1, e2, hq9, hce, hcv, vx_cls hW₁ hcl, hstep₁ _ fun acts => by rw [doInvoke_state]; exact st⟩
/-- a private static method of a nest mate -/
theorem jg_callSN {idx n : Nat} {host : String} {As : List Value} (hl0 : Cond.methodLinkNest M.1.cls idx M'.1 host ∈ jg_nest) (w2 : Cond.static M'.1 ∈ jg_ws) (w3 : Cond.initialized M'.1.cls ∈ jg_ws) (w4 : Cond.code M'.1 M'.2.1 M'.2.2.1 M'.2.2.2 ∈ jg_ws) (w5 : M'.1.cls ≠ "java/lang/invoke/MethodHandle" ∧ M'.1.cls ≠ "java/lang/invoke/VarHandle") (w7 : (parseMethodDescriptor M'.1.desc).map (fun d => d.parameters.length) = some n) (w8 : plainName M'.1.cls = true) (hd : decode M.2.1 pc = .ok (.invokestatic idx, 3)) (hn : As.length = n) (hm : M'.2.2.1 ≤ 45) (hl : (jg_en As).length ≤ M'.2.2.1) (hent : jg_en As ++ List.replicate (M'.2.2.1 - (jg_en As).length) none = L') (hdd : d' + 1 ≤ d) (ha : a' ≤ a) (hb : b' ≤ b) (hS : (S.map fun v => v.category).sum ≤ 8)
    (K : jg Γ M' d' a' b' 0 L' [] h Q') (kr : ∀ v h', Q' (.inl v) h' → jg Γ M d (a - a') (b - b') (pc + 3) L (v.toList ++ S) h' Q) (kx : ∀ E h', Q' (.inr E) h' → Q (.inr E) h') : jg Γ M d a b pc L (As.reverse ++ S) h Q := by
  intro p e R s m args below meth c H ls locs cells slots mc ms hE h1 h2 h3 h4 hf hz hR hL
  obtain ⟨x1, x2, x3, x4, x5, x6, x7, x8, x9, x10, x11, x12⟩ := id hE
  refine jg_back (a' := a') (b' := b') (A9 := (As.map (jg_v Γ)).toArray) hE h1 h2 h3 h4 hf hL ha hb ?_ kr kx
  have hM := jg_met w8 hl hent K
  have hK := jg_vb (p := p) (e := e) (R := R) (below := below) x6 w4 w3 (by omega) (by omega) hM
  intro T hT X
  have hst : (As.reverse ++ S).map (jg_v Γ) = (As.map (jg_v Γ)).reverse ++ S.map (jg_v Γ) := by rw [List.map_append, List.map_reverse]
  obtain ⟨mk, hnamed⟩ := Cond.code_named (x6 _ w4)
  obtain ⟨methM, cM, hmethM, -, -, -, -, -, -, hsigM⟩ := Cond.code_spec hnamed (x6 _ w4)
  have hstatic : methM.isStatic = true := Cond.static_spec hnamed hmethM (x6 _ w2)
  obtain ⟨kP, hkP, -⟩ := className_of_methodNamed hnamed
  have hinitP : kP.init = .initialized := Cond.initialized_spec (findClass_of_methodNamed hnamed) hkP (x6 _ w3)
  obtain ⟨vm₁, X₁, hstep₁⟩ := X.invokestaticNest x1 x5 (va_Nw.use rfl (x11.2.2.2.2.2.1 _ hl0)) hnamed hmethM hstatic hkP hinitP w5 (g := F0 m pc ls ((As.reverse ++ S).map (jg_v Γ))) rfl (argsL := As.map (jg_v Γ)) (rest := S.map (jg_v Γ)) (by rw [List.length_map, hn]; exact jg_parm w7 _ hsigM) hst (by rw [x2]; exact hd)
  have hWs : 2 * (F0 m pc ls (S.map (jg_v Γ))).monitorRoom + ((S.map (jg_v Γ)).map fun v => v.category).sum ≤ 8 := by
    show 2 * 0 + _ ≤ 8
    rw [List.map_map, show ((fun v : Value => v.category) ∘ jg_v Γ) = (fun v => v.category) from funext (jg_v_cat Γ)]
    omega
  rcases hK m meth c ⟨T.setVm vm₁, locs, cells, slots⟩ (F0 m pc ls (S.map (jg_v Γ))) (.invokestatic idx) mk (As.map (jg_v Γ)).toArray X₁ rfl (hL.1.trans x4.symm) (by rw [x2]; exact hd) hWs (X₁.named hnamed) ⟨by show cells + a' ≤ R.cells; omega, by show slots + b' ≤ R.slots; omega, rfl, jg_U.warm X₁.warmed x11, by show jg_R Γ h T.heap; rw [hT]; exact hR⟩ with ⟨v, ⟨U', l2, c2, s2⟩, X', ⟨g', mk', t, Lc, e1, e2, hq9, g1, hLc, g2, g3⟩, st⟩ | ⟨q9, ⟨U', l2, c2, s2⟩, X', ⟨g', mk', t, Lc, E, ce, e1, e2, hq9, hce, hcv, hcl, g1, hLc, g2, g3⟩, st⟩
  · dsimp only [Pt.U, Pt.locs, Pt.cells, Pt.slots] at X' e1 e2 g1 g2 g3 st
    subst g1; subst g2; subst g3
    exact Or.inl ⟨v, _, t, U', Lc, hT, X', hLc, e1, e2, hq9, fun target h9 => hstep₁ _ fun acts => by rw [doInvoke_state]; exact st.trans h9⟩
  · dsimp only [Pt.U, Pt.locs, Pt.cells, Pt.slots] at X' e1 e2 g1 g2 g3 st hcl
    subst g1; subst g2; subst g3
    exact Or.inr ⟨q9, _, t, U', Lc, E, ce, hT, X', hLc, e1, e2, hq9, hce, hcv, vx_cls X₁.warmed hcl, hstep₁ _ fun acts => by rw [doInvoke_state]; exact st⟩
/-- a nest mate's private constructor -/
theorem jg_callIN {idx n q : Nat} {host : String} {As : List Value} (hl0 : Cond.methodLinkNest M.1.cls idx M'.1 host ∈ jg_nest) (w2 : Cond.instanceMethod M'.1 ∈ jg_ws) (wi : M'.1.name = "<init>") (wr : M'.2.2.2 = none) (w3 : Cond.initialized M'.1.cls ∈ jg_ws) (w4 : Cond.code M'.1 M'.2.1 M'.2.2.1 M'.2.2.2 ∈ jg_ws) (w5 : M'.1.cls ≠ "java/lang/invoke/MethodHandle" ∧ M'.1.cls ≠ "java/lang/invoke/VarHandle") (w7 : (parseMethodDescriptor M'.1.desc).map (fun d => d.parameters.length) = some n) (w8 : plainName M'.1.cls = true) (hd : decode M.2.1 pc = .ok (.invokespecial idx, 3)) (hn : As.length = n) (hm : M'.2.2.1 ≤ 45) (hl : (jg_en (.ref q :: As)).length ≤ M'.2.2.1) (hent : jg_en (.ref q :: As) ++ List.replicate (M'.2.2.1 - (jg_en (.ref q :: As)).length) none = L') (hdd : d' + 1 ≤ d) (ha : a' ≤ a) (hb : b' ≤ b) (hS : (S.map fun v => v.category).sum ≤ 8)
    (K : jg Γ M' d' a' b' 0 L' [] h Q') (kr : ∀ v h', Q' (.inl v) h' → jg Γ M d (a - a') (b - b') (pc + 3) L (v.toList ++ S) h' Q) (kx : ∀ E h', Q' (.inr E) h' → Q (.inr E) h') : jg Γ M d a b pc L (As.reverse ++ .ref q :: S) h Q := by
  intro p e R s m args below meth c H ls locs cells slots mc ms hE h1 h2 h3 h4 hf hz hR hL
  obtain ⟨x1, x2, x3, x4, x5, x6, x7, x8, x9, x10, x11, x12⟩ := id hE
  refine jg_back (a' := a') (b' := b') (A9 := (Value.ref (jg_a Γ q) :: As.map (jg_v Γ)).toArray) hE h1 h2 h3 h4 hf hL ha hb ?_ kr kx
  have hM := jg_met w8 hl hent K
  have hK := jg_vb (p := p) (e := e) (R := R) (below := below) x6 w4 w3 (by omega) (by omega) hM
  intro T hT X
  have hpl : e.platform.magicAccessors = ({} : Platform).magicAccessors := by rw [X.admits.platform]
  have hst : (As.reverse ++ .ref q :: S).map (jg_v Γ) = (As.map (jg_v Γ)).reverse ++ .ref (jg_a Γ q) :: S.map (jg_v Γ) := by
    rw [List.map_append, List.map_reverse]; rfl
  have hcd : (Cond.code M'.1 M'.2.1 M'.2.2.1 none).before args s = true := by rw [← wr]; exact x6 _ w4
  obtain ⟨mk, methM, cM, kP, vm₁, hnamed, hmethM, hcodeM, -, hlocalsM, -, hkP, -, hW₁, hstep₁⟩ := Steps.initColdArgsNest (e := e) X.here x1 X.warmed hpl x5 wi w5 (va_Nw.use rfl (x11.2.2.2.2.2.1 _ hl0)) (x6 _ w2) hcd (f := F0 m pc ls ((As.reverse ++ .ref q :: S).map (jg_v Γ))) rfl (argsL := As.map (jg_v Γ)) (rest := S.map (jg_v Γ)) (fun sig h9 => by rw [List.length_map, hn]; exact jg_parm w7 sig h9) hst (by rw [x2]; exact hd)
  have X₁ := X.noted hW₁
  have hWs : 2 * (F0 m pc ls (S.map (jg_v Γ))).monitorRoom + ((S.map (jg_v Γ)).map fun v => v.category).sum ≤ 8 := by
    show 2 * 0 + _ ≤ 8
    rw [List.map_map, show ((fun v : Value => v.category) ∘ jg_v Γ) = (fun v => v.category) from funext (jg_v_cat Γ)]
    omega
  rcases hK m meth c ⟨T.setVm vm₁, locs, cells, slots⟩ (F0 m pc ls (S.map (jg_v Γ))) (.invokespecial idx) mk (Value.ref (jg_a Γ q) :: As.map (jg_v Γ)).toArray X₁ rfl (hL.1.trans x4.symm) (by rw [x2]; exact hd) hWs (X₁.named hnamed) ⟨by show cells + a' ≤ R.cells; omega, by show slots + b' ≤ R.slots; omega, rfl, jg_U.warm hW₁ x11, by show jg_R Γ h T.heap; rw [hT]; exact hR⟩ with ⟨v, ⟨U', l2, c2, s2⟩, X', ⟨g', mk', t, Lc, e1, e2, hq9, g1, hLc, g2, g3⟩, st⟩ | ⟨q9, ⟨U', l2, c2, s2⟩, X', ⟨g', mk', t, Lc, E, ce, e1, e2, hq9, hce, hcv, hcl, g1, hLc, g2, g3⟩, st⟩
  · dsimp only [Pt.U, Pt.locs, Pt.cells, Pt.slots] at X' e1 e2 g1 g2 g3 st
    subst g1; subst g2; subst g3
    exact Or.inl ⟨v, _, t, U', Lc, hT, X', hLc, e1, e2, hq9, fun target h9 => hstep₁ _ fun acts => by rw [doInvoke_state]; exact st.trans h9⟩
  · dsimp only [Pt.U, Pt.locs, Pt.cells, Pt.slots] at X' e1 e2 g1 g2 g3 st hcl
    subst g1; subst g2; subst g3
    exact Or.inr ⟨q9, _, t, U', Lc, E, ce, hT, X', hLc, e1, e2, hq9, hce, hcv, vx_cls hW₁ hcl, hstep₁ _ fun acts => by rw [doInvoke_state]; exact st⟩
/-- Object's constructor -/
theorem jg_objI {idx q : Nat} (w1 : Cond.methodLink M.1.cls idx objectInit ∈ jg_ws) (w2 : Cond.instanceMethod objectInit ∈ jg_ws) (w3 : Cond.code objectInit ⟨#[0xb1]⟩ 1 none ∈ jg_ws) (hd : decode M.2.1 pc = .ok (.invokespecial idx, 3)) (hdd : 1 ≤ d) (hS : (S.map fun v => v.category).sum ≤ 8) (kk : jg Γ M d a b (pc + 3) L S h Q) : jg Γ M d a b pc L (.ref q :: S) h Q := by
  intro p e R s m args below meth c H ls locs cells slots mc ms hE h1 h2 h3 h4 hf hz hR hL
  obtain ⟨x1, x2, x3, x4, x5, x6, x7, x8, x9, x10, x11, x12⟩ := id hE
  refine W.objInit x1 x2 x5 (x6 _ w1) (x6 _ w2) (x6 _ w3) rfl (hL.1.trans x4.symm) rfl hd (by omega) ?_ (kk p e R s m args below meth c H ls locs cells slots mc ms hE h1 h2 h3 h4 hf hz hR hL)
  show 2 * 0 + _ + 12 ≤ R.locals
  rw [List.map_map, show ((fun v : Value => v.category) ∘ jg_v Γ) = (fun v => v.category) from funext (jg_v_cat Γ)]
  omega
end JGC
