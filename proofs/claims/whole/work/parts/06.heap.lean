/-! ROWS OF jg THAT READ AND WRITE THE HEAP -/
theorem jg_a_lt (Γ : jg_G) {k : Nat} (h : k < 1000000) : jg_a Γ k = jg_z Γ + k := if_pos h
theorem jg_at.kept {Γ : jg_G} {k : Nat} {H H1 : Heap} {x : jg_C} (h : jg_at Γ k H x) (hq : H1[jg_a Γ k]? = H[jg_a Γ k]?) : jg_at Γ k H1 x := by
  cases x with
  | inl o => exact fun r hr => (h r hr).kept hq
  | inr q => exact hq.trans h
theorem jg_R.lt {Γ : jg_G} {h : jg_H} {H : Heap} (hR : jg_R Γ h H) {q : Nat} (hq : q < h.2) : jg_a Γ q = jg_z Γ + q := jg_a_lt Γ (Nat.lt_of_lt_of_le hq hR.2.1)
theorem jg_R.ge {Γ : jg_G} {h : jg_H} {H : Heap} (hR : jg_R Γ h H) {q : Nat} (hq : q < h.2) : jg_z Γ ≤ jg_a Γ q := by rw [hR.lt hq]; exact Nat.le_add_right _ _
theorem jg_R.set {Γ : jg_G} {h : jg_H} {H H1 : Heap} {q : Nat} {x : jg_C} (hR : jg_R Γ h H) (hq : q < h.2) (hs : H1.size = H.size) (ho : ∀ y : Nat, y ≠ jg_a Γ q → H1[y]? = H[y]?) (hx : jg_at Γ q H1 x) : jg_R Γ (va_up h.1 q x, h.2) H1 := by
  have ea := hR.lt hq
  refine ⟨hs.trans hR.1, hR.2.1, fun y hy => (ho y (by rw [ea]; omega)).trans (hR.2.2.1 y hy), fun k hk => ?_⟩
  by_cases e : k = q
  · subst e
    show jg_at Γ k H1 (va_up h.1 k x k)
    rw [va_up_self]
    exact hx
  · show jg_at Γ k H1 (va_up h.1 q x k)
    rw [va_up_ne _ _ e]
    exact (hR.2.2.2 k hk).kept (ho _ (by rw [ea, hR.lt hk]; omega))
theorem jg_R.push {Γ : jg_G} {h : jg_H} {H H1 : Heap} {x : jg_C} (hR : jg_R Γ h H) (hn : h.2 < 1000000) (hs : H1.size = H.size + 1) (ho : ∀ y : Nat, y < H.size → H1[y]? = H[y]?) (hx : jg_at Γ h.2 H1 x) : jg_R Γ (va_up h.1 h.2 x, h.2 + 1) H1 := by
  have e0 := hR.1
  refine ⟨by rw [hs, hR.1]; exact Nat.add_assoc _ _ _, hn, fun y hy => (ho y (by omega)).trans (hR.2.2.1 y hy), fun k hk => ?_⟩
  by_cases e : k = h.2
  · subst e
    show jg_at Γ h.2 H1 (va_up h.1 h.2 x h.2)
    rw [va_up_self]
    exact hx
  · show jg_at Γ k H1 (va_up h.1 h.2 x k)
    rw [va_up_ne _ _ e]
    have hk2 : k < h.2 := Nat.lt_of_le_of_ne (Nat.le_of_lt_succ hk) e
    exact (hR.2.2.2 k hk2).kept (ho _ (by rw [hR.lt hk2]; omega))
theorem jg_one_o {Γ : jg_G} {h : jg_H} {H : Heap} {q ci : Nat} {fs : List Value} {r : vw_C} (hR : jg_R Γ h H) (hq : q < h.2) (hc : h.1 q = .inl (ci, fs)) (hr : jg_cl[ci]? = some r) : va_P (jg_D Γ) jg_cl [(jg_a Γ q, .inr (ci, fs.map (jg_v Γ)))] H := by
  intro k x hk
  have h0 : k < 1 := (List.getElem?_eq_some_iff.mp hk).1
  rw [show k = 0 by omega] at hk
  cases hk
  have h1 := hR.2.2.2 q hq
  rw [hc] at h1
  exact ⟨r, hr, h1 r hr⟩
theorem jg_one_a {Γ : jg_G} {h : jg_H} {H : Heap} {q ki n : Nat} {f : (Nat → Int32) ⊕ (Nat → Int64) ⊕ (Nat → Option Nat)} (hR : jg_R Γ h H) (hq : q < h.2) (hc : h.1 q = .inr (ki, n, f)) : va_P (jg_D Γ) jg_cl [(jg_a Γ q, .inl (jg_dA Γ ki, n, jg_ar Γ f))] H := by
  intro k x hk
  have h0 : k < 1 := (List.getElem?_eq_some_iff.mp hk).1
  rw [show k = 0 by omega] at hk
  cases hk
  have h1 := hR.2.2.2 q hq
  rw [hc] at h1
  exact h1
theorem jg_arr {Γ : jg_G} {h : jg_H} {H : Heap} {q ki n : Nat} {f : (Nat → Int32) ⊕ (Nat → Int64) ⊕ (Nat → Option Nat)} (hR : jg_R Γ h H) (hq : q < h.2) (hc : h.1 q = .inr (ki, n, f)) : H[jg_a Γ q]? = some (vp_cell (jg_dA Γ ki) (n, jg_ar Γ f)) := by
  have h1 := hR.2.2.2 q hq
  rw [hc] at h1
  exact h1
/-- a class of the list: its fields' words, types, names -/
def jg_Cl (ci : Nat) (C : String) (T : u_T) (N : Nat) (ty : Nat → FieldType) : Prop := jg_cl[ci]? = some (C, T, N) ∧ (∀ w ∈ u_ws C T N, w ∈ jg_ws) ∧ (∀ k, k < N → parseFieldDescriptor (T k).2.2.1 = some (ty k)) ∧ ∀ a, a < N → ∀ b, b < N → a ≠ b → (T a).2.1 ≠ (T b).2.1
/-- entry idx of class own is field k of class ci, of type t, final or not -/
def jg_F (own : String) (idx ci k : Nat) (t : FieldType) (fin : Bool) : Prop := ∃ (C : String) (T : u_T) (N : Nat) (ty : Nat → FieldType), jg_Cl ci C T N ty ∧ k < N ∧ Cond.fieldLink own idx (T k).1 (T k).2.1 (T k).2.2.1 ∈ jg_ws ∧ ty k = t ∧ (T k).2.2.2 = fin ∧ (T k).1 = C
section JGH
variable {Γ : jg_G} {M : jg_Md} {d a b pc : Nat} {L : List (Option Value)} {S : List Value} {h : jg_H} {Q : jg_Q}
theorem jg_get {idx ci k q : Nat} {t : FieldType} {fin : Bool} {fs : List Value} {v : Value} (hF : jg_F M.1.cls idx ci k t fin) (hd : decode M.2.1 pc = .ok (.getfield idx, 3)) (hq : q < h.2) (hc : h.1 q = .inl (ci, fs)) (hv : fs[k]? = some v) (kk : jg Γ M d a b (pc + 3) L (v :: S) h Q) : jg Γ M d a b pc L (.ref q :: S) h Q := by
  intro p e R s m args below meth c H ls locs cells slots mc ms hE h1 h2 h3 h4 hf hz hR hL
  obtain ⟨C, T, N, ty, ⟨c1, c2, c3, c4⟩, hk, hw, -, -, -⟩ := hF
  obtain ⟨x1, x2, x3, x4, x5, x6, x7, x8, x9, x10, x11, x12⟩ := id hE
  exact va_get (D := jg_D Γ) x1 x2 x6 c2 x5 x11.2.1 (jg_one_o hR hq hc c1) 0 rfl c1 k hk (x6 _ hw) (fun _ h9 => h9) (by rw [List.getElem?_map, hv]; rfl) hd (kk p e R s m args below meth c H ls locs cells slots mc ms hE h1 h2 h3 h4 hf hz hR hL)
theorem jg_put {idx ci k q : Nat} {t : FieldType} {fs : List Value} {v : Value} (hF : jg_F M.1.cls idx ci k t false) (hd : decode M.2.1 pc = .ok (.putfield idx, 3)) (hq : q < h.2) (hc : h.1 q = .inl (ci, fs)) (hl : k < fs.length) (hn : narrow t (jg_v Γ v) = jg_v Γ v) (hfit : fits t (jg_v Γ v) = true) (kk : jg Γ M d a b (pc + 3) L S (va_up h.1 q (.inl (ci, fs.set k v)), h.2) Q) : jg Γ M d a b pc L (v :: .ref q :: S) h Q := by
  intro p e R s m args below meth c H ls locs cells slots mc ms hE h1 h2 h3 h4 hf hz hR hL
  obtain ⟨C, T, N, ty, ⟨c1, c2, c3, c4⟩, hk, hw, rfl, hfin, hC⟩ := hF
  obtain ⟨x1, x2, x3, x4, x5, x6, x7, x8, x9, x10, x11, x12⟩ := id hE
  have hK := x11.2.1
  have hap := va_apart (own := M.1.cls) x6 c2 ty c3 c4 hK c1
  obtain ⟨r, g1, cell, q1, q2, q3, q4⟩ := jg_one_o hR hq hc c1 0 _ rfl
  have hr : r = (C, T, N) := Option.some.inj (g1.symm.trans c1)
  subst hr
  obtain ⟨hS, hfc, kC, hkC, hkind⟩ := hK.1 ci _ c1
  obtain ⟨cf, kf, fi, f, hi, hsl⟩ := hS k hk
  have hlay := x6 _ (c2 _ (u_in_lay hk))
  unfold u_lay at hlay
  rw [if_neg (by rw [hfin]; decide)] at hlay
  have hst := (u_facts hfc hkC (u_lays x6 c2 hk) hi).1
  have h6 := u_store hfc hkC hkind hlay hi (c3 k hk) hn hfit
  refine W.putK x1 x2 (f := f) ⟨x5, x6 _ hw, ⟨_, _, _, hi⟩, hst⟩ (by rw [q2]; exact h6) q1 q3 (by rw [hsl]; exact k2_hasslot (q4 k hk)) rfl rfl hd fun H' e1 e2 e3 => ?_
  rw [hsl] at e1 ⊢
  refine kk p e R s m args below meth c H' ls _ cells slots mc ms hE h1 h2 h3 h4 ?_ (by rw [e2]; exact hz) (hR.set hq e2 e3 ?_) hL
  · intro y hy
    rcases List.mem_append.mp hy with h9 | h9
    · exact hf y h9
    · rw [List.mem_singleton.mp h9]; exact hR.ge hq
  · intro r9 hr9
    have : r9 = (C, T, N) := Option.some.inj (hr9.symm.trans c1)
    subst this
    rw [List.map_set]
    exact t_OB.to (V := updV (vp_V (fs.map (jg_v Γ))) k (jg_v Γ v)) ⟨_, e1, q2, q3, t_set q4 hap hk _⟩ (fun j _ => vp_updV_set (by rw [List.length_map]; exact hl) _ j)
theorem jg_putF {idx ci k q : Nat} {t : FieldType} {fs : List Value} {v : Value} (hF : jg_F M.1.cls idx ci k t true) (hcl : (jg_cl[ci]?).map (fun r => r.1) = some M.1.cls) (hin : M.1.name = "<init>") (hd : decode M.2.1 pc = .ok (.putfield idx, 3)) (hq : q < h.2) (hc : h.1 q = .inl (ci, fs)) (hl : k < fs.length) (hn : narrow t (jg_v Γ v) = jg_v Γ v) (hfit : fits t (jg_v Γ v) = true) (kk : jg Γ M d a b (pc + 3) L S (va_up h.1 q (.inl (ci, fs.set k v)), h.2) Q) : jg Γ M d a b pc L (v :: .ref q :: S) h Q := by
  intro p e R s m args below meth c H ls locs cells slots mc ms hE h1 h2 h3 h4 hf hz hR hL
  obtain ⟨C, T, N, ty, ⟨c1, c2, c3, c4⟩, hk, hw, rfl, hfin, hC⟩ := hF
  obtain ⟨x1, x2, x3, x4, x5, x6, x7, x8, x9, x10, x11, x12⟩ := id hE
  have hK := x11.2.1
  have hCM : C = M.1.cls := by rw [c1] at hcl; exact Option.some.inj hcl
  have hap := va_apart (own := M.1.cls) x6 c2 ty c3 c4 hK c1
  obtain ⟨r, g1, cell, q1, q2, q3, q4⟩ := jg_one_o hR hq hc c1 0 _ rfl
  have hr : r = (C, T, N) := Option.some.inj (g1.symm.trans c1)
  subst hr
  obtain ⟨hS, hfc, kC, hkC, hkind⟩ := hK.1 ci _ c1
  obtain ⟨cf, kf, fi, f, hi, hsl⟩ := hS k hk
  have hlay := x6 _ (c2 _ (u_in_lay hk))
  unfold u_lay at hlay
  rw [if_pos hfin] at hlay
  have hst := (u_facts hfc hkC (u_lays x6 c2 hk) hi).1
  have hcf : m.cls = cf := by
    obtain ⟨_, _, c', _, _, _, -, -, hf', -, -, -, hown2, -⟩ := Cond.laysFinal_spec hlay
    have e1 : c' = cf := by have := hi.symm.trans hf'; simp at this; exact this.1.symm
    rw [hC, hCM] at hown2
    rw [← e1]; exact Option.some.inj (x5.symm.trans hown2)
  have h6 := u_fits hfc hkC hkind (Or.inr hlay) hi (c3 k hk) hn hfit
  refine W.putFinK x1 x2 x5 (x6 _ hw) hi hst hcf (x8.trans hin) (by rw [q2]; exact h6) q1 q3 (by rw [hsl]; exact k2_hasslot (q4 k hk)) rfl rfl hd fun H' e1 e2 e3 => ?_
  rw [hsl] at e1 ⊢
  refine kk p e R s m args below meth c H' ls _ cells slots mc ms hE h1 h2 h3 h4 ?_ (by rw [e2]; exact hz) (hR.set hq e2 e3 ?_) hL
  · intro y hy
    rcases List.mem_append.mp hy with h9 | h9
    · exact hf y h9
    · rw [List.mem_singleton.mp h9]; exact hR.ge hq
  · intro r9 hr9
    have : r9 = (C, T, N) := Option.some.inj (hr9.symm.trans c1)
    subst this
    rw [List.map_set]
    exact t_OB.to (V := updV (vp_V (fs.map (jg_v Γ))) k (jg_v Γ v)) ⟨_, e1, q2, q3, t_set q4 hap hk _⟩ (fun j _ => vp_updV_set (by rw [List.length_map]; exact hl) _ j)
theorem jg_iald {q n : Nat} {f : Nat → Int32} {i : Int32} (hd : decode M.2.1 pc = .ok (.iaload, 1)) (hq : q < h.2) (hc : h.1 q = .inr (0, n, .inl f)) (hin : vp_in i n) (kk : jg Γ M d a b (pc + 1) L (.int (f i.toNatClampNeg) :: S) h Q) : jg Γ M d a b pc L (.int i :: .ref q :: S) h Q := by
  intro p e R s m args below meth c H ls locs cells slots mc ms hE h1 h2 h3 h4 hf hz hR hL
  exact va_iald (D := jg_D Γ) hE.1 hE.2.1 hE.2.2.2.2.2.2.2.2.2.2.1.2.1 (jg_one_a hR hq hc) 0 0 rfl rfl hin hd (kk p e R s m args below meth c H ls locs cells slots mc ms hE h1 h2 h3 h4 hf hz hR hL)
theorem jg_bald {q n : Nat} {f : Nat → Int32} {i : Int32} (hd : decode M.2.1 pc = .ok (.baload, 1)) (hq : q < h.2) (hc : h.1 q = .inr (1, n, .inl f)) (hin : vp_in i n) (kk : jg Γ M d a b (pc + 1) L (.int (f i.toNatClampNeg) :: S) h Q) : jg Γ M d a b pc L (.int i :: .ref q :: S) h Q := by
  intro p e R s m args below meth c H ls locs cells slots mc ms hE h1 h2 h3 h4 hf hz hR hL
  exact va_bald (D := jg_D Γ) hE.1 hE.2.1 hE.2.2.2.2.2.2.2.2.2.2.1.2.1 (jg_one_a hR hq hc) 0 1 rfl rfl hin hd (kk p e R s m args below meth c H ls locs cells slots mc ms hE h1 h2 h3 h4 hf hz hR hL)
theorem jg_zald {q n : Nat} {f : Nat → Int32} {i : Int32} (hd : decode M.2.1 pc = .ok (.baload, 1)) (hq : q < h.2) (hc : h.1 q = .inr (2, n, .inl f)) (hin : vp_in i n) (kk : jg Γ M d a b (pc + 1) L (.int (f i.toNatClampNeg) :: S) h Q) : jg Γ M d a b pc L (.int i :: .ref q :: S) h Q := by
  intro p e R s m args below meth c H ls locs cells slots mc ms hE h1 h2 h3 h4 hf hz hR hL
  exact va_zald (D := jg_D Γ) hE.1 hE.2.1 hE.2.2.2.2.2.2.2.2.2.2.1.2.1 (jg_one_a hR hq hc) 0 2 rfl rfl hin hd (kk p e R s m args below meth c H ls locs cells slots mc ms hE h1 h2 h3 h4 hf hz hR hL)
theorem jg_lald {q n : Nat} {f : Nat → Int64} {i : Int32} (hd : decode M.2.1 pc = .ok (.laload, 1)) (hq : q < h.2) (hc : h.1 q = .inr (3, n, .inr (.inl f))) (hin : vp_in i n) (kk : jg Γ M d a b (pc + 1) L (.long (f i.toNatClampNeg) :: S) h Q) : jg Γ M d a b pc L (.int i :: .ref q :: S) h Q := by
  intro p e R s m args below meth c H ls locs cells slots mc ms hE h1 h2 h3 h4 hf hz hR hL
  exact va_lald (D := jg_D Γ) hE.1 hE.2.1 hE.2.2.2.2.2.2.2.2.2.2.1.2.1 (jg_one_a hR hq hc) 0 3 rfl rfl hin hd (kk p e R s m args below meth c H ls locs cells slots mc ms hE h1 h2 h3 h4 hf hz hR hL)
theorem jg_isArr {Γ : jg_G} {s : State} (hU : jg_U Γ s) {ki : Nat} {ty : FieldType} (ht : (jg_tys Γ)[ki]? = some (jg_dA Γ ki, ty)) : ArrOfT s (jg_dA Γ ki) ty := (hU.2.1.2 ki _ ht).1
theorem jg_aald {q n ki y : Nat} {f : Nat → Option Nat} {i : Int32} (hki : ki = 4 ∨ ki = 5 ∨ ki = 6 ∨ ki = 7) (hd : decode M.2.1 pc = .ok (.aaload, 1)) (hq : q < h.2) (hc : h.1 q = .inr (ki, n, .inr (.inr f))) (hin : vp_in i n) (hv : f i.toNatClampNeg = some y) (kk : jg Γ M d a b (pc + 1) L (.ref y :: S) h Q) : jg Γ M d a b pc L (.int i :: .ref q :: S) h Q := by
  intro p e R s m args below meth c H ls locs cells slots mc ms hE h1 h2 h3 h4 hf hz hR hL
  have hlt : i.toNatClampNeg < n := Nat.not_le.mp fun q => hin (Or.inr q)
  have hcell := jg_arr hR hq hc
  have hU := hE.2.2.2.2.2.2.2.2.2.2.1
  have key : ∀ ty : FieldType, ty.isReference = true → ArrOfT s (jg_dA Γ ki) ty → W p (jg_l Γ) e R s m args below meth c H locs cells slots (vx_MQ below (jg_Qc Γ Q) (jg_Xc Γ Q) args s mc ms (fun q => jg_z Γ ≤ q)) (F0 m pc ls ((.int i :: .ref q :: S).map (jg_v Γ))) := by
    intro ty hty hA
    refine W.aald (v := .ref (jg_a Γ y)) (ty := ty) hE.1 hE.2.1 hcell (hA n (fun j => va_rf ((f j).map (jg_a Γ)))) hty (fun q => by cases q) (by show ¬ (i < 0 ∨ (arrV _ _ _).slots.size ≤ _); rw [arrV_size]; exact hin) ?_ rfl rfl hd (kk p e R s m args below meth c H ls locs cells slots mc ms hE h1 h2 h3 h4 hf hz hR hL)
    show (arrV _ _ _).slots[_]? = _
    rw [arrV_read _ _ hlt]
    show some (va_rf ((f i.toNatClampNeg).map (jg_a Γ))) = _
    rw [hv]
    rfl
  rcases hki with rfl | rfl | rfl | rfl
  · exact key (.object RX0) rfl (jg_isArr (ki := 4) hU rfl)
  · exact key (.object RX1) rfl (jg_isArr (ki := 5) hU rfl)
  · exact key (.object RX9) rfl (jg_isArr (ki := 6) hU rfl)
  · exact key (.array .int) rfl (jg_isArr (ki := 7) hU rfl)
theorem jg_alen {q n ki : Nat} {f : (Nat → Int32) ⊕ (Nat → Int64) ⊕ (Nat → Option Nat)} {v : Int32} (hki : ki < 8) (hd : decode M.2.1 pc = .ok (.arraylength, 1)) (hq : q < h.2) (hc : h.1 q = .inr (ki, n, f)) (hv : Int32.ofNat n = v) (kk : jg Γ M d a b (pc + 1) L (.int v :: S) h Q) : jg Γ M d a b pc L (.ref q :: S) h Q := by
  intro p e R s m args below meth c H ls locs cells slots mc ms hE h1 h2 h3 h4 hf hz hR hL
  have ht : ∃ ty, (jg_tys Γ)[ki]? = some (jg_dA Γ ki, ty) := by
    match ki, hki with
    | 0, _ => exact ⟨_, rfl⟩
    | 1, _ => exact ⟨_, rfl⟩
    | 2, _ => exact ⟨_, rfl⟩
    | 3, _ => exact ⟨_, rfl⟩
    | 4, _ => exact ⟨_, rfl⟩
    | 5, _ => exact ⟨_, rfl⟩
    | 6, _ => exact ⟨_, rfl⟩
    | 7, _ => exact ⟨_, rfl⟩
    | k + 8, hk => exact absurd hk (by omega)
  obtain ⟨ty, ht⟩ := ht
  exact va_alen (D := jg_D Γ) hE.1 hE.2.1 hE.2.2.2.2.2.2.2.2.2.2.1.2.1 (jg_one_a hR hq hc) 0 ki rfl ht hv hd (kk p e R s m args below meth c H ls locs cells slots mc ms hE h1 h2 h3 h4 hf hz hR hL)
theorem jg_fr {Γ : jg_G} {h : jg_H} {H : Heap} {locs : List Loc} {q i : Nat} (hR : jg_R Γ h H) (hq : q < h.2) (hf : ∀ y ∈ locs, jg_z Γ ≤ y.base) : ∀ y ∈ locs ++ [⟨jg_a Γ q, i⟩], jg_z Γ ≤ y.base := by
  intro y hy
  rcases List.mem_append.mp hy with h9 | h9
  · exact hf y h9
  · rw [List.mem_singleton.mp h9]; exact hR.ge hq
theorem jg_iast {q n : Nat} {f : Nat → Int32} {i x : Int32} (hd : decode M.2.1 pc = .ok (.iastore, 1)) (hq : q < h.2) (hc : h.1 q = .inr (0, n, .inl f)) (hin : vp_in i n) (kk : jg Γ M d a b (pc + 1) L S (va_up h.1 q (.inr (0, n, .inl (upd f i.toNatClampNeg x))), h.2) Q) : jg Γ M d a b pc L (.int x :: .int i :: .ref q :: S) h Q := by
  intro p e R s m args below meth c H ls locs cells slots mc ms hE h1 h2 h3 h4 hf hz hR hL
  refine W.iast hE.1 hE.2.1 (jg_arr hR hq hc) (jg_isArr (ki := 0) hE.2.2.2.2.2.2.2.2.2.2.1 rfl n (fun j => .int (f j))) (fun q => by cases q) (by show ¬ (i < 0 ∨ (arrV _ _ _).slots.size ≤ _); rw [arrV_size]; exact hin) rfl rfl hd fun H1 e1 z oq => ?_
  refine kk p e R s m args below meth c H1 ls _ cells slots mc ms hE h1 h2 h3 h4 (jg_fr hR hq hf) (by rw [z]; exact hz) (hR.set hq z oq ?_) hL
  show H1[jg_a Γ q]? = some (vp_cell _ (n, .inl _))
  rw [e1]
  show some ((vp_cell _ (n, .inl f)).setSlot _ _) = _
  rw [vp_cell_i, vp_cell_i, arrV_store]
  congr 2
  funext j
  by_cases hj : j = i.toNatClampNeg
  · subst hj; simp [updV, upd]
  · simp [updV, upd, hj]
theorem jg_bast {q n : Nat} {f : Nat → Int32} {i x : Int32} (hd : decode M.2.1 pc = .ok (.bastore, 1)) (hq : q < h.2) (hc : h.1 q = .inr (1, n, .inl f)) (hin : vp_in i n) (kk : jg Γ M d a b (pc + 1) L S (va_up h.1 q (.inr (1, n, .inl (upd f i.toNatClampNeg (vp_nar .byte x)))), h.2) Q) : jg Γ M d a b pc L (.int x :: .int i :: .ref q :: S) h Q := by
  intro p e R s m args below meth c H ls locs cells slots mc ms hE h1 h2 h3 h4 hf hz hR hL
  refine W.bast hE.1 hE.2.1 (jg_arr hR hq hc) (jg_isArr (ki := 1) hE.2.2.2.2.2.2.2.2.2.2.1 rfl n (fun j => .int (f j))) (fun q => by cases q) (by show ¬ (i < 0 ∨ (arrV _ _ _).slots.size ≤ _); rw [arrV_size]; exact hin) rfl rfl hd fun H1 e1 z oq => ?_
  refine kk p e R s m args below meth c H1 ls _ cells slots mc ms hE h1 h2 h3 h4 (jg_fr hR hq hf) (by rw [z]; exact hz) (hR.set hq z oq ?_) hL
  show H1[jg_a Γ q]? = some (vp_cell _ (n, .inl _))
  rw [e1]
  show some ((vp_cell _ (n, .inl f)).setSlot _ _) = _
  rw [vp_cell_i, vp_cell_i, arrV_store]
  congr 2
  funext j
  by_cases hj : j = i.toNatClampNeg
  · subst hj; simp [updV, upd, vp_nar]; try rfl
  · simp [updV, upd, hj]
theorem jg_zast {q n : Nat} {f : Nat → Int32} {i x : Int32} (hd : decode M.2.1 pc = .ok (.bastore, 1)) (hq : q < h.2) (hc : h.1 q = .inr (2, n, .inl f)) (hin : vp_in i n) (kk : jg Γ M d a b (pc + 1) L S (va_up h.1 q (.inr (2, n, .inl (upd f i.toNatClampNeg (vp_nar .boolean x)))), h.2) Q) : jg Γ M d a b pc L (.int x :: .int i :: .ref q :: S) h Q := by
  intro p e R s m args below meth c H ls locs cells slots mc ms hE h1 h2 h3 h4 hf hz hR hL
  refine W.zast hE.1 hE.2.1 (jg_arr hR hq hc) (jg_isArr (ki := 2) hE.2.2.2.2.2.2.2.2.2.2.1 rfl n (fun j => .int (f j))) (fun q => by cases q) (by show ¬ (i < 0 ∨ (arrV _ _ _).slots.size ≤ _); rw [arrV_size]; exact hin) rfl rfl hd fun H1 e1 z oq => ?_
  refine kk p e R s m args below meth c H1 ls _ cells slots mc ms hE h1 h2 h3 h4 (jg_fr hR hq hf) (by rw [z]; exact hz) (hR.set hq z oq ?_) hL
  show H1[jg_a Γ q]? = some (vp_cell _ (n, .inl _))
  rw [e1]
  show some ((vp_cell _ (n, .inl f)).setSlot _ _) = _
  rw [vp_cell_i, vp_cell_i, arrV_store]
  congr 2
  funext j
  by_cases hj : j = i.toNatClampNeg
  · subst hj; simp [updV, upd, vp_nar]; try rfl
  · simp [updV, upd, hj]
theorem jg_last {q n : Nat} {f : Nat → Int64} {i : Int32} {x : Int64} (hd : decode M.2.1 pc = .ok (.lastore, 1)) (hq : q < h.2) (hc : h.1 q = .inr (3, n, .inr (.inl f))) (hin : vp_in i n) (kk : jg Γ M d a b (pc + 1) L S (va_up h.1 q (.inr (3, n, .inr (.inl (vp_updL f i.toNatClampNeg x)))), h.2) Q) : jg Γ M d a b pc L (.long x :: .int i :: .ref q :: S) h Q := by
  intro p e R s m args below meth c H ls locs cells slots mc ms hE h1 h2 h3 h4 hf hz hR hL
  refine W.last hE.1 hE.2.1 (jg_arr hR hq hc) (jg_isArr (ki := 3) hE.2.2.2.2.2.2.2.2.2.2.1 rfl n (fun j => .long (f j))) (fun q => by cases q) (by show ¬ (i < 0 ∨ (arrV _ _ _).slots.size ≤ _); rw [arrV_size]; exact hin) rfl rfl hd fun H1 e1 z oq => ?_
  refine kk p e R s m args below meth c H1 ls _ cells slots mc ms hE h1 h2 h3 h4 (jg_fr hR hq hf) (by rw [z]; exact hz) (hR.set hq z oq ?_) hL
  show H1[jg_a Γ q]? = some (vp_cell _ (n, .inr (.inl _)))
  rw [e1]
  show some ((vp_cell _ (n, .inr (.inl f))).setSlot _ _) = _
  rw [vp_cell_l, vp_cell_l, arrV_store]
  congr 2
  funext j
  by_cases hj : j = i.toNatClampNeg
  · subst hj; simp [updV, vp_updL]
  · simp [updV, vp_updL, hj]
/-- a reference to an object of class ci is stored into an array of that class (kinds 4, 5, 6) -/
theorem jg_aast {q n ki ci y : Nat} {C : String} {T : u_T} {N : Nat} {fs : List Value} {f : Nat → Option Nat} {i : Int32} (hcl : jg_cl[ci]? = some (C, T, N)) (hty : jg_ty[ki]? = some (.object C)) (hki : ki = 4 ∨ ki = 5 ∨ ki = 6) (hd : decode M.2.1 pc = .ok (.aastore, 1)) (hq : q < h.2) (hc : h.1 q = .inr (ki, n, .inr (.inr f))) (hy : y < h.2) (hcy : h.1 y = .inl (ci, fs)) (hin : vp_in i n) (kk : jg Γ M d a b (pc + 1) L S (va_up h.1 q (.inr (ki, n, .inr (.inr (va_up f i.toNatClampNeg (some y))))), h.2) Q) : jg Γ M d a b pc L (.ref y :: .int i :: .ref q :: S) h Q := by
  intro p e R s m args below meth c H ls locs cells slots mc ms hE h1 h2 h3 h4 hf hz hR hL
  have hlt : i.toNatClampNeg < n := Nat.not_le.mp fun q => hin (Or.inr q)
  have h0 : ¬ i < 0 := fun q => hin (Or.inl q)
  have hU := hE.2.2.2.2.2.2.2.2.2.2.1
  have hK := hU.2.1
  obtain ⟨r', hr', cellV, g1, g2, g3, -⟩ := jg_one_o hR hy hcy hcl 0 _ rfl
  have hcls := (hK.1 ci _ hcl).2
  have ht : (jg_tys Γ)[ki]? = some (jg_dA Γ ki, .object C) := by
    rcases hki with rfl | rfl | rfl <;> (cases hty; rfl)
  obtain ⟨kA, comp, k1, k2, k3, -⟩ := (hK.2 ki _ ht).2
  have hcomp : comp = (jg_D Γ).1 ci := Option.some.inj (k3.symm.trans hcls.1)
  subst hcomp
  obtain ⟨kC, hkC, -⟩ := hcls.2
  refine W.aast hE.1 hE.2.1 (jg_arr hR hq hc) (fun q h => by cases h) (fun h => by cases h) k1 k2 rfl hkC ⟨h0, by show _ < (arrV _ _ _).slots.size; rw [arrV_size]; exact hlt⟩ g1 (fun q h => by rw [g3] at h; cases h) (by rw [g2]; exact hkC) (by rw [g2]; exact va_assign hcls) rfl rfl hd fun H1 e1 z oq => ?_
  refine kk p e R s m args below meth c H1 ls _ cells slots mc ms hE h1 h2 h3 h4 (jg_fr hR hq hf) (by rw [z]; exact hz) (hR.set hq z oq ?_) hL
  show H1[jg_a Γ q]? = some (vp_cell _ (n, .inr (.inr (.inr (.inr _)))))
  rw [e1]
  show some ((vp_cell _ (n, .inr (.inr (.inr (.inr (fun j => (f j).map (jg_a Γ))))))).setSlot _ _) = _
  rw [vp_cell_q, vp_cell_q, arrV_store]
  congr 2
  funext j
  by_cases hj : j = i.toNatClampNeg
  · subst hj; simp [updV, va_up, va_rf]
  · simp [updV, va_up, hj]
end JGH
