/-! TEXT CONSTANTS (by program wip/whole/strrows.py) -/
set_option maxRecDepth 20000 in
theorem wf_value : Cond.fieldLink "java/lang/String" 9 "java/lang/String" "value" "[B" ∈ jg_ws := (jg_m10 66 rfl rfl)
set_option maxRecDepth 20000 in
theorem wf_coder : Cond.fieldLink "java/lang/String" 15 "java/lang/String" "coder" "B" ∈ jg_ws := (jg_m10 67 rfl rfl)
set_option maxRecDepth 20000 in
theorem wf_compact : Cond.fieldLink "java/lang/String" 38 "java/lang/String" "COMPACT_STRINGS" "Z" ∈ jg_ws := (jg_m6 145 rfl rfl)
set_option maxRecDepth 20000 in
theorem wf_sioobe : Cond.fieldLink "java/lang/String" 1053 "jdk/internal/util/Preconditions" "SIOOBE_FORMATTER" "Ljava/util/function/BiFunction;" ∈ jg_ws := (jg_m6 161 rfl rfl)
section STR
variable {Γ : jg_G} {M M' : jg_Md} {d d' a b a' b' pc : Nat} {L L' : List (Option Value)} {S : List Value} {h h' : jg_H} {Q Q' : jg_Q}
theorem jg_a_c (Γ : jg_G) (i : Nat) : jg_a Γ (1000000 + i) = jg_x Γ i := by
  unfold jg_a
  rw [if_neg (by omega), Nat.add_sub_cancel_left]
theorem jg_vaS {p : Program} {R : Room} {s : State} {m : MethodId} {args : Array Value} {meth : Method} {c : Code} {H : Heap} {locs : List Loc} (hE : jg_E Γ M d p R s m args meth c) (hz : s.heap.size ≤ H.size) (hR : jg_R Γ h H) (hf : ∀ q ∈ locs, jg_z Γ ≤ q.base) : va_S (fun q => jg_z Γ ≤ q) s.heap H locs := by
  obtain ⟨x1, x2, x3, x4, x5, x6, x7, x8, x9, x10, x11, x12, x13, x14⟩ := hE
  refine ⟨hz, fun q hq hn => ?_, hf⟩
  have h0 : q < jg_z Γ := Nat.not_le.mp hn
  rw [hR.2.2.1 q h0]
  exact (x14 q h0).symm
theorem jg_sval {i : Nat} (hi : i < 41) (hcl : M.1.cls = "java/lang/String") (hd : decode M.2.1 pc = .ok (.getfield 9, 3)) (kk : jg Γ M d a b (pc + 3) L (.ref (1000000 + (100 + i)) :: S) h Q) : jg Γ M d a b pc L (.ref (1000000 + i) :: S) h Q := by
  intro p e R s m args below meth c H ls locs cells slots mc ms hE h1 h2 h3 h4 hf hz hR hL
  obtain ⟨x1, x2, x3, x4, x5, x6, x7, x8, x9, x10, x11, x12, x13, x14⟩ := id hE
  have hsc := x11.2.2.2.2.2.2.2.2.2.2
  have hkp : ∀ a : Nat, a < (jg_H0 Γ).size → ¬ (jg_z Γ ≤ a) → s.heap[a]? = (jg_H0 Γ)[a]? := fun a _ hn => x14 a (Nat.not_le.mp hn)
  have hS := jg_vaS hE hz hR hf
  have k9 := kk p e R s m args below meth c H ls locs cells slots mc ms hE h1 h2 h3 h4 hf hz hR hL
  rw [List.map_cons, show jg_v Γ (.ref (1000000 + (100 + i))) = .ref (jg_x Γ (100 + i)) from congrArg Value.ref (jg_a_c Γ (100 + i))] at k9
  rw [List.map_cons, show jg_v Γ (.ref (1000000 + i)) = .ref (jg_x Γ i) from congrArg Value.ref (jg_a_c Γ i)]
  exact vk_getf x1 x2 ((hsc.1 i hi).2.2.1.kept hkp) hS (hcl ▸ x5) (x6 _ wf_value) (fun _ h9 => h9) hd k9
theorem jg_scod {i : Nat} (hi : i < 41) (hcl : M.1.cls = "java/lang/String") (hd : decode M.2.1 pc = .ok (.getfield 15, 3)) (kk : jg Γ M d a b (pc + 3) L (.int 0 :: S) h Q) : jg Γ M d a b pc L (.ref (1000000 + i) :: S) h Q := by
  intro p e R s m args below meth c H ls locs cells slots mc ms hE h1 h2 h3 h4 hf hz hR hL
  obtain ⟨x1, x2, x3, x4, x5, x6, x7, x8, x9, x10, x11, x12, x13, x14⟩ := id hE
  have hsc := x11.2.2.2.2.2.2.2.2.2.2
  have hkp : ∀ a : Nat, a < (jg_H0 Γ).size → ¬ (jg_z Γ ≤ a) → s.heap[a]? = (jg_H0 Γ)[a]? := fun a _ hn => x14 a (Nat.not_le.mp hn)
  have hS := jg_vaS hE hz hR hf
  have k9 := kk p e R s m args below meth c H ls locs cells slots mc ms hE h1 h2 h3 h4 hf hz hR hL
  rw [List.map_cons, show jg_v Γ (.ref (1000000 + i)) = .ref (jg_x Γ i) from congrArg Value.ref (jg_a_c Γ i)]
  exact vk_getf x1 x2 ((hsc.1 i hi).2.1.kept hkp) hS (hcl ▸ x5) (x6 _ wf_coder) (fun _ h9 => h9) hd k9
theorem jg_scmp (hcl : M.1.cls = "java/lang/String") (hd : decode M.2.1 pc = .ok (.getstatic 38, 3)) (kk : jg Γ M d a b (pc + 3) L (.int 1 :: S) h Q) : jg Γ M d a b pc L S h Q := by
  intro p e R s m args below meth c H ls locs cells slots mc ms hE h1 h2 h3 h4 hf hz hR hL
  obtain ⟨x1, x2, x3, x4, x5, x6, x7, x8, x9, x10, x11, x12, x13, x14⟩ := id hE
  have hsc := x11.2.2.2.2.2.2.2.2.2.2
  have hkp : ∀ a : Nat, a < (jg_H0 Γ).size → ¬ (jg_z Γ ≤ a) → s.heap[a]? = (jg_H0 Γ)[a]? := fun a _ hn => x14 a (Nat.not_le.mp hn)
  have hS := jg_vaS hE hz hR hf
  have k9 := kk p e R s m args below meth c H ls locs cells slots mc ms hE h1 h2 h3 h4 hf hz hR hL
  exact va_gets x1 x2 (hsc.2.1.kept hkp) hS (hcl ▸ x5) (x6 _ wf_compact) (fun _ h9 => h9) hd k9
theorem jg_ssio (hcl : M.1.cls = "java/lang/String") (hd : decode M.2.1 pc = .ok (.getstatic 1053, 3)) (k1 : jg Γ M d a b (pc + 3) L (.null :: S) h Q) (kk : jg Γ M d a b (pc + 3) L (.ref (1000000 + 300) :: S) h Q) : jg Γ M d a b pc L S h Q := by
  intro p e R s m args below meth c H ls locs cells slots mc ms hE h1 h2 h3 h4 hf hz hR hL
  obtain ⟨x1, x2, x3, x4, x5, x6, x7, x8, x9, x10, x11, x12, x13, x14⟩ := id hE
  have hsc := x11.2.2.2.2.2.2.2.2.2.2
  have hkp : ∀ a : Nat, a < (jg_H0 Γ).size → ¬ (jg_z Γ ≤ a) → s.heap[a]? = (jg_H0 Γ)[a]? := fun a _ hn => x14 a (Nat.not_le.mp hn)
  have hS := jg_vaS hE hz hR hf
  have k9 := kk p e R s m args below meth c H ls locs cells slots mc ms hE h1 h2 h3 h4 hf hz hR hL
  have k8 := k1 p e R s m args below meth c H ls locs cells slots mc ms hE h1 h2 h3 h4 hf hz hR hL
  rw [List.map_cons, show jg_v Γ (.ref (1000000 + 300)) = .ref (jg_x Γ 300) from congrArg Value.ref (jg_a_c Γ 300)] at k9
  rcases hsc.2.2.1 with hs | hs
  · exact va_gets x1 x2 (hs.kept hkp) hS (hcl ▸ x5) (x6 _ wf_sioobe) (fun _ h9 => h9) hd k8
  · exact va_gets x1 x2 (hs.kept hkp) hS (hcl ▸ x5) (x6 _ wf_sioobe) (fun _ h9 => h9) hd k9
/-- how long a constant is, and its signs -/
def sl (i : Nat) : Nat := (jg_byt.getD i []).length
def sch (i k : Nat) : Int32 := (jg_byt.getD i []).getD k 0
theorem jg_slen {i : Nat} (hi : i < 41) (hd : decode M.2.1 pc = .ok (.arraylength, 1)) (kk : jg Γ M d a b (pc + 1) L (.int (nI (sl i)) :: S) h Q) : jg Γ M d a b pc L (.ref (1000000 + (100 + i)) :: S) h Q := by
  intro p e R s m args below meth c H ls locs cells slots mc ms hE h1 h2 h3 h4 hf hz hR hL
  obtain ⟨x1, x2, x3, x4, x5, x6, x7, x8, x9, x10, x11, x12, x13, x14⟩ := id hE
  have hsc := x11.2.2.2.2.2.2.2.2.2.2
  have hkp : ∀ a : Nat, a < (jg_H0 Γ).size → ¬ (jg_z Γ ≤ a) → s.heap[a]? = (jg_H0 Γ)[a]? := fun a _ hn => x14 a (Nat.not_le.mp hn)
  have hS := jg_vaS hE hz hR hf
  have k9 := kk p e R s m args below meth c H ls locs cells slots mc ms hE h1 h2 h3 h4 hf hz hR hL
  rw [List.map_cons, show jg_v Γ (.ref (1000000 + (100 + i))) = .ref (jg_x Γ (100 + i)) from congrArg Value.ref (jg_a_c Γ (100 + i))]
  exact va_tlen x1 x2 ((hsc.1 i hi).2.2.2.kept hkp) hS rfl hd k9
theorem jg_sald {i : Nat} {k : Int32} (hi : i < 41) (hk : iL k (sl i)) (hd : decode M.2.1 pc = .ok (.baload, 1)) (kk : jg Γ M d a b (pc + 1) L (.int (sch i k.toNatClampNeg) :: S) h Q) : jg Γ M d a b pc L (.int k :: .ref (1000000 + (100 + i)) :: S) h Q := by
  intro p e R s m args below meth c H ls locs cells slots mc ms hE h1 h2 h3 h4 hf hz hR hL
  obtain ⟨x1, x2, x3, x4, x5, x6, x7, x8, x9, x10, x11, x12, x13, x14⟩ := id hE
  have hsc := x11.2.2.2.2.2.2.2.2.2.2
  have hkp : ∀ a : Nat, a < (jg_H0 Γ).size → ¬ (jg_z Γ ≤ a) → s.heap[a]? = (jg_H0 Γ)[a]? := fun a _ hn => x14 a (Nat.not_le.mp hn)
  have hS := jg_vaS hE hz hR hf
  have k9 := kk p e R s m args below meth c H ls locs cells slots mc ms hE h1 h2 h3 h4 hf hz hR hL
  rw [List.map_cons, List.map_cons, show jg_v Γ (.ref (1000000 + (100 + i))) = .ref (jg_x Γ (100 + i)) from congrArg Value.ref (jg_a_c Γ (100 + i))]
  exact va_tb x1 x2 ((hsc.1 i hi).2.2.2.kept hkp) hS (i := k) (fun q => by rcases q with q | q; exact hk.1 q; exact absurd hk.2 (Nat.not_lt.mpr q)) rfl hd k9
/-- a method of a text constant -/
theorem jg_callT {idx n i : Nat} {As : List Value} (hi : i < 41) (hcs : M'.1.cls = "java/lang/String") (hc : jg_Vc M.1.cls idx M' n) (hd : decode M.2.1 pc = .ok (.invokevirtual idx, 3)) (hn : As.length = n) (hm : M'.2.2.1 ≤ 45) (hl : (jg_en (.ref (1000000 + i) :: As)).length ≤ M'.2.2.1) (hent : jg_en (.ref (1000000 + i) :: As) ++ List.replicate (M'.2.2.1 - (jg_en (.ref (1000000 + i) :: As)).length) none = L') (hdd : d' + 1 ≤ d) (ha : a' ≤ a) (hb : b' ≤ b) (hS : (S.map fun v => v.category).sum ≤ 8)
    (K : jg Γ M' d' a' b' 0 L' [] h Q') (kr : ∀ v h', Q' (.inl v) h' → jg Γ M d (a - a') (b - b') (pc + 3) L (v.toList ++ S) h' Q) (kx : ∀ E h', Q' (.inr E) h' → Q (.inr E) h') : jg Γ M d a b pc L (As.reverse ++ .ref (1000000 + i) :: S) h Q := by
  intro p e R s m args below meth c H ls locs cells slots mc ms hE h1 h2 h3 h4 hf hz hR hL
  obtain ⟨x1, x2, x3, x4, x5, x6, x7, x8, x9, x10, x11, x12, x13, x14⟩ := id hE
  have hsc := x11.2.2.2.2.2.2.2.2.2.2
  have hkp : ∀ a : Nat, a < (jg_H0 Γ).size → ¬ (jg_z Γ ≤ a) → s.heap[a]? = (jg_H0 Γ)[a]? := fun a _ hn => x14 a (Nat.not_le.mp hn)
  have hSS := jg_vaS hE hz hR hf
  have hrc : ∃ cell : Cell, H[jg_a Γ (1000000 + i)]? = some cell ∧ cell.vm.isStatics = false ∧ s.vm.findClass M'.1.cls = some cell.cls := by
    rw [jg_a_c, hcs]
    obtain ⟨cell, q1, q2, q3, -⟩ := ((hsc.1 i hi).1.kept hkp).kept hSS.2.1
    exact ⟨cell, q1, q2, q3⟩
  obtain ⟨w1, w2, w2s, w3, w4, w5, w6, w7, w8⟩ := hc
  refine jg_back (a' := a') (b' := b') (A9 := (Value.ref (jg_a Γ (1000000 + i)) :: As.map (jg_v Γ)).toArray) hE h1 h2 h3 h4 hf hL ha hb ?_ kr kx
  refine vx_runV (y := M'.1) (bytes := M'.2.1) (maxL := M'.2.2.1) (ret := M'.2.2.2) (ws := jg_wm M') (n := n) (rm := jg_rm d' a' b') (C := M'.1.cls) (b := jg_a Γ (1000000 + i)) (Pc := jg_Pc Γ (.ref (1000000 + i) :: As) h) (As := As.map (jg_v Γ)) ⟨x1, x2, x4, x5, x6⟩ (jg_met w8 hl hent K) ⟨⟨rfl, rfl, ?_, ?_, pay_in x6 (jg_good w4), List.mem_cons_self, x6 _ w4, x6 _ w3, ⟨w5, w6⟩, jg_parm w7, x6 _ w1⟩, x6 _ w2, x6 _ w2s⟩ ⟨jg_blind Γ (.ref (1000000 + i) :: As) h, hrc, fun U hU hW => ⟨rfl, jg_U.warm hW x11, by rw [hU]; exact hR⟩⟩ rfl (by rw [List.length_map]; exact hn) hL.1 ?_ ?_ hd ⟨by omega, by omega⟩
  · show d' + 1 ≤ R.frames; omega
  · show 8 + (M'.2.2.1 + 11) + 64 * d' ≤ R.locals; omega
  · show (As.reverse ++ .ref (1000000 + i) :: S).map (jg_v Γ) = _
    rw [List.map_append, List.map_reverse]
    rfl
  · show 2 * 0 + _ ≤ 8
    rw [List.map_map, show ((fun v : Value => v.category) ∘ jg_v Γ) = (fun v => v.category) from funext (jg_v_cat Γ)]
    omega
theorem jc_T {idx n i : Nat} {As : List Value} {v : Option Value} (hi : i < 41) (hcs : M'.1.cls = "java/lang/String") (hc : jg_Vc M.1.cls idx M' n) (hd : decode M.2.1 pc = .ok (.invokevirtual idx, 3)) (hn : As.length = n) (hm : M'.2.2.1 ≤ 45) (hl : (jg_en (.ref (1000000 + i) :: As)).length ≤ M'.2.2.1) (hent : jg_en (.ref (1000000 + i) :: As) ++ List.replicate (M'.2.2.1 - (jg_en (.ref (1000000 + i) :: As)).length) none = L') (hdd : d' + 1 ≤ d) (hS : (S.map fun v => v.category).sum ≤ 8)
    (K : jc Γ M' d' 0 0 L' h (.inl v) h') (kk : jg Γ M d a b (pc + 3) L (v.toList ++ S) h' Q) : jg Γ M d a b pc L (As.reverse ++ .ref (1000000 + i) :: S) h Q :=
  jg_callT hi hcs hc hd hn hm hl hent hdd (Nat.zero_le _) (Nat.zero_le _) hS (K (jq (.inl v) h') ⟨rfl, rfl⟩) (fun v9 h9 e => by obtain ⟨e1, e2⟩ := e; cases e1; subst e2; exact kk) (fun E9 h9 e => nomatch e.1)
/-- a text constant is loaded -/
theorem jg_ldcs {idx i : Nat} {tx : String} (hi : jg_str[i]? = some (M.1.cls, idx, tx)) (hd : decode M.2.1 pc = .ok (.ldc idx, 2)) (kk : jg Γ M d a b (pc + 2) L (.ref (1000000 + i) :: S) h Q) : jg Γ M d a b pc L S h Q := by
  intro p e R s m args below meth c H ls locs cells slots mc ms hE h1 h2 h3 h4 hf hz hR hL
  obtain ⟨x1, x2, x3, x4, x5, x6, x7, x8, x9, x10, x11, x12, x13, x14⟩ := id hE
  have hsc := x11.2.2.2.2.2.2.2.2.2.2
  have hkp : ∀ a : Nat, a < (jg_H0 Γ).size → ¬ (jg_z Γ ≤ a) → s.heap[a]? = (jg_H0 Γ)[a]? := fun a _ hn => x14 a (Nat.not_le.mp hn)
  have hS := jg_vaS hE hz hR hf
  have k9 := kk p e R s m args below meth c H ls locs cells slots mc ms hE h1 h2 h3 h4 hf hz hR hL
  rw [List.map_cons, show jg_v Γ (.ref (1000000 + i)) = .ref (jg_x Γ i) from congrArg Value.ref (jg_a_c Γ i)] at k9
  exact va_ldcS x1 x2 x5 (x11.2.2.2.2.1 i _ hi) hd k9
end STR
section LDW
variable {p : Program} {l : Launch} {e : Env} {R : Room} {s : State} {m : MethodId} {args : Array Value} {below : List Frame} {meth : Method} {c : Code} {H : Heap} {locs : List Loc} {cells slots : Nat} {Q : State → Prop} {cc : ByteArray} {pc : Nat} {ls : Array Slot} {rest : List Value}
theorem va_ldcwS (hexec : p.tables.exec = Jvm.exec) (hb : c.code = cc) {own tx : String} {index q : Nat} (hown : s.vm.findClass own = some m.cls) (hZ : vk_R own index tx q s) (hdg : decode cc pc = .ok (.ldc_w index, 3))
    (k : W p l e R s m args below meth c H locs cells slots Q (F0 m (pc + 3) ls (.ref q :: rest))) : W p l e R s m args below meth c H locs cells slots Q (F0 m pc ls rest) := by
  intro T hT X
  obtain ⟨t, a1, b1⟩ := k T hT X
  refine ⟨t, ?_, b1⟩
  obtain ⟨k, cf, i, a', hk, hcf, hcp, -, hr, hev'⟩ := Cond.stringRef_spec hown hZ.1
  cases hZ.2.symm.trans hev'
  obtain ⟨k', hk', he⟩ := X.warmed.alike.2.2 _ _ hk
  have hr' : k'.resolved[index]? = some (some (.string q)) := by
    rcases X.warmed.entry hk hk' index with h | ⟨h, -⟩
    · rw [h]; exact hr
    · rw [hr] at h; cases h
  have hdg' : decode c.code (F0 m pc ls rest).pc = .ok (.ldc_w index, 3) := by rw [hb]; exact hdg
  jvm_step X.here [hexec, hdg', ldc_w.wp_string (e := e) (s := T) (f := F0 m pc ls rest) X.here.top hk' (by rw [he]; exact hcf) hcp hr']
  exact a1
end LDW
section STR2
variable {Γ : jg_G} {M M' : jg_Md} {d d' a b a' b' pc : Nat} {L L' : List (Option Value)} {S : List Value} {h h' : jg_H} {Q Q' : jg_Q}
theorem jg_ldcws {idx i : Nat} {tx : String} (hi : jg_str[i]? = some (M.1.cls, idx, tx)) (hd : decode M.2.1 pc = .ok (.ldc_w idx, 3)) (kk : jg Γ M d a b (pc + 3) L (.ref (1000000 + i) :: S) h Q) : jg Γ M d a b pc L S h Q := by
  intro p e R s m args below meth c H ls locs cells slots mc ms hE h1 h2 h3 h4 hf hz hR hL
  obtain ⟨x1, x2, x3, x4, x5, x6, x7, x8, x9, x10, x11, x12, x13, x14⟩ := id hE
  have hsc := x11.2.2.2.2.2.2.2.2.2.2
  have hkp : ∀ a : Nat, a < (jg_H0 Γ).size → ¬ (jg_z Γ ≤ a) → s.heap[a]? = (jg_H0 Γ)[a]? := fun a _ hn => x14 a (Nat.not_le.mp hn)
  have hS := jg_vaS hE hz hR hf
  have k9 := kk p e R s m args below meth c H ls locs cells slots mc ms hE h1 h2 h3 h4 hf hz hR hL
  rw [List.map_cons, show jg_v Γ (.ref (1000000 + i)) = .ref (jg_x Γ i) from congrArg Value.ref (jg_a_c Γ i)] at k9
  exact va_ldcwS x1 x2 x5 (x11.2.2.2.2.1 i _ hi) hd k9
end STR2
