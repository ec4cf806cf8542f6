/-! THE LAW, CASE BY CASE (by program wip/whole/ldec.py) -/
def mL_law : jg_Md := (yL_law, cL_law, 7, some .boolean)
/-- the heap: SiltHarbour from 0 on, the reference from 180 on, out at 191 -/
def lh (g : Nat → jg_C) (f : Nat → Int64) (τ : cT) (c : cS) (s : rs_S) (n : Nat) : jg_H := (ct_h (rs_h (va_up g 191 (.inr (3, 1, .inr (.inl f)))) 180 s) τ c, n)
def LI (τ : cT) (n : Nat) : Prop := Sh τ n 0 ∧ 192 ≤ n ∧ (∀ j, n ≤ j → τ j = .inr (8, 0)) ∧ ∀ j, 180 ≤ j → j ≤ 191 → τ j = .inr (8, 0)
abbrev LL (i : Nat) : List (Option Value) := [some (.ref 1000500), some (.ref 0), some (.ref 180), some (.ref 191), some (.int (nI i)), none, none]
abbrev LM (i : Nat) (x y : Int32) : List (Option Value) := [some (.ref 1000500), some (.ref 0), some (.ref 180), some (.ref 191), some (.int (nI i)), some (.int x), some (.int y)]
abbrev LN (i : Nat) (x : Int32) : List (Option Value) := [some (.ref 1000500), some (.ref 0), some (.ref 180), some (.ref 191), some (.int (nI i)), some (.int x), none]
def bz (x : Int32) : Int32 := if x = 0 then nI 0 else nI 1
theorem rs_out {G : Nat → jg_C} {s : rs_S} {k : Nat} (h : ¬ (180 ≤ k ∧ k ≤ 190)) : rs_h G 180 s k = G k := by
  unfold rs_h; rw [if_neg (by omega), if_neg (by omega)]
theorem rs_in {G G' : Nat → jg_C} {s : rs_S} {k : Nat} (h : 180 ≤ k ∧ k ≤ 190) : rs_h G 180 s k = rs_h G' 180 s k := by
  unfold rs_h
  by_cases e : k = 180
  · rw [if_pos e, if_pos e]
  · rw [if_neg e, if_neg e, if_pos (by omega), if_pos (by omega)]
theorem lh_ref {G : Nat → jg_C} {τ : cT} {c : cS} {s : rs_S} (h : ∀ j, 180 ≤ j → j ≤ 191 → τ j = .inr (8, 0)) : ct_h (rs_h G 180 s) τ c = rs_h (ct_h G τ c) 180 s := by
  funext k
  by_cases e : 180 ≤ k ∧ k ≤ 190
  · rw [ct_base (h k e.1 (by omega))]; exact rs_in e
  · rw [rs_out e]
    unfold ct_h
    rw [rs_out e]
theorem rs_va {G : Nat → jg_C} {s : rs_S} {k : Nat} {x : jg_C} (h : ¬ (180 ≤ k ∧ k ≤ 190)) : va_up (rs_h G 180 s) k x = rs_h (va_up G k x) 180 s := by
  funext j
  by_cases e : j = k
  · subst e; rw [va_up_self, rs_out h, va_up_self]
  · rw [va_up_ne _ _ e]
    by_cases e2 : 180 ≤ j ∧ j ≤ 190
    · exact rs_in e2
    · rw [rs_out e2, rs_out e2, va_up_ne _ _ e]
theorem va_va {g : Nat → jg_C} {j k : Nat} {x y : jg_C} (h : j ≠ k) : va_up (va_up g j x) k y = va_up (va_up g k y) j x := by
  funext m
  by_cases e1 : m = j
  · subst e1; rw [va_up_ne _ _ h, va_up_self, va_up_self]
  · rw [va_up_ne _ _ e1]
    by_cases e2 : m = k
    · subst e2; rw [va_up_self, va_up_self]
    · rw [va_up_ne _ _ e2, va_up_ne _ _ e2, va_up_ne _ _ e1]
theorem lh_out {g : Nat → jg_C} {f f' : Nat → Int64} {τ : cT} {c : cS} {s : rs_S} {n : Nat} : ((ct_h (va_up (rs_h (va_up g 191 (.inr (3, 1, .inr (.inl f)))) 180 s) 191 (.inr (3, 1, .inr (.inl f')))) τ c, n) : jg_H) = lh g f' τ c s n := by
  unfold lh; rw [rs_va (by decide), mk_uu]
theorem lh_gx {g : Nat → jg_C} {f : Nat → Int64} {τ : cT} {c : cS} {s : rs_S} {n : Nat} (h : 192 ≤ n) : ((ct_h (gx (rs_h (va_up g 191 (.inr (3, 1, .inr (.inl f)))) 180 s) n) τ c, n + 1) : jg_H) = lh (gx g n) f τ c s (n + 1) := by
  unfold lh gx; rw [rs_va (by omega), va_va (by omega)]
theorem lh_191 {g : Nat → jg_C} {f : Nat → Int64} {s : rs_S} : rs_h (va_up g 191 (.inr (3, 1, .inr (.inl f)))) 180 s 191 = .inr (3, 1, .inr (.inl f)) := by
  rw [rs_out (by decide), va_up_self]
theorem lcmp_self (x : Int64) : lg_cmp x x = 0 := by
  unfold lg_cmp
  rw [if_neg (by show ¬ x < x; exact Int64.lt_irrefl), if_pos rfl]
section LAW
variable {Γ : jg_G} {M' : jg_Md} {X : Nat × (Nat → Int32)} {d d' a b a' b' pc i : Nat} {L L' : List (Option Value)} {S : List Value} {h h' : jg_H} {Q : jg_Q} {g : Nat → jg_C} {f : Nat → Int64} {τ τ' : cT} {n n' : Nat} {c c' : cS} {s s' : rs_S}
theorem jh_arg {j : Nat} {jj : Int} (d0 : decode cL_law pc = .ok (.aload_n 0, 1)) (d1 : decode cL_law (pc + 1) = .ok (.iload 4, 2)) (d2 : decode cL_law (pc + 3) = .ok (.iconst jj, 1)) (hj : Int32.ofInt jj = nI j) (d3 : decode cL_law (pc + 4) = .ok (.iadd, 1)) (d4 : decode cL_law (pc + 5) = .ok (.iaload, 1)) (l0 : L[0]? = some (some (.ref 1000500))) (l4 : L[4]? = some (some (.int (nI i)))) (hi : i + j < X.1) (hX : X.1 ≤ 4608)
    (kk : jh Γ mL_law ([], X) d a b (pc + 6) L (.int (X.2 (i + j)) :: S) h Q) : jh Γ mL_law ([], X) d a b pc L S h Q := by
  refine jh_aload_n d0 l0 ?_
  refine jh_iload d1 l4 ?_
  refine jh_iconst (v := nI j) d2 hj ?_
  refine jh_iadd (x := nI i) (y := nI j) d3 ?_
  rw [nI_add]
  refine jh_sld (i := nI (i + j)) d4 (vp_iL (iL_t hi (show X.1 < 2 ^ 31 by omega))) ?_
  rw [nI_clamp (by omega)]
  exact kk
theorem jh_argB {j : Nat} {jj : Int} (d0 : decode cL_law pc = .ok (.aload_n 0, 1)) (d1 : decode cL_law (pc + 1) = .ok (.iload 4, 2)) (d2 : decode cL_law (pc + 3) = .ok (.bipush jj, 2)) (hj : (Int8.ofInt jj).toInt32 = nI j) (d3 : decode cL_law (pc + 5) = .ok (.iadd, 1)) (d4 : decode cL_law (pc + 6) = .ok (.iaload, 1)) (l0 : L[0]? = some (some (.ref 1000500))) (l4 : L[4]? = some (some (.int (nI i)))) (hi : i + j < X.1) (hX : X.1 ≤ 4608)
    (kk : jh Γ mL_law ([], X) d a b (pc + 7) L (.int (X.2 (i + j)) :: S) h Q) : jh Γ mL_law ([], X) d a b pc L S h Q := by
  refine jh_aload_n d0 l0 ?_
  refine jh_iload d1 l4 ?_
  refine jh_bipush (v := nI j) d2 hj ?_
  refine jh_iadd (x := nI i) (y := nI j) d3 ?_
  rw [nI_add]
  refine jh_sld (i := nI (i + j)) d4 (vp_iL (iL_t hi (show X.1 < 2 ^ 31 by omega))) ?_
  rw [nI_clamp (by omega)]
  exact kk
theorem jh_bz {x : Int32} {t j : Nat} {o1 o2 : Int} (d0 : decode cL_law pc = .ok (.ifCond .eq o1, 3)) (t0 : (pc : Int) + o1 = (t : Int)) (d1 : decode cL_law (pc + 3) = .ok (.iconst 1, 1)) (d2 : decode cL_law (pc + 3 + 1) = .ok (.goto o2, 3)) (t1 : ((pc + 3 + 1 : Nat) : Int) + o2 = (j : Int)) (d3 : decode cL_law t = .ok (.iconst 0, 1)) (hj : t + 1 = j)
    (kk : jh Γ mL_law ([], X) d a b j L (.int (bz x) :: S) h Q) : jh Γ mL_law ([], X) d a b pc L (.int x :: S) h Q := by
  subst hj
  refine jh_if_eq (x := x) d0 t0 (fun e => ?_) (fun e => ?_)
  · refine jh_iconst (v := nI 0) d3 (by decide) ?_
    have h9 : bz x = nI 0 := if_pos e
    rw [h9] at kk
    exact kk
  · refine jh_iconst (v := nI 1) d1 (by decide) ?_
    refine jh_goto d2 t1 ?_
    have h9 : bz x = nI 1 := if_neg e
    rw [h9] at kk
    exact kk
/-- a call of the reference -/
theorem jh_ref {idx m : Nat} {As : List Value} {v : Option Value} (hI : LI τ n) (hc : jg_Vc RL idx M' m) (hd : decode cL_law pc = .ok (.invokevirtual idx, 3)) (hcl : M'.1.cls = RX12) (hn : As.length = m) (hm : M'.2.2.1 ≤ 45) (hl : (jg_en (.ref 180 :: As)).length ≤ M'.2.2.1) (hent : jg_en (.ref 180 :: As) ++ List.replicate (M'.2.2.1 - (jg_en (.ref 180 :: As)).length) none = L') (hdd : d' + 1 ≤ d) (hS : (S.map fun v => v.category).sum ≤ 8)
    (K : ∀ g9 : Nat → jg_C, jc Γ M' d' 0 0 L' (rs_h g9 180 s, n) (.inl v) (rs_h g9 180 s', n)) (kk : jh Γ mL_law ([], X) d a b (pc + 3) L (v.toList ++ S) (lh g f τ c s' n) Q) : jh Γ mL_law ([], X) d a b pc L (As.reverse ++ .ref 180 :: S) (lh g f τ c s n) Q := by
  refine jh_hs (S' := As.reverse ++ .ref 180 :: S) (h' := (rs_h (ct_h (va_up g 191 (.inr (3, 1, .inr (.inl f)))) τ c) 180 s, n)) rfl (by unfold lh; rw [lh_ref hI.2.2.2]) ?_
  refine jh_callV (q := 180) (As := As) (a' := 0) (b' := 0) (ci := 12) (T9 := TX12) (N9 := 23) hc hd (by rw [hcl]; rfl) (by show 180 < n; have := hI.2.1; omega) (rs_at (ct_h (va_up g 191 (.inr (3, 1, .inr (.inl f)))) τ c) 180 s) hn hm hl hent hdd (Nat.zero_le _) (Nat.zero_le _) hS (K (ct_h (va_up g 191 (.inr (3, 1, .inr (.inl f)))) τ c) (jq (.inl v) _) ⟨rfl, rfl⟩) (fun v9 h9 e9 => ?_) (fun E9 h9 e9 => nomatch e9.1)
  obtain ⟨e1, e2⟩ := e9
  cases e1
  subst e2
  refine jh_hs (S' := v.toList ++ S) (h' := lh g f τ c s' n) rfl (by unfold lh; rw [lh_ref hI.2.2.2]) ?_
  exact kk
/-- a call of the class that doesn't throw -/
theorem jh_cls {idx m : Nat} {As : List Value} {v : Option Value} (hI : LI τ n) (hc : jg_Vc RL idx M' m) (hd : decode cL_law pc = .ok (.invokevirtual idx, 3)) (hcl : M'.1.cls = RX11) (hn : As.length = m) (hm : M'.2.2.1 ≤ 45) (hl : (jg_en (.ref 0 :: As)).length ≤ M'.2.2.1) (hent : jg_en (.ref 0 :: As) ++ List.replicate (M'.2.2.1 - (jg_en (.ref 0 :: As)).length) none = L') (hdd : d' + 1 ≤ d) (ha : a' ≤ a) (hb : b' ≤ b) (hS : (S.map fun v => v.category).sum ≤ 8)
    (K : ∀ g9 : Nat → jg_C, jc Γ M' d' a' b' L' (ct_h g9 τ c, n) (.inl v) (ct_h g9 τ' c', n')) (kk : jh Γ mL_law ([], X) d (a - a') (b - b') (pc + 3) L (v.toList ++ S) (lh g f τ' c' s n') Q) : jh Γ mL_law ([], X) d a b pc L (As.reverse ++ .ref 0 :: S) (lh g f τ c s n) Q := by
  refine jh_callV (q := 0) (As := As) (a' := a') (b' := b') (ci := 11) (T9 := TX11) (N9 := 5) hc hd (by rw [hcl]; rfl) hI.1.ob0.1 (ct_o hI.1.ob0) hn hm hl hent hdd ha hb hS (K (rs_h (va_up g 191 (.inr (3, 1, .inr (.inl f)))) 180 s) (jq (.inl v) _) ⟨rfl, rfl⟩) (fun v9 h9 e9 => ?_) (fun E9 h9 e9 => nomatch e9.1)
  obtain ⟨e1, e2⟩ := e9
  cases e1
  subst e2
  exact kk
/-- a call of a wrapper -/
theorem jh_wrp {idx m : Nat} {As : List Value} {v : Int32} {hw : List (Nat × Nat × Nat × Nat)} (hc : jh_Sc RL idx M' hw m) (hd : decode cL_law pc = .ok (.invokestatic idx, 3)) (hn : As.length = m) (hm : M'.2.2.1 ≤ 45) (hl : (jg_en As).length ≤ M'.2.2.1) (hent : jg_en As ++ List.replicate (M'.2.2.1 - (jg_en As).length) none = L') (hdd : d' + 1 ≤ d) (ha : a' ≤ a) (hb : b' ≤ b) (hS : (S.map fun v => v.category).sum ≤ 8)
    (K : jhc Γ M' (hw, X) d' a' b' L' h (.inl (some (.int v))) h') (kk : jh Γ mL_law ([], X) d (a - a') (b - b') (pc + 3) L (.int v :: S) h' Q) : jh Γ mL_law ([], X) d a b pc L (As.reverse ++ S) h Q := by
  refine jh_callW (hh' := (hw, X)) (As := As) (a' := a') (b' := b') hc rfl hd hn hm hl hent hdd ha hb hS (K (jq (.inl (some (.int v))) h') ⟨rfl, rfl⟩) (fun v9 h9 e9 => ?_) (fun E9 h9 e9 => nomatch e9.1)
  obtain ⟨e1, e2⟩ := e9
  cases e1
  subst e2
  exact kk
end LAW
theorem dL_law_204 : decode cL_law 204 = .ok (.aload_n 1, 1) := by decide +kernel
theorem dL_law_205 : decode cL_law 205 = .ok (.aload_n 0, 1) := by decide +kernel
theorem dL_law_206 : decode cL_law 206 = .ok (.iload 4, 2) := by decide +kernel
theorem dL_law_208 : decode cL_law 208 = .ok (.iconst 1, 1) := by decide +kernel
theorem dL_law_209 : decode cL_law 209 = .ok (.iadd, 1) := by decide +kernel
theorem dL_law_210 : decode cL_law 210 = .ok (.iaload, 1) := by decide +kernel
theorem dL_law_211 : decode cL_law 211 = .ok (.aload_n 0, 1) := by decide +kernel
theorem dL_law_212 : decode cL_law 212 = .ok (.iload 4, 2) := by decide +kernel
theorem dL_law_214 : decode cL_law 214 = .ok (.iconst 2, 1) := by decide +kernel
theorem dL_law_215 : decode cL_law 215 = .ok (.iadd, 1) := by decide +kernel
theorem dL_law_216 : decode cL_law 216 = .ok (.iaload, 1) := by decide +kernel
theorem dL_law_217 : decode cL_law 217 = .ok (.aload_n 0, 1) := by decide +kernel
theorem dL_law_218 : decode cL_law 218 = .ok (.iload 4, 2) := by decide +kernel
theorem dL_law_220 : decode cL_law 220 = .ok (.iconst 3, 1) := by decide +kernel
theorem dL_law_221 : decode cL_law 221 = .ok (.iadd, 1) := by decide +kernel
theorem dL_law_222 : decode cL_law 222 = .ok (.iaload, 1) := by decide +kernel
theorem dL_law_223 : decode cL_law 223 = .ok (.aload_n 0, 1) := by decide +kernel
theorem dL_law_224 : decode cL_law 224 = .ok (.iload 4, 2) := by decide +kernel
theorem dL_law_226 : decode cL_law 226 = .ok (.iconst 4, 1) := by decide +kernel
theorem dL_law_227 : decode cL_law 227 = .ok (.iadd, 1) := by decide +kernel
theorem dL_law_228 : decode cL_law 228 = .ok (.iaload, 1) := by decide +kernel
theorem dL_law_229 : decode cL_law 229 = .ok (.aload_n 0, 1) := by decide +kernel
theorem dL_law_230 : decode cL_law 230 = .ok (.iload 4, 2) := by decide +kernel
theorem dL_law_232 : decode cL_law 232 = .ok (.iconst 5, 1) := by decide +kernel
theorem dL_law_233 : decode cL_law 233 = .ok (.iadd, 1) := by decide +kernel
theorem dL_law_234 : decode cL_law 234 = .ok (.iaload, 1) := by decide +kernel
theorem dL_law_235 : decode cL_law 235 = .ok (.invokevirtual 125, 3) := by decide +kernel
theorem dL_law_238 : decode cL_law 238 = .ok (.aload_n 2, 1) := by decide +kernel
theorem dL_law_239 : decode cL_law 239 = .ok (.aload_n 0, 1) := by decide +kernel
theorem dL_law_240 : decode cL_law 240 = .ok (.iload 4, 2) := by decide +kernel
theorem dL_law_242 : decode cL_law 242 = .ok (.iconst 1, 1) := by decide +kernel
theorem dL_law_243 : decode cL_law 243 = .ok (.iadd, 1) := by decide +kernel
theorem dL_law_244 : decode cL_law 244 = .ok (.iaload, 1) := by decide +kernel
theorem dL_law_245 : decode cL_law 245 = .ok (.aload_n 0, 1) := by decide +kernel
theorem dL_law_246 : decode cL_law 246 = .ok (.iload 4, 2) := by decide +kernel
theorem dL_law_248 : decode cL_law 248 = .ok (.iconst 2, 1) := by decide +kernel
theorem dL_law_249 : decode cL_law 249 = .ok (.iadd, 1) := by decide +kernel
theorem dL_law_250 : decode cL_law 250 = .ok (.iaload, 1) := by decide +kernel
theorem dL_law_251 : decode cL_law 251 = .ok (.aload_n 0, 1) := by decide +kernel
theorem dL_law_252 : decode cL_law 252 = .ok (.iload 4, 2) := by decide +kernel
theorem dL_law_254 : decode cL_law 254 = .ok (.iconst 3, 1) := by decide +kernel
theorem dL_law_255 : decode cL_law 255 = .ok (.iadd, 1) := by decide +kernel
theorem dL_law_256 : decode cL_law 256 = .ok (.iaload, 1) := by decide +kernel
theorem dL_law_257 : decode cL_law 257 = .ok (.aload_n 0, 1) := by decide +kernel
theorem dL_law_258 : decode cL_law 258 = .ok (.iload 4, 2) := by decide +kernel
theorem dL_law_260 : decode cL_law 260 = .ok (.iconst 4, 1) := by decide +kernel
theorem dL_law_261 : decode cL_law 261 = .ok (.iadd, 1) := by decide +kernel
theorem dL_law_262 : decode cL_law 262 = .ok (.iaload, 1) := by decide +kernel
theorem dL_law_263 : decode cL_law 263 = .ok (.aload_n 0, 1) := by decide +kernel
theorem dL_law_264 : decode cL_law 264 = .ok (.iload 4, 2) := by decide +kernel
theorem dL_law_266 : decode cL_law 266 = .ok (.iconst 5, 1) := by decide +kernel
theorem dL_law_267 : decode cL_law 267 = .ok (.iadd, 1) := by decide +kernel
theorem dL_law_268 : decode cL_law 268 = .ok (.iaload, 1) := by decide +kernel
theorem dL_law_269 : decode cL_law 269 = .ok (.invokevirtual 129, 3) := by decide +kernel
theorem dL_law_272 : decode cL_law 272 = .ok (.if_icmp .eq 2241, 3) := by decide +kernel
theorem dL_law_277 : decode cL_law 277 = .ok (.aload_n 1, 1) := by decide +kernel
theorem dL_law_278 : decode cL_law 278 = .ok (.aload_n 0, 1) := by decide +kernel
theorem dL_law_279 : decode cL_law 279 = .ok (.iload 4, 2) := by decide +kernel
theorem dL_law_281 : decode cL_law 281 = .ok (.iconst 1, 1) := by decide +kernel
theorem dL_law_282 : decode cL_law 282 = .ok (.iadd, 1) := by decide +kernel
theorem dL_law_283 : decode cL_law 283 = .ok (.iaload, 1) := by decide +kernel
theorem dL_law_284 : decode cL_law 284 = .ok (.invokevirtual 130, 3) := by decide +kernel
theorem dL_law_287 : decode cL_law 287 = .ok (.aload_n 2, 1) := by decide +kernel
theorem dL_law_288 : decode cL_law 288 = .ok (.aload_n 0, 1) := by decide +kernel
theorem dL_law_289 : decode cL_law 289 = .ok (.iload 4, 2) := by decide +kernel
theorem dL_law_291 : decode cL_law 291 = .ok (.iconst 1, 1) := by decide +kernel
theorem dL_law_292 : decode cL_law 292 = .ok (.iadd, 1) := by decide +kernel
theorem dL_law_293 : decode cL_law 293 = .ok (.iaload, 1) := by decide +kernel
theorem dL_law_294 : decode cL_law 294 = .ok (.invokevirtual 134, 3) := by decide +kernel
theorem dL_law_297 : decode cL_law 297 = .ok (.if_icmp .eq 2216, 3) := by decide +kernel
theorem dL_law_302 : decode cL_law 302 = .ok (.aload_n 1, 1) := by decide +kernel
theorem dL_law_303 : decode cL_law 303 = .ok (.aload_n 0, 1) := by decide +kernel
theorem dL_law_304 : decode cL_law 304 = .ok (.iload 4, 2) := by decide +kernel
theorem dL_law_306 : decode cL_law 306 = .ok (.iconst 1, 1) := by decide +kernel
theorem dL_law_307 : decode cL_law 307 = .ok (.iadd, 1) := by decide +kernel
theorem dL_law_308 : decode cL_law 308 = .ok (.iaload, 1) := by decide +kernel
theorem dL_law_309 : decode cL_law 309 = .ok (.aload_n 0, 1) := by decide +kernel
theorem dL_law_310 : decode cL_law 310 = .ok (.iload 4, 2) := by decide +kernel
theorem dL_law_312 : decode cL_law 312 = .ok (.iconst 2, 1) := by decide +kernel
theorem dL_law_313 : decode cL_law 313 = .ok (.iadd, 1) := by decide +kernel
theorem dL_law_314 : decode cL_law 314 = .ok (.iaload, 1) := by decide +kernel
theorem dL_law_315 : decode cL_law 315 = .ok (.aload_n 0, 1) := by decide +kernel
theorem dL_law_316 : decode cL_law 316 = .ok (.iload 4, 2) := by decide +kernel
theorem dL_law_318 : decode cL_law 318 = .ok (.iconst 3, 1) := by decide +kernel
theorem dL_law_319 : decode cL_law 319 = .ok (.iadd, 1) := by decide +kernel
theorem dL_law_320 : decode cL_law 320 = .ok (.iaload, 1) := by decide +kernel
theorem dL_law_321 : decode cL_law 321 = .ok (.aload_n 0, 1) := by decide +kernel
theorem dL_law_322 : decode cL_law 322 = .ok (.iload 4, 2) := by decide +kernel
theorem dL_law_324 : decode cL_law 324 = .ok (.iconst 4, 1) := by decide +kernel
theorem dL_law_325 : decode cL_law 325 = .ok (.iadd, 1) := by decide +kernel
theorem dL_law_326 : decode cL_law 326 = .ok (.iaload, 1) := by decide +kernel
theorem dL_law_327 : decode cL_law 327 = .ok (.invokestatic 135, 3) := by decide +kernel
theorem dL_law_330 : decode cL_law 330 = .ok (.istore 5, 2) := by decide +kernel
theorem dL_law_332 : decode cL_law 332 = .ok (.aload_n 2, 1) := by decide +kernel
theorem dL_law_333 : decode cL_law 333 = .ok (.aload_n 0, 1) := by decide +kernel
theorem dL_law_334 : decode cL_law 334 = .ok (.iload 4, 2) := by decide +kernel
theorem dL_law_336 : decode cL_law 336 = .ok (.iconst 1, 1) := by decide +kernel
theorem dL_law_337 : decode cL_law 337 = .ok (.iadd, 1) := by decide +kernel
theorem dL_law_338 : decode cL_law 338 = .ok (.iaload, 1) := by decide +kernel
theorem dL_law_339 : decode cL_law 339 = .ok (.aload_n 0, 1) := by decide +kernel
theorem dL_law_340 : decode cL_law 340 = .ok (.iload 4, 2) := by decide +kernel
theorem dL_law_342 : decode cL_law 342 = .ok (.iconst 2, 1) := by decide +kernel
theorem dL_law_343 : decode cL_law 343 = .ok (.iadd, 1) := by decide +kernel
theorem dL_law_344 : decode cL_law 344 = .ok (.iaload, 1) := by decide +kernel
theorem dL_law_345 : decode cL_law 345 = .ok (.aload_n 0, 1) := by decide +kernel
theorem dL_law_346 : decode cL_law 346 = .ok (.iload 4, 2) := by decide +kernel
theorem dL_law_348 : decode cL_law 348 = .ok (.iconst 3, 1) := by decide +kernel
theorem dL_law_349 : decode cL_law 349 = .ok (.iadd, 1) := by decide +kernel
theorem dL_law_350 : decode cL_law 350 = .ok (.iaload, 1) := by decide +kernel
theorem dL_law_351 : decode cL_law 351 = .ok (.aload_n 0, 1) := by decide +kernel
theorem dL_law_352 : decode cL_law 352 = .ok (.iload 4, 2) := by decide +kernel
theorem dL_law_354 : decode cL_law 354 = .ok (.iconst 4, 1) := by decide +kernel
theorem dL_law_355 : decode cL_law 355 = .ok (.iadd, 1) := by decide +kernel
theorem dL_law_356 : decode cL_law 356 = .ok (.iaload, 1) := by decide +kernel
theorem dL_law_357 : decode cL_law 357 = .ok (.invokevirtual 140, 3) := by decide +kernel
theorem dL_law_360 : decode cL_law 360 = .ok (.aload_n 2, 1) := by decide +kernel
theorem dL_law_361 : decode cL_law 361 = .ok (.invokevirtual 141, 3) := by decide +kernel
theorem dL_law_364 : decode cL_law 364 = .ok (.iload 5, 2) := by decide +kernel
theorem dL_law_366 : decode cL_law 366 = .ok (.if_icmp .eq 5, 3) := by decide +kernel
theorem dL_law_371 : decode cL_law 371 = .ok (.goto 2142, 3) := by decide +kernel
theorem dL_law_374 : decode cL_law 374 = .ok (.aload_n 1, 1) := by decide +kernel
theorem dL_law_375 : decode cL_law 375 = .ok (.aload_n 0, 1) := by decide +kernel
theorem dL_law_376 : decode cL_law 376 = .ok (.iload 4, 2) := by decide +kernel
theorem dL_law_378 : decode cL_law 378 = .ok (.iconst 1, 1) := by decide +kernel
theorem dL_law_379 : decode cL_law 379 = .ok (.iadd, 1) := by decide +kernel
theorem dL_law_380 : decode cL_law 380 = .ok (.iaload, 1) := by decide +kernel
theorem dL_law_381 : decode cL_law 381 = .ok (.aload_n 0, 1) := by decide +kernel
theorem dL_law_382 : decode cL_law 382 = .ok (.iload 4, 2) := by decide +kernel
theorem dL_law_384 : decode cL_law 384 = .ok (.iconst 2, 1) := by decide +kernel
theorem dL_law_385 : decode cL_law 385 = .ok (.iadd, 1) := by decide +kernel
theorem dL_law_386 : decode cL_law 386 = .ok (.iaload, 1) := by decide +kernel
theorem dL_law_387 : decode cL_law 387 = .ok (.invokestatic 144, 3) := by decide +kernel
theorem dL_law_390 : decode cL_law 390 = .ok (.istore 5, 2) := by decide +kernel
theorem dL_law_392 : decode cL_law 392 = .ok (.aload_n 2, 1) := by decide +kernel
theorem dL_law_393 : decode cL_law 393 = .ok (.aload_n 0, 1) := by decide +kernel
theorem dL_law_394 : decode cL_law 394 = .ok (.iload 4, 2) := by decide +kernel
theorem dL_law_396 : decode cL_law 396 = .ok (.iconst 1, 1) := by decide +kernel
theorem dL_law_397 : decode cL_law 397 = .ok (.iadd, 1) := by decide +kernel
theorem dL_law_398 : decode cL_law 398 = .ok (.iaload, 1) := by decide +kernel
theorem dL_law_399 : decode cL_law 399 = .ok (.aload_n 0, 1) := by decide +kernel
theorem dL_law_400 : decode cL_law 400 = .ok (.iload 4, 2) := by decide +kernel
theorem dL_law_402 : decode cL_law 402 = .ok (.iconst 2, 1) := by decide +kernel
theorem dL_law_403 : decode cL_law 403 = .ok (.iadd, 1) := by decide +kernel
theorem dL_law_404 : decode cL_law 404 = .ok (.iaload, 1) := by decide +kernel
theorem dL_law_405 : decode cL_law 405 = .ok (.invokevirtual 147, 3) := by decide +kernel
theorem dL_law_408 : decode cL_law 408 = .ok (.aload_n 2, 1) := by decide +kernel
theorem dL_law_409 : decode cL_law 409 = .ok (.invokevirtual 141, 3) := by decide +kernel
theorem dL_law_412 : decode cL_law 412 = .ok (.iload 5, 2) := by decide +kernel
theorem dL_law_414 : decode cL_law 414 = .ok (.if_icmp .eq 5, 3) := by decide +kernel
theorem dL_law_419 : decode cL_law 419 = .ok (.goto 2094, 3) := by decide +kernel
theorem dL_law_422 : decode cL_law 422 = .ok (.aload_n 1, 1) := by decide +kernel
theorem dL_law_423 : decode cL_law 423 = .ok (.aload_n 0, 1) := by decide +kernel
theorem dL_law_424 : decode cL_law 424 = .ok (.iload 4, 2) := by decide +kernel
theorem dL_law_426 : decode cL_law 426 = .ok (.iconst 1, 1) := by decide +kernel
theorem dL_law_427 : decode cL_law 427 = .ok (.iadd, 1) := by decide +kernel
theorem dL_law_428 : decode cL_law 428 = .ok (.iaload, 1) := by decide +kernel
theorem dL_law_429 : decode cL_law 429 = .ok (.aload_n 0, 1) := by decide +kernel
theorem dL_law_430 : decode cL_law 430 = .ok (.iload 4, 2) := by decide +kernel
theorem dL_law_432 : decode cL_law 432 = .ok (.iconst 2, 1) := by decide +kernel
theorem dL_law_433 : decode cL_law 433 = .ok (.iadd, 1) := by decide +kernel
theorem dL_law_434 : decode cL_law 434 = .ok (.iaload, 1) := by decide +kernel
theorem dL_law_435 : decode cL_law 435 = .ok (.aload_n 3, 1) := by decide +kernel
theorem dL_law_436 : decode cL_law 436 = .ok (.invokestatic 148, 3) := by decide +kernel
theorem dL_law_439 : decode cL_law 439 = .ok (.istore 5, 2) := by decide +kernel
theorem dL_law_441 : decode cL_law 441 = .ok (.aload_n 2, 1) := by decide +kernel
theorem dL_law_442 : decode cL_law 442 = .ok (.aload_n 0, 1) := by decide +kernel
theorem dL_law_443 : decode cL_law 443 = .ok (.iload 4, 2) := by decide +kernel
theorem dL_law_445 : decode cL_law 445 = .ok (.iconst 1, 1) := by decide +kernel
theorem dL_law_446 : decode cL_law 446 = .ok (.iadd, 1) := by decide +kernel
theorem dL_law_447 : decode cL_law 447 = .ok (.iaload, 1) := by decide +kernel
theorem dL_law_448 : decode cL_law 448 = .ok (.aload_n 0, 1) := by decide +kernel
theorem dL_law_449 : decode cL_law 449 = .ok (.iload 4, 2) := by decide +kernel
theorem dL_law_451 : decode cL_law 451 = .ok (.iconst 2, 1) := by decide +kernel
theorem dL_law_452 : decode cL_law 452 = .ok (.iadd, 1) := by decide +kernel
theorem dL_law_453 : decode cL_law 453 = .ok (.iaload, 1) := by decide +kernel
theorem dL_law_454 : decode cL_law 454 = .ok (.invokevirtual 151, 3) := by decide +kernel
theorem dL_law_457 : decode cL_law 457 = .ok (.istore 6, 2) := by decide +kernel
theorem dL_law_459 : decode cL_law 459 = .ok (.aload_n 2, 1) := by decide +kernel
theorem dL_law_460 : decode cL_law 460 = .ok (.invokevirtual 141, 3) := by decide +kernel
theorem dL_law_463 : decode cL_law 463 = .ok (.iload 5, 2) := by decide +kernel
theorem dL_law_465 : decode cL_law 465 = .ok (.if_icmp .eq 5, 3) := by decide +kernel
theorem dL_law_470 : decode cL_law 470 = .ok (.iload 5, 2) := by decide +kernel
theorem dL_law_472 : decode cL_law 472 = .ok (.ifCond .ne 15, 3) := by decide +kernel
theorem dL_law_475 : decode cL_law 475 = .ok (.aload_n 3, 1) := by decide +kernel
theorem dL_law_476 : decode cL_law 476 = .ok (.iconst 0, 1) := by decide +kernel
theorem dL_law_477 : decode cL_law 477 = .ok (.laload, 1) := by decide +kernel
theorem dL_law_478 : decode cL_law 478 = .ok (.iload 6, 2) := by decide +kernel
theorem dL_law_480 : decode cL_law 480 = .ok (.i2l, 1) := by decide +kernel
theorem dL_law_481 : decode cL_law 481 = .ok (.lcmp, 1) := by decide +kernel
theorem dL_law_482 : decode cL_law 482 = .ok (.ifCond .eq 5, 3) := by decide +kernel
theorem dL_law_487 : decode cL_law 487 = .ok (.goto 2026, 3) := by decide +kernel
theorem dL_law_490 : decode cL_law 490 = .ok (.aload_n 1, 1) := by decide +kernel
theorem dL_law_491 : decode cL_law 491 = .ok (.aload_n 0, 1) := by decide +kernel
theorem dL_law_492 : decode cL_law 492 = .ok (.iload 4, 2) := by decide +kernel
theorem dL_law_494 : decode cL_law 494 = .ok (.iconst 1, 1) := by decide +kernel
theorem dL_law_495 : decode cL_law 495 = .ok (.iadd, 1) := by decide +kernel
theorem dL_law_496 : decode cL_law 496 = .ok (.iaload, 1) := by decide +kernel
theorem dL_law_497 : decode cL_law 497 = .ok (.aload_n 3, 1) := by decide +kernel
theorem dL_law_498 : decode cL_law 498 = .ok (.invokestatic 152, 3) := by decide +kernel
theorem dL_law_501 : decode cL_law 501 = .ok (.istore 5, 2) := by decide +kernel
theorem dL_law_503 : decode cL_law 503 = .ok (.aload_n 2, 1) := by decide +kernel
theorem dL_law_504 : decode cL_law 504 = .ok (.aload_n 0, 1) := by decide +kernel
theorem dL_law_505 : decode cL_law 505 = .ok (.iload 4, 2) := by decide +kernel
theorem dL_law_507 : decode cL_law 507 = .ok (.iconst 1, 1) := by decide +kernel
theorem dL_law_508 : decode cL_law 508 = .ok (.iadd, 1) := by decide +kernel
theorem dL_law_509 : decode cL_law 509 = .ok (.iaload, 1) := by decide +kernel
theorem dL_law_510 : decode cL_law 510 = .ok (.invokevirtual 155, 3) := by decide +kernel
theorem dL_law_513 : decode cL_law 513 = .ok (.istore 6, 2) := by decide +kernel
theorem dL_law_515 : decode cL_law 515 = .ok (.aload_n 2, 1) := by decide +kernel
theorem dL_law_516 : decode cL_law 516 = .ok (.invokevirtual 141, 3) := by decide +kernel
theorem dL_law_519 : decode cL_law 519 = .ok (.iload 5, 2) := by decide +kernel
theorem dL_law_521 : decode cL_law 521 = .ok (.if_icmp .eq 5, 3) := by decide +kernel
theorem dL_law_526 : decode cL_law 526 = .ok (.iload 5, 2) := by decide +kernel
theorem dL_law_528 : decode cL_law 528 = .ok (.ifCond .ne 15, 3) := by decide +kernel
theorem dL_law_531 : decode cL_law 531 = .ok (.aload_n 3, 1) := by decide +kernel
theorem dL_law_532 : decode cL_law 532 = .ok (.iconst 0, 1) := by decide +kernel
theorem dL_law_533 : decode cL_law 533 = .ok (.laload, 1) := by decide +kernel
theorem dL_law_534 : decode cL_law 534 = .ok (.iload 6, 2) := by decide +kernel
theorem dL_law_536 : decode cL_law 536 = .ok (.i2l, 1) := by decide +kernel
theorem dL_law_537 : decode cL_law 537 = .ok (.lcmp, 1) := by decide +kernel
theorem dL_law_538 : decode cL_law 538 = .ok (.ifCond .eq 5, 3) := by decide +kernel
theorem dL_law_543 : decode cL_law 543 = .ok (.goto 1970, 3) := by decide +kernel
theorem dL_law_546 : decode cL_law 546 = .ok (.aload_n 1, 1) := by decide +kernel
theorem dL_law_547 : decode cL_law 547 = .ok (.aload_n 0, 1) := by decide +kernel
theorem dL_law_548 : decode cL_law 548 = .ok (.iload 4, 2) := by decide +kernel
theorem dL_law_550 : decode cL_law 550 = .ok (.iconst 1, 1) := by decide +kernel
theorem dL_law_551 : decode cL_law 551 = .ok (.iadd, 1) := by decide +kernel
theorem dL_law_552 : decode cL_law 552 = .ok (.iaload, 1) := by decide +kernel
theorem dL_law_553 : decode cL_law 553 = .ok (.aload_n 0, 1) := by decide +kernel
theorem dL_law_554 : decode cL_law 554 = .ok (.iload 4, 2) := by decide +kernel
theorem dL_law_556 : decode cL_law 556 = .ok (.iconst 2, 1) := by decide +kernel
theorem dL_law_557 : decode cL_law 557 = .ok (.iadd, 1) := by decide +kernel
theorem dL_law_558 : decode cL_law 558 = .ok (.iaload, 1) := by decide +kernel
theorem dL_law_559 : decode cL_law 559 = .ok (.aload_n 0, 1) := by decide +kernel
theorem dL_law_560 : decode cL_law 560 = .ok (.iload 4, 2) := by decide +kernel
theorem dL_law_562 : decode cL_law 562 = .ok (.iconst 3, 1) := by decide +kernel
theorem dL_law_563 : decode cL_law 563 = .ok (.iadd, 1) := by decide +kernel
theorem dL_law_564 : decode cL_law 564 = .ok (.iaload, 1) := by decide +kernel
theorem dL_law_565 : decode cL_law 565 = .ok (.aload_n 3, 1) := by decide +kernel
theorem dL_law_566 : decode cL_law 566 = .ok (.invokestatic 156, 3) := by decide +kernel
theorem dL_law_569 : decode cL_law 569 = .ok (.istore 5, 2) := by decide +kernel
theorem dL_law_571 : decode cL_law 571 = .ok (.aload_n 2, 1) := by decide +kernel
theorem dL_law_572 : decode cL_law 572 = .ok (.aload_n 0, 1) := by decide +kernel
theorem dL_law_573 : decode cL_law 573 = .ok (.iload 4, 2) := by decide +kernel
theorem dL_law_575 : decode cL_law 575 = .ok (.iconst 1, 1) := by decide +kernel
theorem dL_law_576 : decode cL_law 576 = .ok (.iadd, 1) := by decide +kernel
theorem dL_law_577 : decode cL_law 577 = .ok (.iaload, 1) := by decide +kernel
theorem dL_law_578 : decode cL_law 578 = .ok (.aload_n 0, 1) := by decide +kernel
theorem dL_law_579 : decode cL_law 579 = .ok (.iload 4, 2) := by decide +kernel
theorem dL_law_581 : decode cL_law 581 = .ok (.iconst 2, 1) := by decide +kernel
theorem dL_law_582 : decode cL_law 582 = .ok (.iadd, 1) := by decide +kernel
theorem dL_law_583 : decode cL_law 583 = .ok (.iaload, 1) := by decide +kernel
theorem dL_law_584 : decode cL_law 584 = .ok (.aload_n 0, 1) := by decide +kernel
theorem dL_law_585 : decode cL_law 585 = .ok (.iload 4, 2) := by decide +kernel
theorem dL_law_587 : decode cL_law 587 = .ok (.iconst 3, 1) := by decide +kernel
theorem dL_law_588 : decode cL_law 588 = .ok (.iadd, 1) := by decide +kernel
theorem dL_law_589 : decode cL_law 589 = .ok (.iaload, 1) := by decide +kernel
theorem dL_law_590 : decode cL_law 590 = .ok (.invokevirtual 159, 3) := by decide +kernel
theorem dL_law_593 : decode cL_law 593 = .ok (.istore 6, 2) := by decide +kernel
theorem dL_law_595 : decode cL_law 595 = .ok (.aload_n 2, 1) := by decide +kernel
theorem dL_law_596 : decode cL_law 596 = .ok (.invokevirtual 141, 3) := by decide +kernel
theorem dL_law_599 : decode cL_law 599 = .ok (.iload 5, 2) := by decide +kernel
theorem dL_law_601 : decode cL_law 601 = .ok (.if_icmp .eq 5, 3) := by decide +kernel
theorem dL_law_606 : decode cL_law 606 = .ok (.iload 5, 2) := by decide +kernel
theorem dL_law_608 : decode cL_law 608 = .ok (.ifCond .ne 22, 3) := by decide +kernel
theorem dL_law_611 : decode cL_law 611 = .ok (.aload_n 3, 1) := by decide +kernel
theorem dL_law_612 : decode cL_law 612 = .ok (.iconst 0, 1) := by decide +kernel
theorem dL_law_613 : decode cL_law 613 = .ok (.laload, 1) := by decide +kernel
theorem dL_law_614 : decode cL_law 614 = .ok (.iload 6, 2) := by decide +kernel
theorem dL_law_616 : decode cL_law 616 = .ok (.ifCond .eq 7, 3) := by decide +kernel
theorem dL_law_619 : decode cL_law 619 = .ok (.lconst 1, 1) := by decide +kernel
theorem dL_law_620 : decode cL_law 620 = .ok (.goto 4, 3) := by decide +kernel
theorem dL_law_623 : decode cL_law 623 = .ok (.lconst 0, 1) := by decide +kernel
theorem dL_law_624 : decode cL_law 624 = .ok (.lcmp, 1) := by decide +kernel
theorem dL_law_625 : decode cL_law 625 = .ok (.ifCond .eq 5, 3) := by decide +kernel
theorem dL_law_630 : decode cL_law 630 = .ok (.goto 1883, 3) := by decide +kernel
theorem dL_law_633 : decode cL_law 633 = .ok (.aload_n 1, 1) := by decide +kernel
theorem dL_law_634 : decode cL_law 634 = .ok (.aload_n 0, 1) := by decide +kernel
theorem dL_law_635 : decode cL_law 635 = .ok (.iload 4, 2) := by decide +kernel
theorem dL_law_637 : decode cL_law 637 = .ok (.iconst 1, 1) := by decide +kernel
theorem dL_law_638 : decode cL_law 638 = .ok (.iadd, 1) := by decide +kernel
theorem dL_law_639 : decode cL_law 639 = .ok (.iaload, 1) := by decide +kernel
theorem dL_law_640 : decode cL_law 640 = .ok (.aload_n 0, 1) := by decide +kernel
theorem dL_law_641 : decode cL_law 641 = .ok (.iload 4, 2) := by decide +kernel
theorem dL_law_643 : decode cL_law 643 = .ok (.iconst 2, 1) := by decide +kernel
theorem dL_law_644 : decode cL_law 644 = .ok (.iadd, 1) := by decide +kernel
theorem dL_law_645 : decode cL_law 645 = .ok (.iaload, 1) := by decide +kernel
theorem dL_law_646 : decode cL_law 646 = .ok (.aload_n 3, 1) := by decide +kernel
theorem dL_law_647 : decode cL_law 647 = .ok (.invokestatic 160, 3) := by decide +kernel
theorem dL_law_650 : decode cL_law 650 = .ok (.istore 5, 2) := by decide +kernel
theorem dL_law_652 : decode cL_law 652 = .ok (.aload_n 2, 1) := by decide +kernel
theorem dL_law_653 : decode cL_law 653 = .ok (.aload_n 0, 1) := by decide +kernel
theorem dL_law_654 : decode cL_law 654 = .ok (.iload 4, 2) := by decide +kernel
theorem dL_law_656 : decode cL_law 656 = .ok (.iconst 1, 1) := by decide +kernel
theorem dL_law_657 : decode cL_law 657 = .ok (.iadd, 1) := by decide +kernel
theorem dL_law_658 : decode cL_law 658 = .ok (.iaload, 1) := by decide +kernel
theorem dL_law_659 : decode cL_law 659 = .ok (.aload_n 0, 1) := by decide +kernel
theorem dL_law_660 : decode cL_law 660 = .ok (.iload 4, 2) := by decide +kernel
theorem dL_law_662 : decode cL_law 662 = .ok (.iconst 2, 1) := by decide +kernel
theorem dL_law_663 : decode cL_law 663 = .ok (.iadd, 1) := by decide +kernel
theorem dL_law_664 : decode cL_law 664 = .ok (.iaload, 1) := by decide +kernel
theorem dL_law_665 : decode cL_law 665 = .ok (.invokevirtual 162, 3) := by decide +kernel
theorem dL_law_668 : decode cL_law 668 = .ok (.istore 6, 2) := by decide +kernel
theorem dL_law_670 : decode cL_law 670 = .ok (.aload_n 2, 1) := by decide +kernel
theorem dL_law_671 : decode cL_law 671 = .ok (.invokevirtual 141, 3) := by decide +kernel
theorem dL_law_674 : decode cL_law 674 = .ok (.iload 5, 2) := by decide +kernel
theorem dL_law_676 : decode cL_law 676 = .ok (.if_icmp .eq 5, 3) := by decide +kernel
theorem dL_law_681 : decode cL_law 681 = .ok (.iload 5, 2) := by decide +kernel
theorem dL_law_683 : decode cL_law 683 = .ok (.ifCond .ne 15, 3) := by decide +kernel
theorem dL_law_686 : decode cL_law 686 = .ok (.aload_n 3, 1) := by decide +kernel
theorem dL_law_687 : decode cL_law 687 = .ok (.iconst 0, 1) := by decide +kernel
theorem dL_law_688 : decode cL_law 688 = .ok (.laload, 1) := by decide +kernel
theorem dL_law_689 : decode cL_law 689 = .ok (.iload 6, 2) := by decide +kernel
theorem dL_law_691 : decode cL_law 691 = .ok (.i2l, 1) := by decide +kernel
theorem dL_law_692 : decode cL_law 692 = .ok (.lcmp, 1) := by decide +kernel
theorem dL_law_693 : decode cL_law 693 = .ok (.ifCond .eq 5, 3) := by decide +kernel
theorem dL_law_698 : decode cL_law 698 = .ok (.goto 1815, 3) := by decide +kernel
theorem dL_law_701 : decode cL_law 701 = .ok (.aload_n 1, 1) := by decide +kernel
theorem dL_law_702 : decode cL_law 702 = .ok (.aload_n 0, 1) := by decide +kernel
theorem dL_law_703 : decode cL_law 703 = .ok (.iload 4, 2) := by decide +kernel
theorem dL_law_705 : decode cL_law 705 = .ok (.iconst 1, 1) := by decide +kernel
theorem dL_law_706 : decode cL_law 706 = .ok (.iadd, 1) := by decide +kernel
theorem dL_law_707 : decode cL_law 707 = .ok (.iaload, 1) := by decide +kernel
theorem dL_law_708 : decode cL_law 708 = .ok (.aload_n 0, 1) := by decide +kernel
theorem dL_law_709 : decode cL_law 709 = .ok (.iload 4, 2) := by decide +kernel
theorem dL_law_711 : decode cL_law 711 = .ok (.iconst 2, 1) := by decide +kernel
theorem dL_law_712 : decode cL_law 712 = .ok (.iadd, 1) := by decide +kernel
theorem dL_law_713 : decode cL_law 713 = .ok (.iaload, 1) := by decide +kernel
theorem dL_law_714 : decode cL_law 714 = .ok (.aload_n 0, 1) := by decide +kernel
theorem dL_law_715 : decode cL_law 715 = .ok (.iload 4, 2) := by decide +kernel
theorem dL_law_717 : decode cL_law 717 = .ok (.iconst 3, 1) := by decide +kernel
theorem dL_law_718 : decode cL_law 718 = .ok (.iadd, 1) := by decide +kernel
theorem dL_law_719 : decode cL_law 719 = .ok (.iaload, 1) := by decide +kernel
theorem dL_law_720 : decode cL_law 720 = .ok (.aload_n 3, 1) := by decide +kernel
theorem dL_law_721 : decode cL_law 721 = .ok (.invokestatic 163, 3) := by decide +kernel
theorem dL_law_724 : decode cL_law 724 = .ok (.istore 5, 2) := by decide +kernel
theorem dL_law_726 : decode cL_law 726 = .ok (.aload_n 2, 1) := by decide +kernel
theorem dL_law_727 : decode cL_law 727 = .ok (.aload_n 0, 1) := by decide +kernel
theorem dL_law_728 : decode cL_law 728 = .ok (.iload 4, 2) := by decide +kernel
theorem dL_law_730 : decode cL_law 730 = .ok (.iconst 1, 1) := by decide +kernel
theorem dL_law_731 : decode cL_law 731 = .ok (.iadd, 1) := by decide +kernel
theorem dL_law_732 : decode cL_law 732 = .ok (.iaload, 1) := by decide +kernel
theorem dL_law_733 : decode cL_law 733 = .ok (.aload_n 0, 1) := by decide +kernel
theorem dL_law_734 : decode cL_law 734 = .ok (.iload 4, 2) := by decide +kernel
theorem dL_law_736 : decode cL_law 736 = .ok (.iconst 2, 1) := by decide +kernel
theorem dL_law_737 : decode cL_law 737 = .ok (.iadd, 1) := by decide +kernel
theorem dL_law_738 : decode cL_law 738 = .ok (.iaload, 1) := by decide +kernel
theorem dL_law_739 : decode cL_law 739 = .ok (.aload_n 0, 1) := by decide +kernel
theorem dL_law_740 : decode cL_law 740 = .ok (.iload 4, 2) := by decide +kernel
theorem dL_law_742 : decode cL_law 742 = .ok (.iconst 3, 1) := by decide +kernel
theorem dL_law_743 : decode cL_law 743 = .ok (.iadd, 1) := by decide +kernel
theorem dL_law_744 : decode cL_law 744 = .ok (.iaload, 1) := by decide +kernel
theorem dL_law_745 : decode cL_law 745 = .ok (.invokevirtual 165, 3) := by decide +kernel
theorem dL_law_748 : decode cL_law 748 = .ok (.istore 6, 2) := by decide +kernel
theorem dL_law_750 : decode cL_law 750 = .ok (.aload_n 2, 1) := by decide +kernel
theorem dL_law_751 : decode cL_law 751 = .ok (.invokevirtual 141, 3) := by decide +kernel
theorem dL_law_754 : decode cL_law 754 = .ok (.iload 5, 2) := by decide +kernel
theorem dL_law_756 : decode cL_law 756 = .ok (.if_icmp .eq 5, 3) := by decide +kernel
theorem dL_law_761 : decode cL_law 761 = .ok (.iload 5, 2) := by decide +kernel
theorem dL_law_763 : decode cL_law 763 = .ok (.ifCond .ne 15, 3) := by decide +kernel
theorem dL_law_766 : decode cL_law 766 = .ok (.aload_n 3, 1) := by decide +kernel
theorem dL_law_767 : decode cL_law 767 = .ok (.iconst 0, 1) := by decide +kernel
theorem dL_law_768 : decode cL_law 768 = .ok (.laload, 1) := by decide +kernel
theorem dL_law_769 : decode cL_law 769 = .ok (.iload 6, 2) := by decide +kernel
theorem dL_law_771 : decode cL_law 771 = .ok (.i2l, 1) := by decide +kernel
theorem dL_law_772 : decode cL_law 772 = .ok (.lcmp, 1) := by decide +kernel
theorem dL_law_773 : decode cL_law 773 = .ok (.ifCond .eq 5, 3) := by decide +kernel
theorem dL_law_778 : decode cL_law 778 = .ok (.goto 1735, 3) := by decide +kernel
theorem dL_law_781 : decode cL_law 781 = .ok (.aload_n 1, 1) := by decide +kernel
theorem dL_law_782 : decode cL_law 782 = .ok (.aload_n 0, 1) := by decide +kernel
theorem dL_law_783 : decode cL_law 783 = .ok (.iload 4, 2) := by decide +kernel
theorem dL_law_785 : decode cL_law 785 = .ok (.iconst 1, 1) := by decide +kernel
theorem dL_law_786 : decode cL_law 786 = .ok (.iadd, 1) := by decide +kernel
theorem dL_law_787 : decode cL_law 787 = .ok (.iaload, 1) := by decide +kernel
theorem dL_law_788 : decode cL_law 788 = .ok (.aload_n 0, 1) := by decide +kernel
theorem dL_law_789 : decode cL_law 789 = .ok (.iload 4, 2) := by decide +kernel
theorem dL_law_791 : decode cL_law 791 = .ok (.iconst 2, 1) := by decide +kernel
theorem dL_law_792 : decode cL_law 792 = .ok (.iadd, 1) := by decide +kernel
theorem dL_law_793 : decode cL_law 793 = .ok (.iaload, 1) := by decide +kernel
theorem dL_law_794 : decode cL_law 794 = .ok (.aload_n 3, 1) := by decide +kernel
theorem dL_law_795 : decode cL_law 795 = .ok (.invokestatic 166, 3) := by decide +kernel
theorem dL_law_798 : decode cL_law 798 = .ok (.istore 5, 2) := by decide +kernel
theorem dL_law_800 : decode cL_law 800 = .ok (.aload_n 2, 1) := by decide +kernel
theorem dL_law_801 : decode cL_law 801 = .ok (.aload_n 0, 1) := by decide +kernel
theorem dL_law_802 : decode cL_law 802 = .ok (.iload 4, 2) := by decide +kernel
theorem dL_law_804 : decode cL_law 804 = .ok (.iconst 1, 1) := by decide +kernel
theorem dL_law_805 : decode cL_law 805 = .ok (.iadd, 1) := by decide +kernel
theorem dL_law_806 : decode cL_law 806 = .ok (.iaload, 1) := by decide +kernel
theorem dL_law_807 : decode cL_law 807 = .ok (.aload_n 0, 1) := by decide +kernel
theorem dL_law_808 : decode cL_law 808 = .ok (.iload 4, 2) := by decide +kernel
theorem dL_law_810 : decode cL_law 810 = .ok (.iconst 2, 1) := by decide +kernel
theorem dL_law_811 : decode cL_law 811 = .ok (.iadd, 1) := by decide +kernel
theorem dL_law_812 : decode cL_law 812 = .ok (.iaload, 1) := by decide +kernel
theorem dL_law_813 : decode cL_law 813 = .ok (.invokevirtual 168, 3) := by decide +kernel
theorem dL_law_816 : decode cL_law 816 = .ok (.istore 6, 2) := by decide +kernel
theorem dL_law_818 : decode cL_law 818 = .ok (.aload_n 2, 1) := by decide +kernel
theorem dL_law_819 : decode cL_law 819 = .ok (.invokevirtual 141, 3) := by decide +kernel
theorem dL_law_822 : decode cL_law 822 = .ok (.iload 5, 2) := by decide +kernel
theorem dL_law_824 : decode cL_law 824 = .ok (.if_icmp .eq 5, 3) := by decide +kernel
theorem dL_law_829 : decode cL_law 829 = .ok (.iload 5, 2) := by decide +kernel
theorem dL_law_831 : decode cL_law 831 = .ok (.ifCond .ne 15, 3) := by decide +kernel
theorem dL_law_834 : decode cL_law 834 = .ok (.aload_n 3, 1) := by decide +kernel
theorem dL_law_835 : decode cL_law 835 = .ok (.iconst 0, 1) := by decide +kernel
theorem dL_law_836 : decode cL_law 836 = .ok (.laload, 1) := by decide +kernel
theorem dL_law_837 : decode cL_law 837 = .ok (.iload 6, 2) := by decide +kernel
theorem dL_law_839 : decode cL_law 839 = .ok (.i2l, 1) := by decide +kernel
theorem dL_law_840 : decode cL_law 840 = .ok (.lcmp, 1) := by decide +kernel
theorem dL_law_841 : decode cL_law 841 = .ok (.ifCond .eq 5, 3) := by decide +kernel
theorem dL_law_846 : decode cL_law 846 = .ok (.goto 1667, 3) := by decide +kernel
theorem dL_law_849 : decode cL_law 849 = .ok (.aload_n 1, 1) := by decide +kernel
theorem dL_law_850 : decode cL_law 850 = .ok (.aload_n 0, 1) := by decide +kernel
theorem dL_law_851 : decode cL_law 851 = .ok (.iload 4, 2) := by decide +kernel
theorem dL_law_853 : decode cL_law 853 = .ok (.iconst 1, 1) := by decide +kernel
theorem dL_law_854 : decode cL_law 854 = .ok (.iadd, 1) := by decide +kernel
theorem dL_law_855 : decode cL_law 855 = .ok (.iaload, 1) := by decide +kernel
theorem dL_law_856 : decode cL_law 856 = .ok (.aload_n 0, 1) := by decide +kernel
theorem dL_law_857 : decode cL_law 857 = .ok (.iload 4, 2) := by decide +kernel
theorem dL_law_859 : decode cL_law 859 = .ok (.iconst 2, 1) := by decide +kernel
theorem dL_law_860 : decode cL_law 860 = .ok (.iadd, 1) := by decide +kernel
theorem dL_law_861 : decode cL_law 861 = .ok (.iaload, 1) := by decide +kernel
theorem dL_law_862 : decode cL_law 862 = .ok (.aload_n 0, 1) := by decide +kernel
theorem dL_law_863 : decode cL_law 863 = .ok (.iload 4, 2) := by decide +kernel
theorem dL_law_865 : decode cL_law 865 = .ok (.iconst 3, 1) := by decide +kernel
theorem dL_law_866 : decode cL_law 866 = .ok (.iadd, 1) := by decide +kernel
theorem dL_law_867 : decode cL_law 867 = .ok (.iaload, 1) := by decide +kernel
theorem dL_law_868 : decode cL_law 868 = .ok (.aload_n 0, 1) := by decide +kernel
theorem dL_law_869 : decode cL_law 869 = .ok (.iload 4, 2) := by decide +kernel
theorem dL_law_871 : decode cL_law 871 = .ok (.iconst 4, 1) := by decide +kernel
theorem dL_law_872 : decode cL_law 872 = .ok (.iadd, 1) := by decide +kernel
theorem dL_law_873 : decode cL_law 873 = .ok (.iaload, 1) := by decide +kernel
theorem dL_law_874 : decode cL_law 874 = .ok (.aload_n 3, 1) := by decide +kernel
theorem dL_law_875 : decode cL_law 875 = .ok (.invokestatic 169, 3) := by decide +kernel
theorem dL_law_878 : decode cL_law 878 = .ok (.istore 5, 2) := by decide +kernel
theorem dL_law_880 : decode cL_law 880 = .ok (.aload_n 2, 1) := by decide +kernel
theorem dL_law_881 : decode cL_law 881 = .ok (.aload_n 0, 1) := by decide +kernel
theorem dL_law_882 : decode cL_law 882 = .ok (.iload 4, 2) := by decide +kernel
theorem dL_law_884 : decode cL_law 884 = .ok (.iconst 1, 1) := by decide +kernel
theorem dL_law_885 : decode cL_law 885 = .ok (.iadd, 1) := by decide +kernel
theorem dL_law_886 : decode cL_law 886 = .ok (.iaload, 1) := by decide +kernel
theorem dL_law_887 : decode cL_law 887 = .ok (.aload_n 0, 1) := by decide +kernel
theorem dL_law_888 : decode cL_law 888 = .ok (.iload 4, 2) := by decide +kernel
theorem dL_law_890 : decode cL_law 890 = .ok (.iconst 2, 1) := by decide +kernel
theorem dL_law_891 : decode cL_law 891 = .ok (.iadd, 1) := by decide +kernel
theorem dL_law_892 : decode cL_law 892 = .ok (.iaload, 1) := by decide +kernel
theorem dL_law_893 : decode cL_law 893 = .ok (.aload_n 0, 1) := by decide +kernel
theorem dL_law_894 : decode cL_law 894 = .ok (.iload 4, 2) := by decide +kernel
theorem dL_law_896 : decode cL_law 896 = .ok (.iconst 3, 1) := by decide +kernel
theorem dL_law_897 : decode cL_law 897 = .ok (.iadd, 1) := by decide +kernel
theorem dL_law_898 : decode cL_law 898 = .ok (.iaload, 1) := by decide +kernel
theorem dL_law_899 : decode cL_law 899 = .ok (.aload_n 0, 1) := by decide +kernel
theorem dL_law_900 : decode cL_law 900 = .ok (.iload 4, 2) := by decide +kernel
theorem dL_law_902 : decode cL_law 902 = .ok (.iconst 4, 1) := by decide +kernel
theorem dL_law_903 : decode cL_law 903 = .ok (.iadd, 1) := by decide +kernel
theorem dL_law_904 : decode cL_law 904 = .ok (.iaload, 1) := by decide +kernel
theorem dL_law_905 : decode cL_law 905 = .ok (.invokevirtual 172, 3) := by decide +kernel
theorem dL_law_908 : decode cL_law 908 = .ok (.istore 6, 2) := by decide +kernel
theorem dL_law_910 : decode cL_law 910 = .ok (.aload_n 2, 1) := by decide +kernel
theorem dL_law_911 : decode cL_law 911 = .ok (.invokevirtual 141, 3) := by decide +kernel
theorem dL_law_914 : decode cL_law 914 = .ok (.iload 5, 2) := by decide +kernel
theorem dL_law_916 : decode cL_law 916 = .ok (.if_icmp .eq 5, 3) := by decide +kernel
theorem dL_law_921 : decode cL_law 921 = .ok (.iload 5, 2) := by decide +kernel
theorem dL_law_923 : decode cL_law 923 = .ok (.ifCond .ne 15, 3) := by decide +kernel
theorem dL_law_926 : decode cL_law 926 = .ok (.aload_n 3, 1) := by decide +kernel
theorem dL_law_927 : decode cL_law 927 = .ok (.iconst 0, 1) := by decide +kernel
theorem dL_law_928 : decode cL_law 928 = .ok (.laload, 1) := by decide +kernel
theorem dL_law_929 : decode cL_law 929 = .ok (.iload 6, 2) := by decide +kernel
theorem dL_law_931 : decode cL_law 931 = .ok (.i2l, 1) := by decide +kernel
theorem dL_law_932 : decode cL_law 932 = .ok (.lcmp, 1) := by decide +kernel
theorem dL_law_933 : decode cL_law 933 = .ok (.ifCond .eq 5, 3) := by decide +kernel
theorem dL_law_938 : decode cL_law 938 = .ok (.goto 1575, 3) := by decide +kernel
theorem dL_law_941 : decode cL_law 941 = .ok (.aload_n 1, 1) := by decide +kernel
theorem dL_law_942 : decode cL_law 942 = .ok (.aload_n 0, 1) := by decide +kernel
theorem dL_law_943 : decode cL_law 943 = .ok (.iload 4, 2) := by decide +kernel
theorem dL_law_945 : decode cL_law 945 = .ok (.iconst 1, 1) := by decide +kernel
theorem dL_law_946 : decode cL_law 946 = .ok (.iadd, 1) := by decide +kernel
theorem dL_law_947 : decode cL_law 947 = .ok (.iaload, 1) := by decide +kernel
theorem dL_law_948 : decode cL_law 948 = .ok (.aload_n 0, 1) := by decide +kernel
theorem dL_law_949 : decode cL_law 949 = .ok (.iload 4, 2) := by decide +kernel
theorem dL_law_951 : decode cL_law 951 = .ok (.iconst 2, 1) := by decide +kernel
theorem dL_law_952 : decode cL_law 952 = .ok (.iadd, 1) := by decide +kernel
theorem dL_law_953 : decode cL_law 953 = .ok (.iaload, 1) := by decide +kernel
theorem dL_law_954 : decode cL_law 954 = .ok (.invokestatic 173, 3) := by decide +kernel
theorem dL_law_957 : decode cL_law 957 = .ok (.istore 5, 2) := by decide +kernel
theorem dL_law_959 : decode cL_law 959 = .ok (.aload_n 2, 1) := by decide +kernel
theorem dL_law_960 : decode cL_law 960 = .ok (.aload_n 0, 1) := by decide +kernel
theorem dL_law_961 : decode cL_law 961 = .ok (.iload 4, 2) := by decide +kernel
theorem dL_law_963 : decode cL_law 963 = .ok (.iconst 1, 1) := by decide +kernel
theorem dL_law_964 : decode cL_law 964 = .ok (.iadd, 1) := by decide +kernel
theorem dL_law_965 : decode cL_law 965 = .ok (.iaload, 1) := by decide +kernel
theorem dL_law_966 : decode cL_law 966 = .ok (.aload_n 0, 1) := by decide +kernel
theorem dL_law_967 : decode cL_law 967 = .ok (.iload 4, 2) := by decide +kernel
theorem dL_law_969 : decode cL_law 969 = .ok (.iconst 2, 1) := by decide +kernel
theorem dL_law_970 : decode cL_law 970 = .ok (.iadd, 1) := by decide +kernel
theorem dL_law_971 : decode cL_law 971 = .ok (.iaload, 1) := by decide +kernel
theorem dL_law_972 : decode cL_law 972 = .ok (.invokevirtual 175, 3) := by decide +kernel
theorem dL_law_975 : decode cL_law 975 = .ok (.aload_n 2, 1) := by decide +kernel
theorem dL_law_976 : decode cL_law 976 = .ok (.invokevirtual 141, 3) := by decide +kernel
theorem dL_law_979 : decode cL_law 979 = .ok (.iload 5, 2) := by decide +kernel
theorem dL_law_981 : decode cL_law 981 = .ok (.if_icmp .eq 5, 3) := by decide +kernel
theorem dL_law_986 : decode cL_law 986 = .ok (.goto 1527, 3) := by decide +kernel
theorem dL_law_989 : decode cL_law 989 = .ok (.aload_n 1, 1) := by decide +kernel
theorem dL_law_990 : decode cL_law 990 = .ok (.aload_n 3, 1) := by decide +kernel
theorem dL_law_991 : decode cL_law 991 = .ok (.invokestatic 176, 3) := by decide +kernel
theorem dL_law_994 : decode cL_law 994 = .ok (.istore 5, 2) := by decide +kernel
theorem dL_law_996 : decode cL_law 996 = .ok (.aload_n 2, 1) := by decide +kernel
theorem dL_law_997 : decode cL_law 997 = .ok (.invokevirtual 179, 3) := by decide +kernel
theorem dL_law_1000 : decode cL_law 1000 = .ok (.istore 6, 2) := by decide +kernel
theorem dL_law_1002 : decode cL_law 1002 = .ok (.aload_n 2, 1) := by decide +kernel
theorem dL_law_1003 : decode cL_law 1003 = .ok (.invokevirtual 141, 3) := by decide +kernel
theorem dL_law_1006 : decode cL_law 1006 = .ok (.iload 5, 2) := by decide +kernel
theorem dL_law_1008 : decode cL_law 1008 = .ok (.if_icmp .eq 5, 3) := by decide +kernel
theorem dL_law_1013 : decode cL_law 1013 = .ok (.iload 5, 2) := by decide +kernel
theorem dL_law_1015 : decode cL_law 1015 = .ok (.ifCond .ne 15, 3) := by decide +kernel
theorem dL_law_1018 : decode cL_law 1018 = .ok (.aload_n 3, 1) := by decide +kernel
theorem dL_law_1019 : decode cL_law 1019 = .ok (.iconst 0, 1) := by decide +kernel
theorem dL_law_1020 : decode cL_law 1020 = .ok (.laload, 1) := by decide +kernel
theorem dL_law_1021 : decode cL_law 1021 = .ok (.iload 6, 2) := by decide +kernel
theorem dL_law_1023 : decode cL_law 1023 = .ok (.i2l, 1) := by decide +kernel
theorem dL_law_1024 : decode cL_law 1024 = .ok (.lcmp, 1) := by decide +kernel
theorem dL_law_1025 : decode cL_law 1025 = .ok (.ifCond .eq 5, 3) := by decide +kernel
theorem dL_law_1030 : decode cL_law 1030 = .ok (.goto 1483, 3) := by decide +kernel
theorem dL_law_1033 : decode cL_law 1033 = .ok (.aload_n 1, 1) := by decide +kernel
theorem dL_law_1034 : decode cL_law 1034 = .ok (.aload_n 0, 1) := by decide +kernel
theorem dL_law_1035 : decode cL_law 1035 = .ok (.iload 4, 2) := by decide +kernel
theorem dL_law_1037 : decode cL_law 1037 = .ok (.iconst 1, 1) := by decide +kernel
theorem dL_law_1038 : decode cL_law 1038 = .ok (.iadd, 1) := by decide +kernel
theorem dL_law_1039 : decode cL_law 1039 = .ok (.iaload, 1) := by decide +kernel
theorem dL_law_1040 : decode cL_law 1040 = .ok (.aload_n 0, 1) := by decide +kernel
theorem dL_law_1041 : decode cL_law 1041 = .ok (.iload 4, 2) := by decide +kernel
theorem dL_law_1043 : decode cL_law 1043 = .ok (.iconst 2, 1) := by decide +kernel
theorem dL_law_1044 : decode cL_law 1044 = .ok (.iadd, 1) := by decide +kernel
theorem dL_law_1045 : decode cL_law 1045 = .ok (.iaload, 1) := by decide +kernel
theorem dL_law_1046 : decode cL_law 1046 = .ok (.aload_n 0, 1) := by decide +kernel
theorem dL_law_1047 : decode cL_law 1047 = .ok (.iload 4, 2) := by decide +kernel
theorem dL_law_1049 : decode cL_law 1049 = .ok (.iconst 3, 1) := by decide +kernel
theorem dL_law_1050 : decode cL_law 1050 = .ok (.iadd, 1) := by decide +kernel
theorem dL_law_1051 : decode cL_law 1051 = .ok (.iaload, 1) := by decide +kernel
theorem dL_law_1052 : decode cL_law 1052 = .ok (.aload_n 0, 1) := by decide +kernel
theorem dL_law_1053 : decode cL_law 1053 = .ok (.iload 4, 2) := by decide +kernel
theorem dL_law_1055 : decode cL_law 1055 = .ok (.iconst 4, 1) := by decide +kernel
theorem dL_law_1056 : decode cL_law 1056 = .ok (.iadd, 1) := by decide +kernel
theorem dL_law_1057 : decode cL_law 1057 = .ok (.iaload, 1) := by decide +kernel
theorem dL_law_1058 : decode cL_law 1058 = .ok (.aload_n 0, 1) := by decide +kernel
theorem dL_law_1059 : decode cL_law 1059 = .ok (.iload 4, 2) := by decide +kernel
theorem dL_law_1061 : decode cL_law 1061 = .ok (.iconst 5, 1) := by decide +kernel
theorem dL_law_1062 : decode cL_law 1062 = .ok (.iadd, 1) := by decide +kernel
theorem dL_law_1063 : decode cL_law 1063 = .ok (.iaload, 1) := by decide +kernel
theorem dL_law_1064 : decode cL_law 1064 = .ok (.aload_n 0, 1) := by decide +kernel
theorem dL_law_1065 : decode cL_law 1065 = .ok (.iload 4, 2) := by decide +kernel
theorem dL_law_1067 : decode cL_law 1067 = .ok (.bipush 6, 2) := by decide +kernel
theorem dL_law_1069 : decode cL_law 1069 = .ok (.iadd, 1) := by decide +kernel
theorem dL_law_1070 : decode cL_law 1070 = .ok (.iaload, 1) := by decide +kernel
theorem dL_law_1071 : decode cL_law 1071 = .ok (.aload_n 0, 1) := by decide +kernel
theorem dL_law_1072 : decode cL_law 1072 = .ok (.iload 4, 2) := by decide +kernel
theorem dL_law_1074 : decode cL_law 1074 = .ok (.bipush 7, 2) := by decide +kernel
theorem dL_law_1076 : decode cL_law 1076 = .ok (.iadd, 1) := by decide +kernel
theorem dL_law_1077 : decode cL_law 1077 = .ok (.iaload, 1) := by decide +kernel
theorem dL_law_1078 : decode cL_law 1078 = .ok (.ifCond .eq 7, 3) := by decide +kernel
theorem dL_law_1081 : decode cL_law 1081 = .ok (.iconst 1, 1) := by decide +kernel
theorem dL_law_1082 : decode cL_law 1082 = .ok (.goto 4, 3) := by decide +kernel
theorem dL_law_1085 : decode cL_law 1085 = .ok (.iconst 0, 1) := by decide +kernel
theorem dL_law_1086 : decode cL_law 1086 = .ok (.aload_n 0, 1) := by decide +kernel
theorem dL_law_1087 : decode cL_law 1087 = .ok (.iload 4, 2) := by decide +kernel
theorem dL_law_1089 : decode cL_law 1089 = .ok (.bipush 8, 2) := by decide +kernel
theorem dL_law_1091 : decode cL_law 1091 = .ok (.iadd, 1) := by decide +kernel
theorem dL_law_1092 : decode cL_law 1092 = .ok (.iaload, 1) := by decide +kernel
theorem dL_law_1093 : decode cL_law 1093 = .ok (.aload_n 3, 1) := by decide +kernel
theorem dL_law_1094 : decode cL_law 1094 = .ok (.invokestatic 180, 3) := by decide +kernel
theorem dL_law_1097 : decode cL_law 1097 = .ok (.istore 5, 2) := by decide +kernel
theorem dL_law_1099 : decode cL_law 1099 = .ok (.aload_n 2, 1) := by decide +kernel
theorem dL_law_1100 : decode cL_law 1100 = .ok (.aload_n 0, 1) := by decide +kernel
theorem dL_law_1101 : decode cL_law 1101 = .ok (.iload 4, 2) := by decide +kernel
theorem dL_law_1103 : decode cL_law 1103 = .ok (.iconst 1, 1) := by decide +kernel
theorem dL_law_1104 : decode cL_law 1104 = .ok (.iadd, 1) := by decide +kernel
theorem dL_law_1105 : decode cL_law 1105 = .ok (.iaload, 1) := by decide +kernel
theorem dL_law_1106 : decode cL_law 1106 = .ok (.aload_n 0, 1) := by decide +kernel
theorem dL_law_1107 : decode cL_law 1107 = .ok (.iload 4, 2) := by decide +kernel
theorem dL_law_1109 : decode cL_law 1109 = .ok (.iconst 2, 1) := by decide +kernel
theorem dL_law_1110 : decode cL_law 1110 = .ok (.iadd, 1) := by decide +kernel
theorem dL_law_1111 : decode cL_law 1111 = .ok (.iaload, 1) := by decide +kernel
theorem dL_law_1112 : decode cL_law 1112 = .ok (.aload_n 0, 1) := by decide +kernel
theorem dL_law_1113 : decode cL_law 1113 = .ok (.iload 4, 2) := by decide +kernel
theorem dL_law_1115 : decode cL_law 1115 = .ok (.iconst 3, 1) := by decide +kernel
theorem dL_law_1116 : decode cL_law 1116 = .ok (.iadd, 1) := by decide +kernel
theorem dL_law_1117 : decode cL_law 1117 = .ok (.iaload, 1) := by decide +kernel
theorem dL_law_1118 : decode cL_law 1118 = .ok (.aload_n 0, 1) := by decide +kernel
theorem dL_law_1119 : decode cL_law 1119 = .ok (.iload 4, 2) := by decide +kernel
theorem dL_law_1121 : decode cL_law 1121 = .ok (.iconst 4, 1) := by decide +kernel
theorem dL_law_1122 : decode cL_law 1122 = .ok (.iadd, 1) := by decide +kernel
theorem dL_law_1123 : decode cL_law 1123 = .ok (.iaload, 1) := by decide +kernel
theorem dL_law_1124 : decode cL_law 1124 = .ok (.aload_n 0, 1) := by decide +kernel
theorem dL_law_1125 : decode cL_law 1125 = .ok (.iload 4, 2) := by decide +kernel
theorem dL_law_1127 : decode cL_law 1127 = .ok (.iconst 5, 1) := by decide +kernel
theorem dL_law_1128 : decode cL_law 1128 = .ok (.iadd, 1) := by decide +kernel
theorem dL_law_1129 : decode cL_law 1129 = .ok (.iaload, 1) := by decide +kernel
theorem dL_law_1130 : decode cL_law 1130 = .ok (.aload_n 0, 1) := by decide +kernel
theorem dL_law_1131 : decode cL_law 1131 = .ok (.iload 4, 2) := by decide +kernel
theorem dL_law_1133 : decode cL_law 1133 = .ok (.bipush 6, 2) := by decide +kernel
theorem dL_law_1135 : decode cL_law 1135 = .ok (.iadd, 1) := by decide +kernel
theorem dL_law_1136 : decode cL_law 1136 = .ok (.iaload, 1) := by decide +kernel
theorem dL_law_1137 : decode cL_law 1137 = .ok (.aload_n 0, 1) := by decide +kernel
theorem dL_law_1138 : decode cL_law 1138 = .ok (.iload 4, 2) := by decide +kernel
theorem dL_law_1140 : decode cL_law 1140 = .ok (.bipush 7, 2) := by decide +kernel
theorem dL_law_1142 : decode cL_law 1142 = .ok (.iadd, 1) := by decide +kernel
theorem dL_law_1143 : decode cL_law 1143 = .ok (.iaload, 1) := by decide +kernel
theorem dL_law_1144 : decode cL_law 1144 = .ok (.ifCond .eq 7, 3) := by decide +kernel
theorem dL_law_1147 : decode cL_law 1147 = .ok (.iconst 1, 1) := by decide +kernel
theorem dL_law_1148 : decode cL_law 1148 = .ok (.goto 4, 3) := by decide +kernel
theorem dL_law_1151 : decode cL_law 1151 = .ok (.iconst 0, 1) := by decide +kernel
theorem dL_law_1152 : decode cL_law 1152 = .ok (.aload_n 0, 1) := by decide +kernel
theorem dL_law_1153 : decode cL_law 1153 = .ok (.iload 4, 2) := by decide +kernel
theorem dL_law_1155 : decode cL_law 1155 = .ok (.bipush 8, 2) := by decide +kernel
theorem dL_law_1157 : decode cL_law 1157 = .ok (.iadd, 1) := by decide +kernel
theorem dL_law_1158 : decode cL_law 1158 = .ok (.iaload, 1) := by decide +kernel
theorem dL_law_1159 : decode cL_law 1159 = .ok (.invokevirtual 183, 3) := by decide +kernel
theorem dL_law_1162 : decode cL_law 1162 = .ok (.istore 6, 2) := by decide +kernel
theorem dL_law_1164 : decode cL_law 1164 = .ok (.aload_n 2, 1) := by decide +kernel
theorem dL_law_1165 : decode cL_law 1165 = .ok (.invokevirtual 141, 3) := by decide +kernel
theorem dL_law_1168 : decode cL_law 1168 = .ok (.iload 5, 2) := by decide +kernel
theorem dL_law_1170 : decode cL_law 1170 = .ok (.if_icmp .eq 5, 3) := by decide +kernel
theorem dL_law_1175 : decode cL_law 1175 = .ok (.iload 5, 2) := by decide +kernel
theorem dL_law_1177 : decode cL_law 1177 = .ok (.ifCond .ne 15, 3) := by decide +kernel
theorem dL_law_1180 : decode cL_law 1180 = .ok (.aload_n 3, 1) := by decide +kernel
theorem dL_law_1181 : decode cL_law 1181 = .ok (.iconst 0, 1) := by decide +kernel
theorem dL_law_1182 : decode cL_law 1182 = .ok (.laload, 1) := by decide +kernel
theorem dL_law_1183 : decode cL_law 1183 = .ok (.iload 6, 2) := by decide +kernel
theorem dL_law_1185 : decode cL_law 1185 = .ok (.i2l, 1) := by decide +kernel
theorem dL_law_1186 : decode cL_law 1186 = .ok (.lcmp, 1) := by decide +kernel
theorem dL_law_1187 : decode cL_law 1187 = .ok (.ifCond .eq 5, 3) := by decide +kernel
theorem dL_law_1192 : decode cL_law 1192 = .ok (.goto 1321, 3) := by decide +kernel
theorem dL_law_1195 : decode cL_law 1195 = .ok (.aload_n 1, 1) := by decide +kernel
theorem dL_law_1196 : decode cL_law 1196 = .ok (.aload_n 0, 1) := by decide +kernel
theorem dL_law_1197 : decode cL_law 1197 = .ok (.iload 4, 2) := by decide +kernel
theorem dL_law_1199 : decode cL_law 1199 = .ok (.iconst 1, 1) := by decide +kernel
theorem dL_law_1200 : decode cL_law 1200 = .ok (.iadd, 1) := by decide +kernel
theorem dL_law_1201 : decode cL_law 1201 = .ok (.iaload, 1) := by decide +kernel
theorem dL_law_1202 : decode cL_law 1202 = .ok (.aload_n 3, 1) := by decide +kernel
theorem dL_law_1203 : decode cL_law 1203 = .ok (.invokestatic 184, 3) := by decide +kernel
theorem dL_law_1206 : decode cL_law 1206 = .ok (.istore 5, 2) := by decide +kernel
theorem dL_law_1208 : decode cL_law 1208 = .ok (.aload_n 2, 1) := by decide +kernel
theorem dL_law_1209 : decode cL_law 1209 = .ok (.aload_n 0, 1) := by decide +kernel
theorem dL_law_1210 : decode cL_law 1210 = .ok (.iload 4, 2) := by decide +kernel
theorem dL_law_1212 : decode cL_law 1212 = .ok (.iconst 1, 1) := by decide +kernel
theorem dL_law_1213 : decode cL_law 1213 = .ok (.iadd, 1) := by decide +kernel
theorem dL_law_1214 : decode cL_law 1214 = .ok (.iaload, 1) := by decide +kernel
theorem dL_law_1215 : decode cL_law 1215 = .ok (.invokevirtual 186, 3) := by decide +kernel
theorem dL_law_1218 : decode cL_law 1218 = .ok (.istore 6, 2) := by decide +kernel
theorem dL_law_1220 : decode cL_law 1220 = .ok (.aload_n 2, 1) := by decide +kernel
theorem dL_law_1221 : decode cL_law 1221 = .ok (.invokevirtual 141, 3) := by decide +kernel
theorem dL_law_1224 : decode cL_law 1224 = .ok (.iload 5, 2) := by decide +kernel
theorem dL_law_1226 : decode cL_law 1226 = .ok (.if_icmp .eq 5, 3) := by decide +kernel
theorem dL_law_1231 : decode cL_law 1231 = .ok (.iload 5, 2) := by decide +kernel
theorem dL_law_1233 : decode cL_law 1233 = .ok (.ifCond .ne 15, 3) := by decide +kernel
theorem dL_law_1236 : decode cL_law 1236 = .ok (.aload_n 3, 1) := by decide +kernel
theorem dL_law_1237 : decode cL_law 1237 = .ok (.iconst 0, 1) := by decide +kernel
theorem dL_law_1238 : decode cL_law 1238 = .ok (.laload, 1) := by decide +kernel
theorem dL_law_1239 : decode cL_law 1239 = .ok (.iload 6, 2) := by decide +kernel
theorem dL_law_1241 : decode cL_law 1241 = .ok (.i2l, 1) := by decide +kernel
theorem dL_law_1242 : decode cL_law 1242 = .ok (.lcmp, 1) := by decide +kernel
theorem dL_law_1243 : decode cL_law 1243 = .ok (.ifCond .eq 5, 3) := by decide +kernel
theorem dL_law_1248 : decode cL_law 1248 = .ok (.goto 1265, 3) := by decide +kernel
theorem dL_law_1251 : decode cL_law 1251 = .ok (.aload_n 1, 1) := by decide +kernel
theorem dL_law_1252 : decode cL_law 1252 = .ok (.aload_n 0, 1) := by decide +kernel
theorem dL_law_1253 : decode cL_law 1253 = .ok (.iload 4, 2) := by decide +kernel
theorem dL_law_1255 : decode cL_law 1255 = .ok (.iconst 1, 1) := by decide +kernel
theorem dL_law_1256 : decode cL_law 1256 = .ok (.iadd, 1) := by decide +kernel
theorem dL_law_1257 : decode cL_law 1257 = .ok (.iaload, 1) := by decide +kernel
theorem dL_law_1258 : decode cL_law 1258 = .ok (.aload_n 0, 1) := by decide +kernel
theorem dL_law_1259 : decode cL_law 1259 = .ok (.iload 4, 2) := by decide +kernel
theorem dL_law_1261 : decode cL_law 1261 = .ok (.iconst 2, 1) := by decide +kernel
theorem dL_law_1262 : decode cL_law 1262 = .ok (.iadd, 1) := by decide +kernel
theorem dL_law_1263 : decode cL_law 1263 = .ok (.iaload, 1) := by decide +kernel
theorem dL_law_1264 : decode cL_law 1264 = .ok (.aload_n 3, 1) := by decide +kernel
theorem dL_law_1265 : decode cL_law 1265 = .ok (.invokestatic 187, 3) := by decide +kernel
theorem dL_law_1268 : decode cL_law 1268 = .ok (.istore 5, 2) := by decide +kernel
theorem dL_law_1270 : decode cL_law 1270 = .ok (.aload_n 2, 1) := by decide +kernel
theorem dL_law_1271 : decode cL_law 1271 = .ok (.aload_n 0, 1) := by decide +kernel
theorem dL_law_1272 : decode cL_law 1272 = .ok (.iload 4, 2) := by decide +kernel
theorem dL_law_1274 : decode cL_law 1274 = .ok (.iconst 1, 1) := by decide +kernel
theorem dL_law_1275 : decode cL_law 1275 = .ok (.iadd, 1) := by decide +kernel
theorem dL_law_1276 : decode cL_law 1276 = .ok (.iaload, 1) := by decide +kernel
theorem dL_law_1277 : decode cL_law 1277 = .ok (.aload_n 0, 1) := by decide +kernel
theorem dL_law_1278 : decode cL_law 1278 = .ok (.iload 4, 2) := by decide +kernel
theorem dL_law_1280 : decode cL_law 1280 = .ok (.iconst 2, 1) := by decide +kernel
theorem dL_law_1281 : decode cL_law 1281 = .ok (.iadd, 1) := by decide +kernel
theorem dL_law_1282 : decode cL_law 1282 = .ok (.iaload, 1) := by decide +kernel
theorem dL_law_1283 : decode cL_law 1283 = .ok (.invokevirtual 189, 3) := by decide +kernel
theorem dL_law_1286 : decode cL_law 1286 = .ok (.istore 6, 2) := by decide +kernel
theorem dL_law_1288 : decode cL_law 1288 = .ok (.aload_n 2, 1) := by decide +kernel
theorem dL_law_1289 : decode cL_law 1289 = .ok (.invokevirtual 141, 3) := by decide +kernel
theorem dL_law_1292 : decode cL_law 1292 = .ok (.iload 5, 2) := by decide +kernel
theorem dL_law_1294 : decode cL_law 1294 = .ok (.if_icmp .eq 5, 3) := by decide +kernel
theorem dL_law_1299 : decode cL_law 1299 = .ok (.iload 5, 2) := by decide +kernel
theorem dL_law_1301 : decode cL_law 1301 = .ok (.ifCond .ne 15, 3) := by decide +kernel
theorem dL_law_1304 : decode cL_law 1304 = .ok (.aload_n 3, 1) := by decide +kernel
theorem dL_law_1305 : decode cL_law 1305 = .ok (.iconst 0, 1) := by decide +kernel
theorem dL_law_1306 : decode cL_law 1306 = .ok (.laload, 1) := by decide +kernel
theorem dL_law_1307 : decode cL_law 1307 = .ok (.iload 6, 2) := by decide +kernel
theorem dL_law_1309 : decode cL_law 1309 = .ok (.i2l, 1) := by decide +kernel
theorem dL_law_1310 : decode cL_law 1310 = .ok (.lcmp, 1) := by decide +kernel
theorem dL_law_1311 : decode cL_law 1311 = .ok (.ifCond .eq 5, 3) := by decide +kernel
theorem dL_law_1316 : decode cL_law 1316 = .ok (.goto 1197, 3) := by decide +kernel
theorem dL_law_1319 : decode cL_law 1319 = .ok (.aload_n 1, 1) := by decide +kernel
theorem dL_law_1320 : decode cL_law 1320 = .ok (.aload_n 0, 1) := by decide +kernel
theorem dL_law_1321 : decode cL_law 1321 = .ok (.iload 4, 2) := by decide +kernel
theorem dL_law_1323 : decode cL_law 1323 = .ok (.iconst 1, 1) := by decide +kernel
theorem dL_law_1324 : decode cL_law 1324 = .ok (.iadd, 1) := by decide +kernel
theorem dL_law_1325 : decode cL_law 1325 = .ok (.iaload, 1) := by decide +kernel
theorem dL_law_1326 : decode cL_law 1326 = .ok (.aload_n 0, 1) := by decide +kernel
theorem dL_law_1327 : decode cL_law 1327 = .ok (.iload 4, 2) := by decide +kernel
theorem dL_law_1329 : decode cL_law 1329 = .ok (.iconst 2, 1) := by decide +kernel
theorem dL_law_1330 : decode cL_law 1330 = .ok (.iadd, 1) := by decide +kernel
theorem dL_law_1331 : decode cL_law 1331 = .ok (.iaload, 1) := by decide +kernel
theorem dL_law_1332 : decode cL_law 1332 = .ok (.aload_n 3, 1) := by decide +kernel
theorem dL_law_1333 : decode cL_law 1333 = .ok (.invokestatic 190, 3) := by decide +kernel
theorem dL_law_1336 : decode cL_law 1336 = .ok (.istore 5, 2) := by decide +kernel
theorem dL_law_1338 : decode cL_law 1338 = .ok (.aload_n 2, 1) := by decide +kernel
theorem dL_law_1339 : decode cL_law 1339 = .ok (.aload_n 0, 1) := by decide +kernel
theorem dL_law_1340 : decode cL_law 1340 = .ok (.iload 4, 2) := by decide +kernel
theorem dL_law_1342 : decode cL_law 1342 = .ok (.iconst 1, 1) := by decide +kernel
theorem dL_law_1343 : decode cL_law 1343 = .ok (.iadd, 1) := by decide +kernel
theorem dL_law_1344 : decode cL_law 1344 = .ok (.iaload, 1) := by decide +kernel
theorem dL_law_1345 : decode cL_law 1345 = .ok (.aload_n 0, 1) := by decide +kernel
theorem dL_law_1346 : decode cL_law 1346 = .ok (.iload 4, 2) := by decide +kernel
theorem dL_law_1348 : decode cL_law 1348 = .ok (.iconst 2, 1) := by decide +kernel
theorem dL_law_1349 : decode cL_law 1349 = .ok (.iadd, 1) := by decide +kernel
theorem dL_law_1350 : decode cL_law 1350 = .ok (.iaload, 1) := by decide +kernel
theorem dL_law_1351 : decode cL_law 1351 = .ok (.invokevirtual 192, 3) := by decide +kernel
theorem dL_law_1354 : decode cL_law 1354 = .ok (.istore 6, 2) := by decide +kernel
theorem dL_law_1356 : decode cL_law 1356 = .ok (.aload_n 2, 1) := by decide +kernel
theorem dL_law_1357 : decode cL_law 1357 = .ok (.invokevirtual 141, 3) := by decide +kernel
theorem dL_law_1360 : decode cL_law 1360 = .ok (.iload 5, 2) := by decide +kernel
theorem dL_law_1362 : decode cL_law 1362 = .ok (.if_icmp .eq 5, 3) := by decide +kernel
theorem dL_law_1367 : decode cL_law 1367 = .ok (.iload 5, 2) := by decide +kernel
theorem dL_law_1369 : decode cL_law 1369 = .ok (.ifCond .ne 15, 3) := by decide +kernel
theorem dL_law_1372 : decode cL_law 1372 = .ok (.aload_n 3, 1) := by decide +kernel
theorem dL_law_1373 : decode cL_law 1373 = .ok (.iconst 0, 1) := by decide +kernel
theorem dL_law_1374 : decode cL_law 1374 = .ok (.laload, 1) := by decide +kernel
theorem dL_law_1375 : decode cL_law 1375 = .ok (.iload 6, 2) := by decide +kernel
theorem dL_law_1377 : decode cL_law 1377 = .ok (.i2l, 1) := by decide +kernel
theorem dL_law_1378 : decode cL_law 1378 = .ok (.lcmp, 1) := by decide +kernel
theorem dL_law_1379 : decode cL_law 1379 = .ok (.ifCond .eq 5, 3) := by decide +kernel
theorem dL_law_1384 : decode cL_law 1384 = .ok (.goto 1129, 3) := by decide +kernel
theorem dL_law_1387 : decode cL_law 1387 = .ok (.aload_n 1, 1) := by decide +kernel
theorem dL_law_1388 : decode cL_law 1388 = .ok (.aload_n 0, 1) := by decide +kernel
theorem dL_law_1389 : decode cL_law 1389 = .ok (.iload 4, 2) := by decide +kernel
theorem dL_law_1391 : decode cL_law 1391 = .ok (.iconst 1, 1) := by decide +kernel
theorem dL_law_1392 : decode cL_law 1392 = .ok (.iadd, 1) := by decide +kernel
theorem dL_law_1393 : decode cL_law 1393 = .ok (.iaload, 1) := by decide +kernel
theorem dL_law_1394 : decode cL_law 1394 = .ok (.aload_n 0, 1) := by decide +kernel
theorem dL_law_1395 : decode cL_law 1395 = .ok (.iload 4, 2) := by decide +kernel
theorem dL_law_1397 : decode cL_law 1397 = .ok (.iconst 2, 1) := by decide +kernel
theorem dL_law_1398 : decode cL_law 1398 = .ok (.iadd, 1) := by decide +kernel
theorem dL_law_1399 : decode cL_law 1399 = .ok (.iaload, 1) := by decide +kernel
theorem dL_law_1400 : decode cL_law 1400 = .ok (.aload_n 0, 1) := by decide +kernel
theorem dL_law_1401 : decode cL_law 1401 = .ok (.iload 4, 2) := by decide +kernel
theorem dL_law_1403 : decode cL_law 1403 = .ok (.iconst 3, 1) := by decide +kernel
theorem dL_law_1404 : decode cL_law 1404 = .ok (.iadd, 1) := by decide +kernel
theorem dL_law_1405 : decode cL_law 1405 = .ok (.iaload, 1) := by decide +kernel
theorem dL_law_1406 : decode cL_law 1406 = .ok (.ifCond .eq 7, 3) := by decide +kernel
theorem dL_law_1409 : decode cL_law 1409 = .ok (.iconst 1, 1) := by decide +kernel
theorem dL_law_1410 : decode cL_law 1410 = .ok (.goto 4, 3) := by decide +kernel
theorem dL_law_1413 : decode cL_law 1413 = .ok (.iconst 0, 1) := by decide +kernel
theorem dL_law_1414 : decode cL_law 1414 = .ok (.aload_n 3, 1) := by decide +kernel
theorem dL_law_1415 : decode cL_law 1415 = .ok (.invokestatic 193, 3) := by decide +kernel
theorem dL_law_1418 : decode cL_law 1418 = .ok (.istore 5, 2) := by decide +kernel
theorem dL_law_1420 : decode cL_law 1420 = .ok (.aload_n 2, 1) := by decide +kernel
theorem dL_law_1421 : decode cL_law 1421 = .ok (.aload_n 0, 1) := by decide +kernel
theorem dL_law_1422 : decode cL_law 1422 = .ok (.iload 4, 2) := by decide +kernel
theorem dL_law_1424 : decode cL_law 1424 = .ok (.iconst 1, 1) := by decide +kernel
theorem dL_law_1425 : decode cL_law 1425 = .ok (.iadd, 1) := by decide +kernel
theorem dL_law_1426 : decode cL_law 1426 = .ok (.iaload, 1) := by decide +kernel
theorem dL_law_1427 : decode cL_law 1427 = .ok (.aload_n 0, 1) := by decide +kernel
theorem dL_law_1428 : decode cL_law 1428 = .ok (.iload 4, 2) := by decide +kernel
theorem dL_law_1430 : decode cL_law 1430 = .ok (.iconst 2, 1) := by decide +kernel
theorem dL_law_1431 : decode cL_law 1431 = .ok (.iadd, 1) := by decide +kernel
theorem dL_law_1432 : decode cL_law 1432 = .ok (.iaload, 1) := by decide +kernel
theorem dL_law_1433 : decode cL_law 1433 = .ok (.aload_n 0, 1) := by decide +kernel
theorem dL_law_1434 : decode cL_law 1434 = .ok (.iload 4, 2) := by decide +kernel
theorem dL_law_1436 : decode cL_law 1436 = .ok (.iconst 3, 1) := by decide +kernel
theorem dL_law_1437 : decode cL_law 1437 = .ok (.iadd, 1) := by decide +kernel
theorem dL_law_1438 : decode cL_law 1438 = .ok (.iaload, 1) := by decide +kernel
theorem dL_law_1439 : decode cL_law 1439 = .ok (.ifCond .eq 7, 3) := by decide +kernel
theorem dL_law_1442 : decode cL_law 1442 = .ok (.iconst 1, 1) := by decide +kernel
theorem dL_law_1443 : decode cL_law 1443 = .ok (.goto 4, 3) := by decide +kernel
theorem dL_law_1446 : decode cL_law 1446 = .ok (.iconst 0, 1) := by decide +kernel
theorem dL_law_1447 : decode cL_law 1447 = .ok (.invokevirtual 196, 3) := by decide +kernel
theorem dL_law_1450 : decode cL_law 1450 = .ok (.istore 6, 2) := by decide +kernel
theorem dL_law_1452 : decode cL_law 1452 = .ok (.aload_n 2, 1) := by decide +kernel
theorem dL_law_1453 : decode cL_law 1453 = .ok (.invokevirtual 141, 3) := by decide +kernel
theorem dL_law_1456 : decode cL_law 1456 = .ok (.iload 5, 2) := by decide +kernel
theorem dL_law_1458 : decode cL_law 1458 = .ok (.if_icmp .eq 5, 3) := by decide +kernel
theorem dL_law_1463 : decode cL_law 1463 = .ok (.iload 5, 2) := by decide +kernel
theorem dL_law_1465 : decode cL_law 1465 = .ok (.ifCond .ne 15, 3) := by decide +kernel
theorem dL_law_1468 : decode cL_law 1468 = .ok (.aload_n 3, 1) := by decide +kernel
theorem dL_law_1469 : decode cL_law 1469 = .ok (.iconst 0, 1) := by decide +kernel
theorem dL_law_1470 : decode cL_law 1470 = .ok (.laload, 1) := by decide +kernel
theorem dL_law_1471 : decode cL_law 1471 = .ok (.iload 6, 2) := by decide +kernel
theorem dL_law_1473 : decode cL_law 1473 = .ok (.i2l, 1) := by decide +kernel
theorem dL_law_1474 : decode cL_law 1474 = .ok (.lcmp, 1) := by decide +kernel
theorem dL_law_1475 : decode cL_law 1475 = .ok (.ifCond .eq 5, 3) := by decide +kernel
theorem dL_law_1480 : decode cL_law 1480 = .ok (.goto 1033, 3) := by decide +kernel
theorem dL_law_1483 : decode cL_law 1483 = .ok (.aload_n 1, 1) := by decide +kernel
theorem dL_law_1484 : decode cL_law 1484 = .ok (.aload_n 0, 1) := by decide +kernel
theorem dL_law_1485 : decode cL_law 1485 = .ok (.iload 4, 2) := by decide +kernel
theorem dL_law_1487 : decode cL_law 1487 = .ok (.iconst 1, 1) := by decide +kernel
theorem dL_law_1488 : decode cL_law 1488 = .ok (.iadd, 1) := by decide +kernel
theorem dL_law_1489 : decode cL_law 1489 = .ok (.iaload, 1) := by decide +kernel
theorem dL_law_1490 : decode cL_law 1490 = .ok (.aload_n 3, 1) := by decide +kernel
theorem dL_law_1491 : decode cL_law 1491 = .ok (.invokestatic 197, 3) := by decide +kernel
theorem dL_law_1494 : decode cL_law 1494 = .ok (.istore 5, 2) := by decide +kernel
theorem dL_law_1496 : decode cL_law 1496 = .ok (.aload_n 2, 1) := by decide +kernel
theorem dL_law_1497 : decode cL_law 1497 = .ok (.aload_n 0, 1) := by decide +kernel
theorem dL_law_1498 : decode cL_law 1498 = .ok (.iload 4, 2) := by decide +kernel
theorem dL_law_1500 : decode cL_law 1500 = .ok (.iconst 1, 1) := by decide +kernel
theorem dL_law_1501 : decode cL_law 1501 = .ok (.iadd, 1) := by decide +kernel
theorem dL_law_1502 : decode cL_law 1502 = .ok (.iaload, 1) := by decide +kernel
theorem dL_law_1503 : decode cL_law 1503 = .ok (.invokevirtual 199, 3) := by decide +kernel
theorem dL_law_1506 : decode cL_law 1506 = .ok (.istore 6, 2) := by decide +kernel
theorem dL_law_1508 : decode cL_law 1508 = .ok (.aload_n 2, 1) := by decide +kernel
theorem dL_law_1509 : decode cL_law 1509 = .ok (.invokevirtual 141, 3) := by decide +kernel
theorem dL_law_1512 : decode cL_law 1512 = .ok (.iload 5, 2) := by decide +kernel
theorem dL_law_1514 : decode cL_law 1514 = .ok (.if_icmp .eq 5, 3) := by decide +kernel
theorem dL_law_1519 : decode cL_law 1519 = .ok (.iload 5, 2) := by decide +kernel
theorem dL_law_1521 : decode cL_law 1521 = .ok (.ifCond .ne 15, 3) := by decide +kernel
theorem dL_law_1524 : decode cL_law 1524 = .ok (.aload_n 3, 1) := by decide +kernel
theorem dL_law_1525 : decode cL_law 1525 = .ok (.iconst 0, 1) := by decide +kernel
theorem dL_law_1526 : decode cL_law 1526 = .ok (.laload, 1) := by decide +kernel
theorem dL_law_1527 : decode cL_law 1527 = .ok (.iload 6, 2) := by decide +kernel
theorem dL_law_1529 : decode cL_law 1529 = .ok (.i2l, 1) := by decide +kernel
theorem dL_law_1530 : decode cL_law 1530 = .ok (.lcmp, 1) := by decide +kernel
theorem dL_law_1531 : decode cL_law 1531 = .ok (.ifCond .eq 5, 3) := by decide +kernel
theorem dL_law_1536 : decode cL_law 1536 = .ok (.goto 977, 3) := by decide +kernel
theorem dL_law_1539 : decode cL_law 1539 = .ok (.aload_n 1, 1) := by decide +kernel
theorem dL_law_1540 : decode cL_law 1540 = .ok (.aload_n 0, 1) := by decide +kernel
theorem dL_law_1541 : decode cL_law 1541 = .ok (.iload 4, 2) := by decide +kernel
theorem dL_law_1543 : decode cL_law 1543 = .ok (.iconst 1, 1) := by decide +kernel
theorem dL_law_1544 : decode cL_law 1544 = .ok (.iadd, 1) := by decide +kernel
theorem dL_law_1545 : decode cL_law 1545 = .ok (.iaload, 1) := by decide +kernel
theorem dL_law_1546 : decode cL_law 1546 = .ok (.aload_n 3, 1) := by decide +kernel
theorem dL_law_1547 : decode cL_law 1547 = .ok (.invokestatic 200, 3) := by decide +kernel
theorem dL_law_1550 : decode cL_law 1550 = .ok (.istore 5, 2) := by decide +kernel
theorem dL_law_1552 : decode cL_law 1552 = .ok (.aload_n 2, 1) := by decide +kernel
theorem dL_law_1553 : decode cL_law 1553 = .ok (.aload_n 0, 1) := by decide +kernel
theorem dL_law_1554 : decode cL_law 1554 = .ok (.iload 4, 2) := by decide +kernel
theorem dL_law_1556 : decode cL_law 1556 = .ok (.iconst 1, 1) := by decide +kernel
theorem dL_law_1557 : decode cL_law 1557 = .ok (.iadd, 1) := by decide +kernel
theorem dL_law_1558 : decode cL_law 1558 = .ok (.iaload, 1) := by decide +kernel
theorem dL_law_1559 : decode cL_law 1559 = .ok (.invokevirtual 202, 3) := by decide +kernel
theorem dL_law_1562 : decode cL_law 1562 = .ok (.istore 6, 2) := by decide +kernel
theorem dL_law_1564 : decode cL_law 1564 = .ok (.aload_n 2, 1) := by decide +kernel
theorem dL_law_1565 : decode cL_law 1565 = .ok (.invokevirtual 141, 3) := by decide +kernel
theorem dL_law_1568 : decode cL_law 1568 = .ok (.iload 5, 2) := by decide +kernel
theorem dL_law_1570 : decode cL_law 1570 = .ok (.if_icmp .eq 5, 3) := by decide +kernel
theorem dL_law_1575 : decode cL_law 1575 = .ok (.iload 5, 2) := by decide +kernel
theorem dL_law_1577 : decode cL_law 1577 = .ok (.ifCond .ne 15, 3) := by decide +kernel
theorem dL_law_1580 : decode cL_law 1580 = .ok (.aload_n 3, 1) := by decide +kernel
theorem dL_law_1581 : decode cL_law 1581 = .ok (.iconst 0, 1) := by decide +kernel
theorem dL_law_1582 : decode cL_law 1582 = .ok (.laload, 1) := by decide +kernel
theorem dL_law_1583 : decode cL_law 1583 = .ok (.iload 6, 2) := by decide +kernel
theorem dL_law_1585 : decode cL_law 1585 = .ok (.i2l, 1) := by decide +kernel
theorem dL_law_1586 : decode cL_law 1586 = .ok (.lcmp, 1) := by decide +kernel
theorem dL_law_1587 : decode cL_law 1587 = .ok (.ifCond .eq 5, 3) := by decide +kernel
theorem dL_law_1592 : decode cL_law 1592 = .ok (.goto 921, 3) := by decide +kernel
theorem dL_law_1595 : decode cL_law 1595 = .ok (.aload_n 1, 1) := by decide +kernel
theorem dL_law_1596 : decode cL_law 1596 = .ok (.invokevirtual 203, 3) := by decide +kernel
theorem dL_law_1599 : decode cL_law 1599 = .ok (.aload_n 2, 1) := by decide +kernel
theorem dL_law_1600 : decode cL_law 1600 = .ok (.invokevirtual 206, 3) := by decide +kernel
theorem dL_law_1603 : decode cL_law 1603 = .ok (.if_icmp .eq 910, 3) := by decide +kernel
theorem dL_law_1608 : decode cL_law 1608 = .ok (.aload_n 1, 1) := by decide +kernel
theorem dL_law_1609 : decode cL_law 1609 = .ok (.aload_n 0, 1) := by decide +kernel
theorem dL_law_1610 : decode cL_law 1610 = .ok (.iload 4, 2) := by decide +kernel
theorem dL_law_1612 : decode cL_law 1612 = .ok (.iconst 1, 1) := by decide +kernel
theorem dL_law_1613 : decode cL_law 1613 = .ok (.iadd, 1) := by decide +kernel
theorem dL_law_1614 : decode cL_law 1614 = .ok (.iaload, 1) := by decide +kernel
theorem dL_law_1615 : decode cL_law 1615 = .ok (.aload_n 0, 1) := by decide +kernel
theorem dL_law_1616 : decode cL_law 1616 = .ok (.iload 4, 2) := by decide +kernel
theorem dL_law_1618 : decode cL_law 1618 = .ok (.iconst 2, 1) := by decide +kernel
theorem dL_law_1619 : decode cL_law 1619 = .ok (.iadd, 1) := by decide +kernel
theorem dL_law_1620 : decode cL_law 1620 = .ok (.iaload, 1) := by decide +kernel
theorem dL_law_1621 : decode cL_law 1621 = .ok (.ifCond .eq 7, 3) := by decide +kernel
theorem dL_law_1624 : decode cL_law 1624 = .ok (.iconst 1, 1) := by decide +kernel
theorem dL_law_1625 : decode cL_law 1625 = .ok (.goto 4, 3) := by decide +kernel
theorem dL_law_1628 : decode cL_law 1628 = .ok (.iconst 0, 1) := by decide +kernel
theorem dL_law_1629 : decode cL_law 1629 = .ok (.aload_n 3, 1) := by decide +kernel
theorem dL_law_1630 : decode cL_law 1630 = .ok (.invokestatic 207, 3) := by decide +kernel
theorem dL_law_1633 : decode cL_law 1633 = .ok (.istore 5, 2) := by decide +kernel
theorem dL_law_1635 : decode cL_law 1635 = .ok (.aload_n 2, 1) := by decide +kernel
theorem dL_law_1636 : decode cL_law 1636 = .ok (.aload_n 0, 1) := by decide +kernel
theorem dL_law_1637 : decode cL_law 1637 = .ok (.iload 4, 2) := by decide +kernel
theorem dL_law_1639 : decode cL_law 1639 = .ok (.iconst 1, 1) := by decide +kernel
theorem dL_law_1640 : decode cL_law 1640 = .ok (.iadd, 1) := by decide +kernel
theorem dL_law_1641 : decode cL_law 1641 = .ok (.iaload, 1) := by decide +kernel
theorem dL_law_1642 : decode cL_law 1642 = .ok (.aload_n 0, 1) := by decide +kernel
theorem dL_law_1643 : decode cL_law 1643 = .ok (.iload 4, 2) := by decide +kernel
theorem dL_law_1645 : decode cL_law 1645 = .ok (.iconst 2, 1) := by decide +kernel
theorem dL_law_1646 : decode cL_law 1646 = .ok (.iadd, 1) := by decide +kernel
theorem dL_law_1647 : decode cL_law 1647 = .ok (.iaload, 1) := by decide +kernel
theorem dL_law_1648 : decode cL_law 1648 = .ok (.ifCond .eq 7, 3) := by decide +kernel
theorem dL_law_1651 : decode cL_law 1651 = .ok (.iconst 1, 1) := by decide +kernel
theorem dL_law_1652 : decode cL_law 1652 = .ok (.goto 4, 3) := by decide +kernel
theorem dL_law_1655 : decode cL_law 1655 = .ok (.iconst 0, 1) := by decide +kernel
theorem dL_law_1656 : decode cL_law 1656 = .ok (.invokevirtual 210, 3) := by decide +kernel
theorem dL_law_1659 : decode cL_law 1659 = .ok (.istore 6, 2) := by decide +kernel
theorem dL_law_1661 : decode cL_law 1661 = .ok (.aload_n 2, 1) := by decide +kernel
theorem dL_law_1662 : decode cL_law 1662 = .ok (.invokevirtual 141, 3) := by decide +kernel
theorem dL_law_1665 : decode cL_law 1665 = .ok (.iload 5, 2) := by decide +kernel
theorem dL_law_1667 : decode cL_law 1667 = .ok (.if_icmp .eq 5, 3) := by decide +kernel
theorem dL_law_1672 : decode cL_law 1672 = .ok (.iload 5, 2) := by decide +kernel
theorem dL_law_1674 : decode cL_law 1674 = .ok (.ifCond .ne 15, 3) := by decide +kernel
theorem dL_law_1677 : decode cL_law 1677 = .ok (.aload_n 3, 1) := by decide +kernel
theorem dL_law_1678 : decode cL_law 1678 = .ok (.iconst 0, 1) := by decide +kernel
theorem dL_law_1679 : decode cL_law 1679 = .ok (.laload, 1) := by decide +kernel
theorem dL_law_1680 : decode cL_law 1680 = .ok (.iload 6, 2) := by decide +kernel
theorem dL_law_1682 : decode cL_law 1682 = .ok (.i2l, 1) := by decide +kernel
theorem dL_law_1683 : decode cL_law 1683 = .ok (.lcmp, 1) := by decide +kernel
theorem dL_law_1684 : decode cL_law 1684 = .ok (.ifCond .eq 5, 3) := by decide +kernel
theorem dL_law_1689 : decode cL_law 1689 = .ok (.goto 824, 3) := by decide +kernel
theorem dL_law_1692 : decode cL_law 1692 = .ok (.aload_n 1, 1) := by decide +kernel
theorem dL_law_1693 : decode cL_law 1693 = .ok (.aload_n 3, 1) := by decide +kernel
theorem dL_law_1694 : decode cL_law 1694 = .ok (.invokestatic 211, 3) := by decide +kernel
theorem dL_law_1697 : decode cL_law 1697 = .ok (.istore 5, 2) := by decide +kernel
theorem dL_law_1699 : decode cL_law 1699 = .ok (.aload_n 2, 1) := by decide +kernel
theorem dL_law_1700 : decode cL_law 1700 = .ok (.invokevirtual 213, 3) := by decide +kernel
theorem dL_law_1703 : decode cL_law 1703 = .ok (.istore 6, 2) := by decide +kernel
theorem dL_law_1705 : decode cL_law 1705 = .ok (.aload_n 2, 1) := by decide +kernel
theorem dL_law_1706 : decode cL_law 1706 = .ok (.invokevirtual 141, 3) := by decide +kernel
theorem dL_law_1709 : decode cL_law 1709 = .ok (.iload 5, 2) := by decide +kernel
theorem dL_law_1711 : decode cL_law 1711 = .ok (.if_icmp .eq 5, 3) := by decide +kernel
theorem dL_law_1716 : decode cL_law 1716 = .ok (.iload 5, 2) := by decide +kernel
theorem dL_law_1718 : decode cL_law 1718 = .ok (.ifCond .ne 22, 3) := by decide +kernel
theorem dL_law_1721 : decode cL_law 1721 = .ok (.aload_n 3, 1) := by decide +kernel
theorem dL_law_1722 : decode cL_law 1722 = .ok (.iconst 0, 1) := by decide +kernel
theorem dL_law_1723 : decode cL_law 1723 = .ok (.laload, 1) := by decide +kernel
theorem dL_law_1724 : decode cL_law 1724 = .ok (.iload 6, 2) := by decide +kernel
theorem dL_law_1726 : decode cL_law 1726 = .ok (.ifCond .eq 7, 3) := by decide +kernel
theorem dL_law_1729 : decode cL_law 1729 = .ok (.lconst 1, 1) := by decide +kernel
theorem dL_law_1730 : decode cL_law 1730 = .ok (.goto 4, 3) := by decide +kernel
theorem dL_law_1733 : decode cL_law 1733 = .ok (.lconst 0, 1) := by decide +kernel
theorem dL_law_1734 : decode cL_law 1734 = .ok (.lcmp, 1) := by decide +kernel
theorem dL_law_1735 : decode cL_law 1735 = .ok (.ifCond .eq 5, 3) := by decide +kernel
theorem dL_law_1740 : decode cL_law 1740 = .ok (.goto 773, 3) := by decide +kernel
theorem dL_law_1743 : decode cL_law 1743 = .ok (.aload_n 1, 1) := by decide +kernel
theorem dL_law_1744 : decode cL_law 1744 = .ok (.aload_n 0, 1) := by decide +kernel
theorem dL_law_1745 : decode cL_law 1745 = .ok (.iload 4, 2) := by decide +kernel
theorem dL_law_1747 : decode cL_law 1747 = .ok (.iconst 1, 1) := by decide +kernel
theorem dL_law_1748 : decode cL_law 1748 = .ok (.iadd, 1) := by decide +kernel
theorem dL_law_1749 : decode cL_law 1749 = .ok (.iaload, 1) := by decide +kernel
theorem dL_law_1750 : decode cL_law 1750 = .ok (.aload_n 0, 1) := by decide +kernel
theorem dL_law_1751 : decode cL_law 1751 = .ok (.iload 4, 2) := by decide +kernel
theorem dL_law_1753 : decode cL_law 1753 = .ok (.iconst 2, 1) := by decide +kernel
theorem dL_law_1754 : decode cL_law 1754 = .ok (.iadd, 1) := by decide +kernel
theorem dL_law_1755 : decode cL_law 1755 = .ok (.iaload, 1) := by decide +kernel
theorem dL_law_1756 : decode cL_law 1756 = .ok (.aload_n 3, 1) := by decide +kernel
theorem dL_law_1757 : decode cL_law 1757 = .ok (.invokestatic 214, 3) := by decide +kernel
theorem dL_law_1760 : decode cL_law 1760 = .ok (.istore 5, 2) := by decide +kernel
theorem dL_law_1762 : decode cL_law 1762 = .ok (.aload_n 2, 1) := by decide +kernel
theorem dL_law_1763 : decode cL_law 1763 = .ok (.aload_n 0, 1) := by decide +kernel
theorem dL_law_1764 : decode cL_law 1764 = .ok (.iload 4, 2) := by decide +kernel
theorem dL_law_1766 : decode cL_law 1766 = .ok (.iconst 1, 1) := by decide +kernel
theorem dL_law_1767 : decode cL_law 1767 = .ok (.iadd, 1) := by decide +kernel
theorem dL_law_1768 : decode cL_law 1768 = .ok (.iaload, 1) := by decide +kernel
theorem dL_law_1769 : decode cL_law 1769 = .ok (.aload_n 0, 1) := by decide +kernel
theorem dL_law_1770 : decode cL_law 1770 = .ok (.iload 4, 2) := by decide +kernel
theorem dL_law_1772 : decode cL_law 1772 = .ok (.iconst 2, 1) := by decide +kernel
theorem dL_law_1773 : decode cL_law 1773 = .ok (.iadd, 1) := by decide +kernel
theorem dL_law_1774 : decode cL_law 1774 = .ok (.iaload, 1) := by decide +kernel
theorem dL_law_1775 : decode cL_law 1775 = .ok (.invokevirtual 216, 3) := by decide +kernel
theorem dL_law_1778 : decode cL_law 1778 = .ok (.istore 6, 2) := by decide +kernel
theorem dL_law_1780 : decode cL_law 1780 = .ok (.aload_n 2, 1) := by decide +kernel
theorem dL_law_1781 : decode cL_law 1781 = .ok (.invokevirtual 141, 3) := by decide +kernel
theorem dL_law_1784 : decode cL_law 1784 = .ok (.iload 5, 2) := by decide +kernel
theorem dL_law_1786 : decode cL_law 1786 = .ok (.if_icmp .eq 5, 3) := by decide +kernel
theorem dL_law_1791 : decode cL_law 1791 = .ok (.iload 5, 2) := by decide +kernel
theorem dL_law_1793 : decode cL_law 1793 = .ok (.ifCond .ne 15, 3) := by decide +kernel
theorem dL_law_1796 : decode cL_law 1796 = .ok (.aload_n 3, 1) := by decide +kernel
theorem dL_law_1797 : decode cL_law 1797 = .ok (.iconst 0, 1) := by decide +kernel
theorem dL_law_1798 : decode cL_law 1798 = .ok (.laload, 1) := by decide +kernel
theorem dL_law_1799 : decode cL_law 1799 = .ok (.iload 6, 2) := by decide +kernel
theorem dL_law_1801 : decode cL_law 1801 = .ok (.i2l, 1) := by decide +kernel
theorem dL_law_1802 : decode cL_law 1802 = .ok (.lcmp, 1) := by decide +kernel
theorem dL_law_1803 : decode cL_law 1803 = .ok (.ifCond .eq 5, 3) := by decide +kernel
theorem dL_law_1808 : decode cL_law 1808 = .ok (.goto 705, 3) := by decide +kernel
theorem dL_law_1811 : decode cL_law 1811 = .ok (.aload_n 1, 1) := by decide +kernel
theorem dL_law_1812 : decode cL_law 1812 = .ok (.aload_n 0, 1) := by decide +kernel
theorem dL_law_1813 : decode cL_law 1813 = .ok (.iload 4, 2) := by decide +kernel
theorem dL_law_1815 : decode cL_law 1815 = .ok (.iconst 1, 1) := by decide +kernel
theorem dL_law_1816 : decode cL_law 1816 = .ok (.iadd, 1) := by decide +kernel
theorem dL_law_1817 : decode cL_law 1817 = .ok (.iaload, 1) := by decide +kernel
theorem dL_law_1818 : decode cL_law 1818 = .ok (.aload_n 3, 1) := by decide +kernel
theorem dL_law_1819 : decode cL_law 1819 = .ok (.invokestatic 217, 3) := by decide +kernel
theorem dL_law_1822 : decode cL_law 1822 = .ok (.istore 5, 2) := by decide +kernel
theorem dL_law_1824 : decode cL_law 1824 = .ok (.aload_n 2, 1) := by decide +kernel
theorem dL_law_1825 : decode cL_law 1825 = .ok (.aload_n 0, 1) := by decide +kernel
theorem dL_law_1826 : decode cL_law 1826 = .ok (.iload 4, 2) := by decide +kernel
theorem dL_law_1828 : decode cL_law 1828 = .ok (.iconst 1, 1) := by decide +kernel
theorem dL_law_1829 : decode cL_law 1829 = .ok (.iadd, 1) := by decide +kernel
theorem dL_law_1830 : decode cL_law 1830 = .ok (.iaload, 1) := by decide +kernel
theorem dL_law_1831 : decode cL_law 1831 = .ok (.invokevirtual 219, 3) := by decide +kernel
theorem dL_law_1834 : decode cL_law 1834 = .ok (.istore 6, 2) := by decide +kernel
theorem dL_law_1836 : decode cL_law 1836 = .ok (.aload_n 2, 1) := by decide +kernel
theorem dL_law_1837 : decode cL_law 1837 = .ok (.invokevirtual 141, 3) := by decide +kernel
theorem dL_law_1840 : decode cL_law 1840 = .ok (.iload 5, 2) := by decide +kernel
theorem dL_law_1842 : decode cL_law 1842 = .ok (.if_icmp .eq 5, 3) := by decide +kernel
theorem dL_law_1847 : decode cL_law 1847 = .ok (.iload 5, 2) := by decide +kernel
theorem dL_law_1849 : decode cL_law 1849 = .ok (.ifCond .ne 15, 3) := by decide +kernel
theorem dL_law_1852 : decode cL_law 1852 = .ok (.aload_n 3, 1) := by decide +kernel
theorem dL_law_1853 : decode cL_law 1853 = .ok (.iconst 0, 1) := by decide +kernel
theorem dL_law_1854 : decode cL_law 1854 = .ok (.laload, 1) := by decide +kernel
theorem dL_law_1855 : decode cL_law 1855 = .ok (.iload 6, 2) := by decide +kernel
theorem dL_law_1857 : decode cL_law 1857 = .ok (.i2l, 1) := by decide +kernel
theorem dL_law_1858 : decode cL_law 1858 = .ok (.lcmp, 1) := by decide +kernel
theorem dL_law_1859 : decode cL_law 1859 = .ok (.ifCond .eq 5, 3) := by decide +kernel
theorem dL_law_1864 : decode cL_law 1864 = .ok (.goto 649, 3) := by decide +kernel
theorem dL_law_1867 : decode cL_law 1867 = .ok (.aload_n 1, 1) := by decide +kernel
theorem dL_law_1868 : decode cL_law 1868 = .ok (.aload_n 0, 1) := by decide +kernel
theorem dL_law_1869 : decode cL_law 1869 = .ok (.iload 4, 2) := by decide +kernel
theorem dL_law_1871 : decode cL_law 1871 = .ok (.iconst 1, 1) := by decide +kernel
theorem dL_law_1872 : decode cL_law 1872 = .ok (.iadd, 1) := by decide +kernel
theorem dL_law_1873 : decode cL_law 1873 = .ok (.iaload, 1) := by decide +kernel
theorem dL_law_1874 : decode cL_law 1874 = .ok (.aload_n 0, 1) := by decide +kernel
theorem dL_law_1875 : decode cL_law 1875 = .ok (.iload 4, 2) := by decide +kernel
theorem dL_law_1877 : decode cL_law 1877 = .ok (.iconst 2, 1) := by decide +kernel
theorem dL_law_1878 : decode cL_law 1878 = .ok (.iadd, 1) := by decide +kernel
theorem dL_law_1879 : decode cL_law 1879 = .ok (.iaload, 1) := by decide +kernel
theorem dL_law_1880 : decode cL_law 1880 = .ok (.aload_n 3, 1) := by decide +kernel
theorem dL_law_1881 : decode cL_law 1881 = .ok (.invokestatic 220, 3) := by decide +kernel
theorem dL_law_1884 : decode cL_law 1884 = .ok (.istore 5, 2) := by decide +kernel
theorem dL_law_1886 : decode cL_law 1886 = .ok (.aload_n 2, 1) := by decide +kernel
theorem dL_law_1887 : decode cL_law 1887 = .ok (.aload_n 0, 1) := by decide +kernel
theorem dL_law_1888 : decode cL_law 1888 = .ok (.iload 4, 2) := by decide +kernel
theorem dL_law_1890 : decode cL_law 1890 = .ok (.iconst 1, 1) := by decide +kernel
theorem dL_law_1891 : decode cL_law 1891 = .ok (.iadd, 1) := by decide +kernel
theorem dL_law_1892 : decode cL_law 1892 = .ok (.iaload, 1) := by decide +kernel
theorem dL_law_1893 : decode cL_law 1893 = .ok (.aload_n 0, 1) := by decide +kernel
theorem dL_law_1894 : decode cL_law 1894 = .ok (.iload 4, 2) := by decide +kernel
theorem dL_law_1896 : decode cL_law 1896 = .ok (.iconst 2, 1) := by decide +kernel
theorem dL_law_1897 : decode cL_law 1897 = .ok (.iadd, 1) := by decide +kernel
theorem dL_law_1898 : decode cL_law 1898 = .ok (.iaload, 1) := by decide +kernel
theorem dL_law_1899 : decode cL_law 1899 = .ok (.invokevirtual 222, 3) := by decide +kernel
theorem dL_law_1902 : decode cL_law 1902 = .ok (.istore 6, 2) := by decide +kernel
theorem dL_law_1904 : decode cL_law 1904 = .ok (.aload_n 2, 1) := by decide +kernel
theorem dL_law_1905 : decode cL_law 1905 = .ok (.invokevirtual 141, 3) := by decide +kernel
theorem dL_law_1908 : decode cL_law 1908 = .ok (.iload 5, 2) := by decide +kernel
theorem dL_law_1910 : decode cL_law 1910 = .ok (.if_icmp .eq 5, 3) := by decide +kernel
theorem dL_law_1915 : decode cL_law 1915 = .ok (.iload 5, 2) := by decide +kernel
theorem dL_law_1917 : decode cL_law 1917 = .ok (.ifCond .ne 15, 3) := by decide +kernel
theorem dL_law_1920 : decode cL_law 1920 = .ok (.aload_n 3, 1) := by decide +kernel
theorem dL_law_1921 : decode cL_law 1921 = .ok (.iconst 0, 1) := by decide +kernel
theorem dL_law_1922 : decode cL_law 1922 = .ok (.laload, 1) := by decide +kernel
theorem dL_law_1923 : decode cL_law 1923 = .ok (.iload 6, 2) := by decide +kernel
theorem dL_law_1925 : decode cL_law 1925 = .ok (.i2l, 1) := by decide +kernel
theorem dL_law_1926 : decode cL_law 1926 = .ok (.lcmp, 1) := by decide +kernel
theorem dL_law_1927 : decode cL_law 1927 = .ok (.ifCond .eq 5, 3) := by decide +kernel
theorem dL_law_1932 : decode cL_law 1932 = .ok (.goto 581, 3) := by decide +kernel
theorem dL_law_1935 : decode cL_law 1935 = .ok (.aload_n 1, 1) := by decide +kernel
theorem dL_law_1936 : decode cL_law 1936 = .ok (.aload_n 0, 1) := by decide +kernel
theorem dL_law_1937 : decode cL_law 1937 = .ok (.iload 4, 2) := by decide +kernel
theorem dL_law_1939 : decode cL_law 1939 = .ok (.iconst 1, 1) := by decide +kernel
theorem dL_law_1940 : decode cL_law 1940 = .ok (.iadd, 1) := by decide +kernel
theorem dL_law_1941 : decode cL_law 1941 = .ok (.iaload, 1) := by decide +kernel
theorem dL_law_1942 : decode cL_law 1942 = .ok (.aload_n 3, 1) := by decide +kernel
theorem dL_law_1943 : decode cL_law 1943 = .ok (.invokestatic 223, 3) := by decide +kernel
theorem dL_law_1946 : decode cL_law 1946 = .ok (.istore 5, 2) := by decide +kernel
theorem dL_law_1948 : decode cL_law 1948 = .ok (.aload_n 2, 1) := by decide +kernel
theorem dL_law_1949 : decode cL_law 1949 = .ok (.aload_n 0, 1) := by decide +kernel
theorem dL_law_1950 : decode cL_law 1950 = .ok (.iload 4, 2) := by decide +kernel
theorem dL_law_1952 : decode cL_law 1952 = .ok (.iconst 1, 1) := by decide +kernel
theorem dL_law_1953 : decode cL_law 1953 = .ok (.iadd, 1) := by decide +kernel
theorem dL_law_1954 : decode cL_law 1954 = .ok (.iaload, 1) := by decide +kernel
theorem dL_law_1955 : decode cL_law 1955 = .ok (.invokevirtual 225, 3) := by decide +kernel
theorem dL_law_1958 : decode cL_law 1958 = .ok (.istore 6, 2) := by decide +kernel
theorem dL_law_1960 : decode cL_law 1960 = .ok (.aload_n 2, 1) := by decide +kernel
theorem dL_law_1961 : decode cL_law 1961 = .ok (.invokevirtual 141, 3) := by decide +kernel
theorem dL_law_1964 : decode cL_law 1964 = .ok (.iload 5, 2) := by decide +kernel
theorem dL_law_1966 : decode cL_law 1966 = .ok (.if_icmp .eq 5, 3) := by decide +kernel
theorem dL_law_1971 : decode cL_law 1971 = .ok (.iload 5, 2) := by decide +kernel
theorem dL_law_1973 : decode cL_law 1973 = .ok (.ifCond .ne 15, 3) := by decide +kernel
theorem dL_law_1976 : decode cL_law 1976 = .ok (.aload_n 3, 1) := by decide +kernel
theorem dL_law_1977 : decode cL_law 1977 = .ok (.iconst 0, 1) := by decide +kernel
theorem dL_law_1978 : decode cL_law 1978 = .ok (.laload, 1) := by decide +kernel
theorem dL_law_1979 : decode cL_law 1979 = .ok (.iload 6, 2) := by decide +kernel
theorem dL_law_1981 : decode cL_law 1981 = .ok (.i2l, 1) := by decide +kernel
theorem dL_law_1982 : decode cL_law 1982 = .ok (.lcmp, 1) := by decide +kernel
theorem dL_law_1983 : decode cL_law 1983 = .ok (.ifCond .eq 5, 3) := by decide +kernel
theorem dL_law_1988 : decode cL_law 1988 = .ok (.goto 525, 3) := by decide +kernel
theorem dL_law_1991 : decode cL_law 1991 = .ok (.aload_n 1, 1) := by decide +kernel
theorem dL_law_1992 : decode cL_law 1992 = .ok (.aload_n 0, 1) := by decide +kernel
theorem dL_law_1993 : decode cL_law 1993 = .ok (.iload 4, 2) := by decide +kernel
theorem dL_law_1995 : decode cL_law 1995 = .ok (.iconst 1, 1) := by decide +kernel
theorem dL_law_1996 : decode cL_law 1996 = .ok (.iadd, 1) := by decide +kernel
theorem dL_law_1997 : decode cL_law 1997 = .ok (.iaload, 1) := by decide +kernel
theorem dL_law_1998 : decode cL_law 1998 = .ok (.aload_n 0, 1) := by decide +kernel
theorem dL_law_1999 : decode cL_law 1999 = .ok (.iload 4, 2) := by decide +kernel
theorem dL_law_2001 : decode cL_law 2001 = .ok (.iconst 2, 1) := by decide +kernel
theorem dL_law_2002 : decode cL_law 2002 = .ok (.iadd, 1) := by decide +kernel
theorem dL_law_2003 : decode cL_law 2003 = .ok (.iaload, 1) := by decide +kernel
theorem dL_law_2004 : decode cL_law 2004 = .ok (.aload_n 0, 1) := by decide +kernel
theorem dL_law_2005 : decode cL_law 2005 = .ok (.iload 4, 2) := by decide +kernel
theorem dL_law_2007 : decode cL_law 2007 = .ok (.iconst 3, 1) := by decide +kernel
theorem dL_law_2008 : decode cL_law 2008 = .ok (.iadd, 1) := by decide +kernel
theorem dL_law_2009 : decode cL_law 2009 = .ok (.iaload, 1) := by decide +kernel
theorem dL_law_2010 : decode cL_law 2010 = .ok (.aload_n 0, 1) := by decide +kernel
theorem dL_law_2011 : decode cL_law 2011 = .ok (.iload 4, 2) := by decide +kernel
theorem dL_law_2013 : decode cL_law 2013 = .ok (.iconst 4, 1) := by decide +kernel
theorem dL_law_2014 : decode cL_law 2014 = .ok (.iadd, 1) := by decide +kernel
theorem dL_law_2015 : decode cL_law 2015 = .ok (.iaload, 1) := by decide +kernel
theorem dL_law_2016 : decode cL_law 2016 = .ok (.aload_n 3, 1) := by decide +kernel
theorem dL_law_2017 : decode cL_law 2017 = .ok (.invokestatic 226, 3) := by decide +kernel
theorem dL_law_2020 : decode cL_law 2020 = .ok (.istore 5, 2) := by decide +kernel
theorem dL_law_2022 : decode cL_law 2022 = .ok (.aload_n 2, 1) := by decide +kernel
theorem dL_law_2023 : decode cL_law 2023 = .ok (.aload_n 0, 1) := by decide +kernel
theorem dL_law_2024 : decode cL_law 2024 = .ok (.iload 4, 2) := by decide +kernel
theorem dL_law_2026 : decode cL_law 2026 = .ok (.iconst 1, 1) := by decide +kernel
theorem dL_law_2027 : decode cL_law 2027 = .ok (.iadd, 1) := by decide +kernel
theorem dL_law_2028 : decode cL_law 2028 = .ok (.iaload, 1) := by decide +kernel
theorem dL_law_2029 : decode cL_law 2029 = .ok (.aload_n 0, 1) := by decide +kernel
theorem dL_law_2030 : decode cL_law 2030 = .ok (.iload 4, 2) := by decide +kernel
theorem dL_law_2032 : decode cL_law 2032 = .ok (.iconst 2, 1) := by decide +kernel
theorem dL_law_2033 : decode cL_law 2033 = .ok (.iadd, 1) := by decide +kernel
theorem dL_law_2034 : decode cL_law 2034 = .ok (.iaload, 1) := by decide +kernel
theorem dL_law_2035 : decode cL_law 2035 = .ok (.aload_n 0, 1) := by decide +kernel
theorem dL_law_2036 : decode cL_law 2036 = .ok (.iload 4, 2) := by decide +kernel
theorem dL_law_2038 : decode cL_law 2038 = .ok (.iconst 3, 1) := by decide +kernel
theorem dL_law_2039 : decode cL_law 2039 = .ok (.iadd, 1) := by decide +kernel
theorem dL_law_2040 : decode cL_law 2040 = .ok (.iaload, 1) := by decide +kernel
theorem dL_law_2041 : decode cL_law 2041 = .ok (.aload_n 0, 1) := by decide +kernel
theorem dL_law_2042 : decode cL_law 2042 = .ok (.iload 4, 2) := by decide +kernel
theorem dL_law_2044 : decode cL_law 2044 = .ok (.iconst 4, 1) := by decide +kernel
theorem dL_law_2045 : decode cL_law 2045 = .ok (.iadd, 1) := by decide +kernel
theorem dL_law_2046 : decode cL_law 2046 = .ok (.iaload, 1) := by decide +kernel
theorem dL_law_2047 : decode cL_law 2047 = .ok (.invokevirtual 228, 3) := by decide +kernel
theorem dL_law_2050 : decode cL_law 2050 = .ok (.istore 6, 2) := by decide +kernel
theorem dL_law_2052 : decode cL_law 2052 = .ok (.aload_n 2, 1) := by decide +kernel
theorem dL_law_2053 : decode cL_law 2053 = .ok (.invokevirtual 141, 3) := by decide +kernel
theorem dL_law_2056 : decode cL_law 2056 = .ok (.iload 5, 2) := by decide +kernel
theorem dL_law_2058 : decode cL_law 2058 = .ok (.if_icmp .eq 5, 3) := by decide +kernel
theorem dL_law_2063 : decode cL_law 2063 = .ok (.iload 5, 2) := by decide +kernel
theorem dL_law_2065 : decode cL_law 2065 = .ok (.ifCond .ne 15, 3) := by decide +kernel
theorem dL_law_2068 : decode cL_law 2068 = .ok (.aload_n 3, 1) := by decide +kernel
theorem dL_law_2069 : decode cL_law 2069 = .ok (.iconst 0, 1) := by decide +kernel
theorem dL_law_2070 : decode cL_law 2070 = .ok (.laload, 1) := by decide +kernel
theorem dL_law_2071 : decode cL_law 2071 = .ok (.iload 6, 2) := by decide +kernel
theorem dL_law_2073 : decode cL_law 2073 = .ok (.i2l, 1) := by decide +kernel
theorem dL_law_2074 : decode cL_law 2074 = .ok (.lcmp, 1) := by decide +kernel
theorem dL_law_2075 : decode cL_law 2075 = .ok (.ifCond .eq 5, 3) := by decide +kernel
theorem dL_law_2080 : decode cL_law 2080 = .ok (.goto 433, 3) := by decide +kernel
theorem dL_law_2083 : decode cL_law 2083 = .ok (.aload_n 1, 1) := by decide +kernel
theorem dL_law_2084 : decode cL_law 2084 = .ok (.aload_n 0, 1) := by decide +kernel
theorem dL_law_2085 : decode cL_law 2085 = .ok (.iload 4, 2) := by decide +kernel
theorem dL_law_2087 : decode cL_law 2087 = .ok (.iconst 1, 1) := by decide +kernel
theorem dL_law_2088 : decode cL_law 2088 = .ok (.iadd, 1) := by decide +kernel
theorem dL_law_2089 : decode cL_law 2089 = .ok (.iaload, 1) := by decide +kernel
theorem dL_law_2090 : decode cL_law 2090 = .ok (.aload_n 0, 1) := by decide +kernel
theorem dL_law_2091 : decode cL_law 2091 = .ok (.iload 4, 2) := by decide +kernel
theorem dL_law_2093 : decode cL_law 2093 = .ok (.iconst 2, 1) := by decide +kernel
theorem dL_law_2094 : decode cL_law 2094 = .ok (.iadd, 1) := by decide +kernel
theorem dL_law_2095 : decode cL_law 2095 = .ok (.iaload, 1) := by decide +kernel
theorem dL_law_2096 : decode cL_law 2096 = .ok (.aload_n 3, 1) := by decide +kernel
theorem dL_law_2097 : decode cL_law 2097 = .ok (.invokestatic 229, 3) := by decide +kernel
theorem dL_law_2100 : decode cL_law 2100 = .ok (.istore 5, 2) := by decide +kernel
theorem dL_law_2102 : decode cL_law 2102 = .ok (.aload_n 2, 1) := by decide +kernel
theorem dL_law_2103 : decode cL_law 2103 = .ok (.aload_n 0, 1) := by decide +kernel
theorem dL_law_2104 : decode cL_law 2104 = .ok (.iload 4, 2) := by decide +kernel
theorem dL_law_2106 : decode cL_law 2106 = .ok (.iconst 1, 1) := by decide +kernel
theorem dL_law_2107 : decode cL_law 2107 = .ok (.iadd, 1) := by decide +kernel
theorem dL_law_2108 : decode cL_law 2108 = .ok (.iaload, 1) := by decide +kernel
theorem dL_law_2109 : decode cL_law 2109 = .ok (.aload_n 0, 1) := by decide +kernel
theorem dL_law_2110 : decode cL_law 2110 = .ok (.iload 4, 2) := by decide +kernel
theorem dL_law_2112 : decode cL_law 2112 = .ok (.iconst 2, 1) := by decide +kernel
theorem dL_law_2113 : decode cL_law 2113 = .ok (.iadd, 1) := by decide +kernel
theorem dL_law_2114 : decode cL_law 2114 = .ok (.iaload, 1) := by decide +kernel
theorem dL_law_2115 : decode cL_law 2115 = .ok (.invokevirtual 231, 3) := by decide +kernel
theorem dL_law_2118 : decode cL_law 2118 = .ok (.istore 6, 2) := by decide +kernel
theorem dL_law_2120 : decode cL_law 2120 = .ok (.aload_n 2, 1) := by decide +kernel
theorem dL_law_2121 : decode cL_law 2121 = .ok (.invokevirtual 141, 3) := by decide +kernel
theorem dL_law_2124 : decode cL_law 2124 = .ok (.iload 5, 2) := by decide +kernel
theorem dL_law_2126 : decode cL_law 2126 = .ok (.if_icmp .eq 5, 3) := by decide +kernel
theorem dL_law_2131 : decode cL_law 2131 = .ok (.iload 5, 2) := by decide +kernel
theorem dL_law_2133 : decode cL_law 2133 = .ok (.ifCond .ne 15, 3) := by decide +kernel
theorem dL_law_2136 : decode cL_law 2136 = .ok (.aload_n 3, 1) := by decide +kernel
theorem dL_law_2137 : decode cL_law 2137 = .ok (.iconst 0, 1) := by decide +kernel
theorem dL_law_2138 : decode cL_law 2138 = .ok (.laload, 1) := by decide +kernel
theorem dL_law_2139 : decode cL_law 2139 = .ok (.iload 6, 2) := by decide +kernel
theorem dL_law_2141 : decode cL_law 2141 = .ok (.i2l, 1) := by decide +kernel
theorem dL_law_2142 : decode cL_law 2142 = .ok (.lcmp, 1) := by decide +kernel
theorem dL_law_2143 : decode cL_law 2143 = .ok (.ifCond .eq 5, 3) := by decide +kernel
theorem dL_law_2148 : decode cL_law 2148 = .ok (.goto 365, 3) := by decide +kernel
theorem dL_law_2151 : decode cL_law 2151 = .ok (.aload_n 1, 1) := by decide +kernel
theorem dL_law_2152 : decode cL_law 2152 = .ok (.invokevirtual 232, 3) := by decide +kernel
theorem dL_law_2155 : decode cL_law 2155 = .ok (.aload_n 2, 1) := by decide +kernel
theorem dL_law_2156 : decode cL_law 2156 = .ok (.invokevirtual 235, 3) := by decide +kernel
theorem dL_law_2159 : decode cL_law 2159 = .ok (.if_icmp .eq 354, 3) := by decide +kernel
theorem dL_law_2164 : decode cL_law 2164 = .ok (.aload_n 1, 1) := by decide +kernel
theorem dL_law_2165 : decode cL_law 2165 = .ok (.aload_n 0, 1) := by decide +kernel
theorem dL_law_2166 : decode cL_law 2166 = .ok (.iload 4, 2) := by decide +kernel
theorem dL_law_2168 : decode cL_law 2168 = .ok (.iconst 1, 1) := by decide +kernel
theorem dL_law_2169 : decode cL_law 2169 = .ok (.iadd, 1) := by decide +kernel
theorem dL_law_2170 : decode cL_law 2170 = .ok (.iaload, 1) := by decide +kernel
theorem dL_law_2171 : decode cL_law 2171 = .ok (.aload_n 0, 1) := by decide +kernel
theorem dL_law_2172 : decode cL_law 2172 = .ok (.iload 4, 2) := by decide +kernel
theorem dL_law_2174 : decode cL_law 2174 = .ok (.iconst 2, 1) := by decide +kernel
theorem dL_law_2175 : decode cL_law 2175 = .ok (.iadd, 1) := by decide +kernel
theorem dL_law_2176 : decode cL_law 2176 = .ok (.iaload, 1) := by decide +kernel
theorem dL_law_2177 : decode cL_law 2177 = .ok (.aload_n 0, 1) := by decide +kernel
theorem dL_law_2178 : decode cL_law 2178 = .ok (.iload 4, 2) := by decide +kernel
theorem dL_law_2180 : decode cL_law 2180 = .ok (.iconst 3, 1) := by decide +kernel
theorem dL_law_2181 : decode cL_law 2181 = .ok (.iadd, 1) := by decide +kernel
theorem dL_law_2182 : decode cL_law 2182 = .ok (.iaload, 1) := by decide +kernel
theorem dL_law_2183 : decode cL_law 2183 = .ok (.aload_n 0, 1) := by decide +kernel
theorem dL_law_2184 : decode cL_law 2184 = .ok (.iload 4, 2) := by decide +kernel
theorem dL_law_2186 : decode cL_law 2186 = .ok (.iconst 4, 1) := by decide +kernel
theorem dL_law_2187 : decode cL_law 2187 = .ok (.iadd, 1) := by decide +kernel
theorem dL_law_2188 : decode cL_law 2188 = .ok (.iaload, 1) := by decide +kernel
theorem dL_law_2189 : decode cL_law 2189 = .ok (.aload_n 3, 1) := by decide +kernel
theorem dL_law_2190 : decode cL_law 2190 = .ok (.invokestatic 236, 3) := by decide +kernel
theorem dL_law_2193 : decode cL_law 2193 = .ok (.istore 5, 2) := by decide +kernel
theorem dL_law_2195 : decode cL_law 2195 = .ok (.aload_n 2, 1) := by decide +kernel
theorem dL_law_2196 : decode cL_law 2196 = .ok (.aload_n 0, 1) := by decide +kernel
theorem dL_law_2197 : decode cL_law 2197 = .ok (.iload 4, 2) := by decide +kernel
theorem dL_law_2199 : decode cL_law 2199 = .ok (.iconst 1, 1) := by decide +kernel
theorem dL_law_2200 : decode cL_law 2200 = .ok (.iadd, 1) := by decide +kernel
theorem dL_law_2201 : decode cL_law 2201 = .ok (.iaload, 1) := by decide +kernel
theorem dL_law_2202 : decode cL_law 2202 = .ok (.aload_n 0, 1) := by decide +kernel
theorem dL_law_2203 : decode cL_law 2203 = .ok (.iload 4, 2) := by decide +kernel
theorem dL_law_2205 : decode cL_law 2205 = .ok (.iconst 2, 1) := by decide +kernel
theorem dL_law_2206 : decode cL_law 2206 = .ok (.iadd, 1) := by decide +kernel
theorem dL_law_2207 : decode cL_law 2207 = .ok (.iaload, 1) := by decide +kernel
theorem dL_law_2208 : decode cL_law 2208 = .ok (.aload_n 0, 1) := by decide +kernel
theorem dL_law_2209 : decode cL_law 2209 = .ok (.iload 4, 2) := by decide +kernel
theorem dL_law_2211 : decode cL_law 2211 = .ok (.iconst 3, 1) := by decide +kernel
theorem dL_law_2212 : decode cL_law 2212 = .ok (.iadd, 1) := by decide +kernel
theorem dL_law_2213 : decode cL_law 2213 = .ok (.iaload, 1) := by decide +kernel
theorem dL_law_2214 : decode cL_law 2214 = .ok (.aload_n 0, 1) := by decide +kernel
theorem dL_law_2215 : decode cL_law 2215 = .ok (.iload 4, 2) := by decide +kernel
theorem dL_law_2217 : decode cL_law 2217 = .ok (.iconst 4, 1) := by decide +kernel
theorem dL_law_2218 : decode cL_law 2218 = .ok (.iadd, 1) := by decide +kernel
theorem dL_law_2219 : decode cL_law 2219 = .ok (.iaload, 1) := by decide +kernel
theorem dL_law_2220 : decode cL_law 2220 = .ok (.invokevirtual 238, 3) := by decide +kernel
theorem dL_law_2223 : decode cL_law 2223 = .ok (.istore 6, 2) := by decide +kernel
theorem dL_law_2225 : decode cL_law 2225 = .ok (.aload_n 2, 1) := by decide +kernel
theorem dL_law_2226 : decode cL_law 2226 = .ok (.invokevirtual 141, 3) := by decide +kernel
theorem dL_law_2229 : decode cL_law 2229 = .ok (.iload 5, 2) := by decide +kernel
theorem dL_law_2231 : decode cL_law 2231 = .ok (.if_icmp .eq 5, 3) := by decide +kernel
theorem dL_law_2236 : decode cL_law 2236 = .ok (.iload 5, 2) := by decide +kernel
theorem dL_law_2238 : decode cL_law 2238 = .ok (.ifCond .ne 15, 3) := by decide +kernel
theorem dL_law_2241 : decode cL_law 2241 = .ok (.aload_n 3, 1) := by decide +kernel
theorem dL_law_2242 : decode cL_law 2242 = .ok (.iconst 0, 1) := by decide +kernel
theorem dL_law_2243 : decode cL_law 2243 = .ok (.laload, 1) := by decide +kernel
theorem dL_law_2244 : decode cL_law 2244 = .ok (.iload 6, 2) := by decide +kernel
theorem dL_law_2246 : decode cL_law 2246 = .ok (.i2l, 1) := by decide +kernel
theorem dL_law_2247 : decode cL_law 2247 = .ok (.lcmp, 1) := by decide +kernel
theorem dL_law_2248 : decode cL_law 2248 = .ok (.ifCond .eq 5, 3) := by decide +kernel
theorem dL_law_2253 : decode cL_law 2253 = .ok (.goto 260, 3) := by decide +kernel
theorem dL_law_2256 : decode cL_law 2256 = .ok (.aload_n 1, 1) := by decide +kernel
theorem dL_law_2257 : decode cL_law 2257 = .ok (.aload_n 0, 1) := by decide +kernel
theorem dL_law_2258 : decode cL_law 2258 = .ok (.iload 4, 2) := by decide +kernel
theorem dL_law_2260 : decode cL_law 2260 = .ok (.iconst 1, 1) := by decide +kernel
theorem dL_law_2261 : decode cL_law 2261 = .ok (.iadd, 1) := by decide +kernel
theorem dL_law_2262 : decode cL_law 2262 = .ok (.iaload, 1) := by decide +kernel
theorem dL_law_2263 : decode cL_law 2263 = .ok (.aload_n 0, 1) := by decide +kernel
theorem dL_law_2264 : decode cL_law 2264 = .ok (.iload 4, 2) := by decide +kernel
theorem dL_law_2266 : decode cL_law 2266 = .ok (.iconst 2, 1) := by decide +kernel
theorem dL_law_2267 : decode cL_law 2267 = .ok (.iadd, 1) := by decide +kernel
theorem dL_law_2268 : decode cL_law 2268 = .ok (.iaload, 1) := by decide +kernel
theorem dL_law_2269 : decode cL_law 2269 = .ok (.aload_n 3, 1) := by decide +kernel
theorem dL_law_2270 : decode cL_law 2270 = .ok (.invokestatic 239, 3) := by decide +kernel
theorem dL_law_2273 : decode cL_law 2273 = .ok (.istore 5, 2) := by decide +kernel
theorem dL_law_2275 : decode cL_law 2275 = .ok (.aload_n 2, 1) := by decide +kernel
theorem dL_law_2276 : decode cL_law 2276 = .ok (.aload_n 0, 1) := by decide +kernel
theorem dL_law_2277 : decode cL_law 2277 = .ok (.iload 4, 2) := by decide +kernel
theorem dL_law_2279 : decode cL_law 2279 = .ok (.iconst 1, 1) := by decide +kernel
theorem dL_law_2280 : decode cL_law 2280 = .ok (.iadd, 1) := by decide +kernel
theorem dL_law_2281 : decode cL_law 2281 = .ok (.iaload, 1) := by decide +kernel
theorem dL_law_2282 : decode cL_law 2282 = .ok (.aload_n 0, 1) := by decide +kernel
theorem dL_law_2283 : decode cL_law 2283 = .ok (.iload 4, 2) := by decide +kernel
theorem dL_law_2285 : decode cL_law 2285 = .ok (.iconst 2, 1) := by decide +kernel
theorem dL_law_2286 : decode cL_law 2286 = .ok (.iadd, 1) := by decide +kernel
theorem dL_law_2287 : decode cL_law 2287 = .ok (.iaload, 1) := by decide +kernel
theorem dL_law_2288 : decode cL_law 2288 = .ok (.invokevirtual 241, 3) := by decide +kernel
theorem dL_law_2291 : decode cL_law 2291 = .ok (.istore 6, 2) := by decide +kernel
theorem dL_law_2293 : decode cL_law 2293 = .ok (.aload_n 2, 1) := by decide +kernel
theorem dL_law_2294 : decode cL_law 2294 = .ok (.invokevirtual 141, 3) := by decide +kernel
theorem dL_law_2297 : decode cL_law 2297 = .ok (.iload 5, 2) := by decide +kernel
theorem dL_law_2299 : decode cL_law 2299 = .ok (.if_icmp .eq 5, 3) := by decide +kernel
theorem dL_law_2304 : decode cL_law 2304 = .ok (.iload 5, 2) := by decide +kernel
theorem dL_law_2306 : decode cL_law 2306 = .ok (.ifCond .ne 15, 3) := by decide +kernel
theorem dL_law_2309 : decode cL_law 2309 = .ok (.aload_n 3, 1) := by decide +kernel
theorem dL_law_2310 : decode cL_law 2310 = .ok (.iconst 0, 1) := by decide +kernel
theorem dL_law_2311 : decode cL_law 2311 = .ok (.laload, 1) := by decide +kernel
theorem dL_law_2312 : decode cL_law 2312 = .ok (.iload 6, 2) := by decide +kernel
theorem dL_law_2314 : decode cL_law 2314 = .ok (.i2l, 1) := by decide +kernel
theorem dL_law_2315 : decode cL_law 2315 = .ok (.lcmp, 1) := by decide +kernel
theorem dL_law_2316 : decode cL_law 2316 = .ok (.ifCond .eq 5, 3) := by decide +kernel
theorem dL_law_2321 : decode cL_law 2321 = .ok (.goto 192, 3) := by decide +kernel
theorem dL_law_2324 : decode cL_law 2324 = .ok (.aload_n 1, 1) := by decide +kernel
theorem dL_law_2325 : decode cL_law 2325 = .ok (.aload_n 0, 1) := by decide +kernel
theorem dL_law_2326 : decode cL_law 2326 = .ok (.iload 4, 2) := by decide +kernel
theorem dL_law_2328 : decode cL_law 2328 = .ok (.iconst 1, 1) := by decide +kernel
theorem dL_law_2329 : decode cL_law 2329 = .ok (.iadd, 1) := by decide +kernel
theorem dL_law_2330 : decode cL_law 2330 = .ok (.iaload, 1) := by decide +kernel
theorem dL_law_2331 : decode cL_law 2331 = .ok (.aload_n 3, 1) := by decide +kernel
theorem dL_law_2332 : decode cL_law 2332 = .ok (.invokestatic 242, 3) := by decide +kernel
theorem dL_law_2335 : decode cL_law 2335 = .ok (.istore 5, 2) := by decide +kernel
theorem dL_law_2337 : decode cL_law 2337 = .ok (.aload_n 2, 1) := by decide +kernel
theorem dL_law_2338 : decode cL_law 2338 = .ok (.aload_n 0, 1) := by decide +kernel
theorem dL_law_2339 : decode cL_law 2339 = .ok (.iload 4, 2) := by decide +kernel
theorem dL_law_2341 : decode cL_law 2341 = .ok (.iconst 1, 1) := by decide +kernel
theorem dL_law_2342 : decode cL_law 2342 = .ok (.iadd, 1) := by decide +kernel
theorem dL_law_2343 : decode cL_law 2343 = .ok (.iaload, 1) := by decide +kernel
theorem dL_law_2344 : decode cL_law 2344 = .ok (.invokevirtual 244, 3) := by decide +kernel
theorem dL_law_2347 : decode cL_law 2347 = .ok (.istore 6, 2) := by decide +kernel
theorem dL_law_2349 : decode cL_law 2349 = .ok (.aload_n 2, 1) := by decide +kernel
theorem dL_law_2350 : decode cL_law 2350 = .ok (.invokevirtual 141, 3) := by decide +kernel
theorem dL_law_2353 : decode cL_law 2353 = .ok (.iload 5, 2) := by decide +kernel
theorem dL_law_2355 : decode cL_law 2355 = .ok (.if_icmp .eq 5, 3) := by decide +kernel
theorem dL_law_2360 : decode cL_law 2360 = .ok (.iload 5, 2) := by decide +kernel
theorem dL_law_2362 : decode cL_law 2362 = .ok (.ifCond .ne 15, 3) := by decide +kernel
theorem dL_law_2365 : decode cL_law 2365 = .ok (.aload_n 3, 1) := by decide +kernel
theorem dL_law_2366 : decode cL_law 2366 = .ok (.iconst 0, 1) := by decide +kernel
theorem dL_law_2367 : decode cL_law 2367 = .ok (.laload, 1) := by decide +kernel
theorem dL_law_2368 : decode cL_law 2368 = .ok (.iload 6, 2) := by decide +kernel
theorem dL_law_2370 : decode cL_law 2370 = .ok (.i2l, 1) := by decide +kernel
theorem dL_law_2371 : decode cL_law 2371 = .ok (.lcmp, 1) := by decide +kernel
theorem dL_law_2372 : decode cL_law 2372 = .ok (.ifCond .eq 5, 3) := by decide +kernel
theorem dL_law_2377 : decode cL_law 2377 = .ok (.goto 136, 3) := by decide +kernel
theorem dL_law_2380 : decode cL_law 2380 = .ok (.aload_n 1, 1) := by decide +kernel
theorem dL_law_2381 : decode cL_law 2381 = .ok (.aload_n 0, 1) := by decide +kernel
theorem dL_law_2382 : decode cL_law 2382 = .ok (.iload 4, 2) := by decide +kernel
theorem dL_law_2384 : decode cL_law 2384 = .ok (.iconst 1, 1) := by decide +kernel
theorem dL_law_2385 : decode cL_law 2385 = .ok (.iadd, 1) := by decide +kernel
theorem dL_law_2386 : decode cL_law 2386 = .ok (.iaload, 1) := by decide +kernel
theorem dL_law_2387 : decode cL_law 2387 = .ok (.aload_n 0, 1) := by decide +kernel
theorem dL_law_2388 : decode cL_law 2388 = .ok (.iload 4, 2) := by decide +kernel
theorem dL_law_2390 : decode cL_law 2390 = .ok (.iconst 2, 1) := by decide +kernel
theorem dL_law_2391 : decode cL_law 2391 = .ok (.iadd, 1) := by decide +kernel
theorem dL_law_2392 : decode cL_law 2392 = .ok (.iaload, 1) := by decide +kernel
theorem dL_law_2393 : decode cL_law 2393 = .ok (.ifCond .eq 7, 3) := by decide +kernel
theorem dL_law_2396 : decode cL_law 2396 = .ok (.iconst 1, 1) := by decide +kernel
theorem dL_law_2397 : decode cL_law 2397 = .ok (.goto 4, 3) := by decide +kernel
theorem dL_law_2400 : decode cL_law 2400 = .ok (.iconst 0, 1) := by decide +kernel
theorem dL_law_2401 : decode cL_law 2401 = .ok (.aload_n 3, 1) := by decide +kernel
theorem dL_law_2402 : decode cL_law 2402 = .ok (.invokestatic 245, 3) := by decide +kernel
theorem dL_law_2405 : decode cL_law 2405 = .ok (.istore 5, 2) := by decide +kernel
theorem dL_law_2407 : decode cL_law 2407 = .ok (.aload_n 2, 1) := by decide +kernel
theorem dL_law_2408 : decode cL_law 2408 = .ok (.aload_n 0, 1) := by decide +kernel
theorem dL_law_2409 : decode cL_law 2409 = .ok (.iload 4, 2) := by decide +kernel
theorem dL_law_2411 : decode cL_law 2411 = .ok (.iconst 1, 1) := by decide +kernel
theorem dL_law_2412 : decode cL_law 2412 = .ok (.iadd, 1) := by decide +kernel
theorem dL_law_2413 : decode cL_law 2413 = .ok (.iaload, 1) := by decide +kernel
theorem dL_law_2414 : decode cL_law 2414 = .ok (.aload_n 0, 1) := by decide +kernel
theorem dL_law_2415 : decode cL_law 2415 = .ok (.iload 4, 2) := by decide +kernel
theorem dL_law_2417 : decode cL_law 2417 = .ok (.iconst 2, 1) := by decide +kernel
theorem dL_law_2418 : decode cL_law 2418 = .ok (.iadd, 1) := by decide +kernel
theorem dL_law_2419 : decode cL_law 2419 = .ok (.iaload, 1) := by decide +kernel
theorem dL_law_2420 : decode cL_law 2420 = .ok (.ifCond .eq 7, 3) := by decide +kernel
theorem dL_law_2423 : decode cL_law 2423 = .ok (.iconst 1, 1) := by decide +kernel
theorem dL_law_2424 : decode cL_law 2424 = .ok (.goto 4, 3) := by decide +kernel
theorem dL_law_2427 : decode cL_law 2427 = .ok (.iconst 0, 1) := by decide +kernel
theorem dL_law_2428 : decode cL_law 2428 = .ok (.invokevirtual 247, 3) := by decide +kernel
theorem dL_law_2431 : decode cL_law 2431 = .ok (.istore 6, 2) := by decide +kernel
theorem dL_law_2433 : decode cL_law 2433 = .ok (.aload_n 2, 1) := by decide +kernel
theorem dL_law_2434 : decode cL_law 2434 = .ok (.invokevirtual 141, 3) := by decide +kernel
theorem dL_law_2437 : decode cL_law 2437 = .ok (.iload 5, 2) := by decide +kernel
theorem dL_law_2439 : decode cL_law 2439 = .ok (.if_icmp .eq 5, 3) := by decide +kernel
theorem dL_law_2444 : decode cL_law 2444 = .ok (.iload 5, 2) := by decide +kernel
theorem dL_law_2446 : decode cL_law 2446 = .ok (.ifCond .ne 15, 3) := by decide +kernel
theorem dL_law_2449 : decode cL_law 2449 = .ok (.aload_n 3, 1) := by decide +kernel
theorem dL_law_2450 : decode cL_law 2450 = .ok (.iconst 0, 1) := by decide +kernel
theorem dL_law_2451 : decode cL_law 2451 = .ok (.laload, 1) := by decide +kernel
theorem dL_law_2452 : decode cL_law 2452 = .ok (.iload 6, 2) := by decide +kernel
theorem dL_law_2454 : decode cL_law 2454 = .ok (.i2l, 1) := by decide +kernel
theorem dL_law_2455 : decode cL_law 2455 = .ok (.lcmp, 1) := by decide +kernel
theorem dL_law_2456 : decode cL_law 2456 = .ok (.ifCond .eq 5, 3) := by decide +kernel
theorem dL_law_2461 : decode cL_law 2461 = .ok (.goto 52, 3) := by decide +kernel
theorem dL_law_2464 : decode cL_law 2464 = .ok (.aload_n 1, 1) := by decide +kernel
theorem dL_law_2465 : decode cL_law 2465 = .ok (.invokevirtual 248, 3) := by decide +kernel
theorem dL_law_2468 : decode cL_law 2468 = .ok (.aload_n 2, 1) := by decide +kernel
theorem dL_law_2469 : decode cL_law 2469 = .ok (.invokevirtual 251, 3) := by decide +kernel
theorem dL_law_2472 : decode cL_law 2472 = .ok (.goto 41, 3) := by decide +kernel
theorem dL_law_2475 : decode cL_law 2475 = .ok (.aload_n 1, 1) := by decide +kernel
theorem dL_law_2476 : decode cL_law 2476 = .ok (.invokevirtual 252, 3) := by decide +kernel
theorem dL_law_2479 : decode cL_law 2479 = .ok (.aload_n 2, 1) := by decide +kernel
theorem dL_law_2480 : decode cL_law 2480 = .ok (.invokevirtual 255, 3) := by decide +kernel
theorem dL_law_2483 : decode cL_law 2483 = .ok (.if_icmp .eq 30, 3) := by decide +kernel
theorem dL_law_2488 : decode cL_law 2488 = .ok (.aload_n 1, 1) := by decide +kernel
theorem dL_law_2489 : decode cL_law 2489 = .ok (.aload_n 0, 1) := by decide +kernel
theorem dL_law_2490 : decode cL_law 2490 = .ok (.iload 4, 2) := by decide +kernel
theorem dL_law_2492 : decode cL_law 2492 = .ok (.iconst 1, 1) := by decide +kernel
theorem dL_law_2493 : decode cL_law 2493 = .ok (.iadd, 1) := by decide +kernel
theorem dL_law_2494 : decode cL_law 2494 = .ok (.iaload, 1) := by decide +kernel
theorem dL_law_2495 : decode cL_law 2495 = .ok (.invokevirtual 256, 3) := by decide +kernel
theorem dL_law_2498 : decode cL_law 2498 = .ok (.aload_n 2, 1) := by decide +kernel
theorem dL_law_2499 : decode cL_law 2499 = .ok (.aload_n 0, 1) := by decide +kernel
theorem dL_law_2500 : decode cL_law 2500 = .ok (.iload 4, 2) := by decide +kernel
theorem dL_law_2502 : decode cL_law 2502 = .ok (.iconst 1, 1) := by decide +kernel
theorem dL_law_2503 : decode cL_law 2503 = .ok (.iadd, 1) := by decide +kernel
theorem dL_law_2504 : decode cL_law 2504 = .ok (.iaload, 1) := by decide +kernel
theorem dL_law_2505 : decode cL_law 2505 = .ok (.invokevirtual 259, 3) := by decide +kernel
theorem dL_law_2508 : decode cL_law 2508 = .ok (.if_icmp .eq 5, 3) := by decide +kernel
set_option maxHeartbeats 1000000 in
theorem lc0 {Γ : jg_G} {X : Nat × (Nat → Int32)} {Q : jg_Q} {a b : Nat} {g : Nat → jg_C} {f : Nat → Int64} (F i : Nat) (τ : cT) (n : Nat) (c : cS) (s : rs_S) (hI : LI τ n) (hi : i + 9 ≤ X.1) (hX : X.1 ≤ 4608) {x : Int32 × cS} {y : Int32 × rs_S} (h1 : o_X11_feed F τ n 0 c (X.2 (i + 1)) (X.2 (i + 2)) (X.2 (i + 3)) (X.2 (i + 4)) (X.2 (i + 5)) = some x) (h2 : o_X12_feed F s (X.2 (i + 1)) (X.2 (i + 2)) (X.2 (i + 3)) (X.2 (i + 4)) (X.2 (i + 5)) = some y) (h4 : y.1 = x.1) (K : jh Γ mL_law ([], X) 100 a b 2513 (LL i) [] (lh g f τ x.2 y.2 n) Q) : jh Γ mL_law ([], X) 100 a b 204 (LL i) [] (lh g f τ c s n) Q := by
  refine jh_aload_n dL_law_204 rfl ?_
  refine jh_arg (i := i) (j := 1) dL_law_205 dL_law_206 dL_law_208 (by decide) dL_law_209 dL_law_210 rfl rfl (by omega) hX ?_
  refine jh_arg (i := i) (j := 2) dL_law_211 dL_law_212 dL_law_214 (by decide) dL_law_215 dL_law_216 rfl rfl (by omega) hX ?_
  refine jh_arg (i := i) (j := 3) dL_law_217 dL_law_218 dL_law_220 (by decide) dL_law_221 dL_law_222 rfl rfl (by omega) hX ?_
  refine jh_arg (i := i) (j := 4) dL_law_223 dL_law_224 dL_law_226 (by decide) dL_law_227 dL_law_228 rfl rfl (by omega) hX ?_
  refine jh_arg (i := i) (j := 5) dL_law_229 dL_law_230 dL_law_232 (by decide) dL_law_233 dL_law_234 rfl rfl (by omega) hX ?_
  refine jh_cls (As := [.int (X.2 (i + 1)), .int (X.2 (i + 2)), .int (X.2 (i + 3)), .int (X.2 (i + 4)), .int (X.2 (i + 5))]) (a' := 0) (b' := 0) hI kv_L_125 dL_law_235 rfl rfl (by decide) (Nat.le_of_ble_eq_true rfl) rfl (by decide) (Nat.zero_le _) (Nat.zero_le _) (Nat.le_of_ble_eq_true rfl) (fun g9 => t_X11_feed F τ n 0 c (X.2 (i + 1)) (X.2 (i + 2)) (X.2 (i + 3)) (X.2 (i + 4)) (X.2 (i + 5)) hI.1 h1) ?_
  refine jh_aload_n dL_law_238 rfl ?_
  refine jh_arg (i := i) (j := 1) dL_law_239 dL_law_240 dL_law_242 (by decide) dL_law_243 dL_law_244 rfl rfl (by omega) hX ?_
  refine jh_arg (i := i) (j := 2) dL_law_245 dL_law_246 dL_law_248 (by decide) dL_law_249 dL_law_250 rfl rfl (by omega) hX ?_
  refine jh_arg (i := i) (j := 3) dL_law_251 dL_law_252 dL_law_254 (by decide) dL_law_255 dL_law_256 rfl rfl (by omega) hX ?_
  refine jh_arg (i := i) (j := 4) dL_law_257 dL_law_258 dL_law_260 (by decide) dL_law_261 dL_law_262 rfl rfl (by omega) hX ?_
  refine jh_arg (i := i) (j := 5) dL_law_263 dL_law_264 dL_law_266 (by decide) dL_law_267 dL_law_268 rfl rfl (by omega) hX ?_
  refine jh_ref (As := [.int (X.2 (i + 1)), .int (X.2 (i + 2)), .int (X.2 (i + 3)), .int (X.2 (i + 4)), .int (X.2 (i + 5))]) hI kv_L_129 dL_law_269 rfl rfl (by decide) (Nat.le_of_ble_eq_true rfl) rfl (by decide) (Nat.le_of_ble_eq_true rfl) (fun g9 => t_X12_feed (by have := hI.2.1; omega) F s (X.2 (i + 1)) (X.2 (i + 2)) (X.2 (i + 3)) (X.2 (i + 4)) (X.2 (i + 5)) h2) ?_
  refine jh_icmp_eq (x := x.1) (y := y.1) (tgt := 2513) dL_law_272 (by decide) (fun _ => ?_) (fun e => absurd h4.symm e)
  exact K
set_option maxHeartbeats 1000000 in
theorem lc1 {Γ : jg_G} {X : Nat × (Nat → Int32)} {Q : jg_Q} {a b : Nat} {g : Nat → jg_C} {f : Nat → Int64} (F i : Nat) (τ : cT) (n : Nat) (c : cS) (s : rs_S) (hI : LI τ n) (hi : i + 9 ≤ X.1) (hX : X.1 ≤ 4608) {x : Int32 × cS} {y : Int32 × rs_S} (h1 : o_X11_end τ n 0 c (X.2 (i + 1)) = some x) (h2 : o_X12_end s (X.2 (i + 1)) = some y) (h4 : y.1 = x.1) (K : jh Γ mL_law ([], X) 100 a b 2513 (LL i) [] (lh g f τ x.2 y.2 n) Q) : jh Γ mL_law ([], X) 100 a b 277 (LL i) [] (lh g f τ c s n) Q := by
  refine jh_aload_n dL_law_277 rfl ?_
  refine jh_arg (i := i) (j := 1) dL_law_278 dL_law_279 dL_law_281 (by decide) dL_law_282 dL_law_283 rfl rfl (by omega) hX ?_
  refine jh_cls (As := [.int (X.2 (i + 1))]) (a' := 0) (b' := 0) hI kv_L_130 dL_law_284 rfl rfl (by decide) (Nat.le_of_ble_eq_true rfl) rfl (by decide) (Nat.zero_le _) (Nat.zero_le _) (Nat.le_of_ble_eq_true rfl) (fun g9 => t_X11_end τ n 0 c (X.2 (i + 1)) hI.1 h1) ?_
  refine jh_aload_n dL_law_287 rfl ?_
  refine jh_arg (i := i) (j := 1) dL_law_288 dL_law_289 dL_law_291 (by decide) dL_law_292 dL_law_293 rfl rfl (by omega) hX ?_
  refine jh_ref (As := [.int (X.2 (i + 1))]) hI kv_L_134 dL_law_294 rfl rfl (by decide) (Nat.le_of_ble_eq_true rfl) rfl (by decide) (Nat.le_of_ble_eq_true rfl) (fun g9 => t_X12_end (by have := hI.2.1; omega) s (X.2 (i + 1)) h2) ?_
  refine jh_icmp_eq (x := x.1) (y := y.1) (tgt := 2513) dL_law_297 (by decide) (fun _ => ?_) (fun e => absurd h4.symm e)
  exact K
set_option maxHeartbeats 2000000 in
theorem lc2 {Γ : jg_G} {X : Nat × (Nat → Int32)} {Q : jg_Q} {a b : Nat} {g : Nat → jg_C} {f : Nat → Int64} (F i : Nat) (τ : cT) (n : Nat) (c : cS) (s : rs_S) (hI : LI τ n) (hi : i + 9 ≤ X.1) (hX : X.1 ≤ 4608) (ha : 0 ≤ a) (hb : 0 ≤ b) {x : cS} {y : rs_S} (h1 : o_X11_river F τ n 0 c (X.2 (i + 1)) (X.2 (i + 2)) (X.2 (i + 3)) (X.2 (i + 4)) = some (.inl x)) (h2 : o_X12_river F s (X.2 (i + 1)) (X.2 (i + 2)) (X.2 (i + 3)) (X.2 (i + 4)) = some y) (h3 : y.1 0 = nI 0) (K : jh Γ mL_law ([], X) 100 (a - 0) (b - 0) 2513 (LL i) [] (lh g f τ x y n) Q) : jh Γ mL_law ([], X) 100 a b 302 (LL i) [] (lh g f τ c s n) Q := by
  refine jh_aload_n dL_law_302 rfl ?_
  refine jh_arg (i := i) (j := 1) dL_law_303 dL_law_304 dL_law_306 (by decide) dL_law_307 dL_law_308 rfl rfl (by omega) hX ?_
  refine jh_arg (i := i) (j := 2) dL_law_309 dL_law_310 dL_law_312 (by decide) dL_law_313 dL_law_314 rfl rfl (by omega) hX ?_
  refine jh_arg (i := i) (j := 3) dL_law_315 dL_law_316 dL_law_318 (by decide) dL_law_319 dL_law_320 rfl rfl (by omega) hX ?_
  refine jh_arg (i := i) (j := 4) dL_law_321 dL_law_322 dL_law_324 (by decide) dL_law_325 dL_law_326 rfl rfl (by omega) hX ?_
  refine jh_wrp (As := [.ref 0, .int (X.2 (i + 1)), .int (X.2 (i + 2)), .int (X.2 (i + 3)), .int (X.2 (i + 4))]) (a' := 0) (b' := 0) kL_river dL_law_327 rfl (by decide) (Nat.le_of_ble_eq_true rfl) rfl (by decide) ha hb (Nat.le_of_ble_eq_true rfl) (w_river F τ n c (X.2 (i + 1)) (X.2 (i + 2)) (X.2 (i + 3)) (X.2 (i + 4)) hI.1 h1) ?_
  refine jh_hs (S' := [.int (nI 0)]) (h' := lh g f τ x s n) rfl rfl ?_
  refine jh_istore (L' := LN i (nI 0)) dL_law_330 (by decide) rfl ?_
  refine jh_aload_n dL_law_332 rfl ?_
  refine jh_arg (i := i) (j := 1) dL_law_333 dL_law_334 dL_law_336 (by decide) dL_law_337 dL_law_338 rfl rfl (by omega) hX ?_
  refine jh_arg (i := i) (j := 2) dL_law_339 dL_law_340 dL_law_342 (by decide) dL_law_343 dL_law_344 rfl rfl (by omega) hX ?_
  refine jh_arg (i := i) (j := 3) dL_law_345 dL_law_346 dL_law_348 (by decide) dL_law_349 dL_law_350 rfl rfl (by omega) hX ?_
  refine jh_arg (i := i) (j := 4) dL_law_351 dL_law_352 dL_law_354 (by decide) dL_law_355 dL_law_356 rfl rfl (by omega) hX ?_
  refine jh_ref (As := [.int (X.2 (i + 1)), .int (X.2 (i + 2)), .int (X.2 (i + 3)), .int (X.2 (i + 4))]) hI kv_L_140 dL_law_357 rfl rfl (by decide) (Nat.le_of_ble_eq_true rfl) rfl (by decide) (Nat.le_of_ble_eq_true rfl) (fun g9 => t_X12_river (by have := hI.2.1; omega) F s (X.2 (i + 1)) (X.2 (i + 2)) (X.2 (i + 3)) (X.2 (i + 4)) h2) ?_
  refine jh_aload_n dL_law_360 rfl ?_
  refine jh_ref (As := []) hI kv_L_141 dL_law_361 rfl rfl (by decide) (Nat.le_of_ble_eq_true rfl) rfl (by decide) (Nat.le_of_ble_eq_true rfl) (fun g9 => t_X12_thrown (by have := hI.2.1; omega) y (x := nI 0) (by rw [o_X12_thrown, h3])) ?_
  refine jh_iload dL_law_364 rfl ?_
  refine jh_icmp_eq (x := nI 0) (y := nI 0) (tgt := 371) dL_law_366 (by decide) (fun _ => ?_) (fun e => absurd rfl e)
  refine jh_goto (tgt := 2513) dL_law_371 (by decide) ?_
  refine jh_fg (L' := LL i) (by repeat (first | exact trivial | refine ⟨rfl, ?_⟩ | show jg_le _ _)) ?_
  exact K
set_option maxHeartbeats 2000000 in
theorem lc2x0 {Γ : jg_G} {X : Nat × (Nat → Int32)} {Q : jg_Q} {a b : Nat} {g : Nat → jg_C} {f : Nat → Int64} (F i : Nat) (τ : cT) (n : Nat) (c : cS) (s : rs_S) (hI : LI τ n) (hi : i + 9 ≤ X.1) (hX : X.1 ≤ 4608) (ha : 1 ≤ a) (hb : 6 ≤ b) (hn : n < 1000000) {z : cS} {y : rs_S} (h1 : o_X11_river F τ n 0 c (X.2 (i + 1)) (X.2 (i + 2)) (X.2 (i + 3)) (X.2 (i + 4)) = some (.inr (0, z))) (hI2 : LI τ (n + 1)) (h2 : o_X12_river F s (X.2 (i + 1)) (X.2 (i + 2)) (X.2 (i + 3)) (X.2 (i + 4)) = some y) (h3 : y.1 0 = nI 1) (K : jh Γ mL_law ([], X) 100 (a - 1) (b - 6) 2513 (LL i) [] (lh (gx g n) f τ z y (n + 1)) Q) : jh Γ mL_law ([], X) 100 a b 302 (LL i) [] (lh g f τ c s n) Q := by
  refine jh_aload_n dL_law_302 rfl ?_
  refine jh_arg (i := i) (j := 1) dL_law_303 dL_law_304 dL_law_306 (by decide) dL_law_307 dL_law_308 rfl rfl (by omega) hX ?_
  refine jh_arg (i := i) (j := 2) dL_law_309 dL_law_310 dL_law_312 (by decide) dL_law_313 dL_law_314 rfl rfl (by omega) hX ?_
  refine jh_arg (i := i) (j := 3) dL_law_315 dL_law_316 dL_law_318 (by decide) dL_law_319 dL_law_320 rfl rfl (by omega) hX ?_
  refine jh_arg (i := i) (j := 4) dL_law_321 dL_law_322 dL_law_324 (by decide) dL_law_325 dL_law_326 rfl rfl (by omega) hX ?_
  refine jh_wrp (As := [.ref 0, .int (X.2 (i + 1)), .int (X.2 (i + 2)), .int (X.2 (i + 3)), .int (X.2 (i + 4))]) (a' := 1) (b' := 6) kL_river dL_law_327 rfl (by decide) (Nat.le_of_ble_eq_true rfl) rfl (by decide) ha hb (Nat.le_of_ble_eq_true rfl) (w_river_x0 F τ n c (X.2 (i + 1)) (X.2 (i + 2)) (X.2 (i + 3)) (X.2 (i + 4)) hI.1 hn (hI.2.2.1 n (Nat.le_refl _)) h1) ?_
  refine jh_hs (S' := [.int (nI 1)]) (h' := lh (gx g n) f τ z s (n + 1)) rfl (lh_gx (by have := hI.2.1; have := nQ_le (n := n) (q := none); omega)) ?_
  refine jh_istore (L' := LN i (nI 1)) dL_law_330 (by decide) rfl ?_
  refine jh_aload_n dL_law_332 rfl ?_
  refine jh_arg (i := i) (j := 1) dL_law_333 dL_law_334 dL_law_336 (by decide) dL_law_337 dL_law_338 rfl rfl (by omega) hX ?_
  refine jh_arg (i := i) (j := 2) dL_law_339 dL_law_340 dL_law_342 (by decide) dL_law_343 dL_law_344 rfl rfl (by omega) hX ?_
  refine jh_arg (i := i) (j := 3) dL_law_345 dL_law_346 dL_law_348 (by decide) dL_law_349 dL_law_350 rfl rfl (by omega) hX ?_
  refine jh_arg (i := i) (j := 4) dL_law_351 dL_law_352 dL_law_354 (by decide) dL_law_355 dL_law_356 rfl rfl (by omega) hX ?_
  refine jh_ref (As := [.int (X.2 (i + 1)), .int (X.2 (i + 2)), .int (X.2 (i + 3)), .int (X.2 (i + 4))]) hI2 kv_L_140 dL_law_357 rfl rfl (by decide) (Nat.le_of_ble_eq_true rfl) rfl (by decide) (Nat.le_of_ble_eq_true rfl) (fun g9 => t_X12_river (by have := hI2.2.1; omega) F s (X.2 (i + 1)) (X.2 (i + 2)) (X.2 (i + 3)) (X.2 (i + 4)) h2) ?_
  refine jh_aload_n dL_law_360 rfl ?_
  refine jh_ref (As := []) hI2 kv_L_141 dL_law_361 rfl rfl (by decide) (Nat.le_of_ble_eq_true rfl) rfl (by decide) (Nat.le_of_ble_eq_true rfl) (fun g9 => t_X12_thrown (by have := hI2.2.1; omega) y (x := nI 1) (by rw [o_X12_thrown, h3])) ?_
  refine jh_iload dL_law_364 rfl ?_
  refine jh_icmp_eq (x := nI 1) (y := nI 1) (tgt := 371) dL_law_366 (by decide) (fun _ => ?_) (fun e => absurd rfl e)
  refine jh_goto (tgt := 2513) dL_law_371 (by decide) ?_
  refine jh_fg (L' := LL i) (by repeat (first | exact trivial | refine ⟨rfl, ?_⟩ | show jg_le _ _)) ?_
  exact K
set_option maxHeartbeats 2000000 in
theorem lc2x1 {Γ : jg_G} {X : Nat × (Nat → Int32)} {Q : jg_Q} {a b : Nat} {g : Nat → jg_C} {f : Nat → Int64} (F i : Nat) (τ : cT) (n : Nat) (c : cS) (s : rs_S) (hI : LI τ n) (hi : i + 9 ≤ X.1) (hX : X.1 ≤ 4608) (ha : 1 ≤ a) (hb : 6 ≤ b) (hn : n < 1000000) {z : cS} {y : rs_S} (h1 : o_X11_river F τ n 0 c (X.2 (i + 1)) (X.2 (i + 2)) (X.2 (i + 3)) (X.2 (i + 4)) = some (.inr (1, z))) (hI2 : LI τ (n + 1)) (h2 : o_X12_river F s (X.2 (i + 1)) (X.2 (i + 2)) (X.2 (i + 3)) (X.2 (i + 4)) = some y) (h3 : y.1 0 = nI 2) (K : jh Γ mL_law ([], X) 100 (a - 1) (b - 6) 2513 (LL i) [] (lh (gx g n) f τ z y (n + 1)) Q) : jh Γ mL_law ([], X) 100 a b 302 (LL i) [] (lh g f τ c s n) Q := by
  refine jh_aload_n dL_law_302 rfl ?_
  refine jh_arg (i := i) (j := 1) dL_law_303 dL_law_304 dL_law_306 (by decide) dL_law_307 dL_law_308 rfl rfl (by omega) hX ?_
  refine jh_arg (i := i) (j := 2) dL_law_309 dL_law_310 dL_law_312 (by decide) dL_law_313 dL_law_314 rfl rfl (by omega) hX ?_
  refine jh_arg (i := i) (j := 3) dL_law_315 dL_law_316 dL_law_318 (by decide) dL_law_319 dL_law_320 rfl rfl (by omega) hX ?_
  refine jh_arg (i := i) (j := 4) dL_law_321 dL_law_322 dL_law_324 (by decide) dL_law_325 dL_law_326 rfl rfl (by omega) hX ?_
  refine jh_wrp (As := [.ref 0, .int (X.2 (i + 1)), .int (X.2 (i + 2)), .int (X.2 (i + 3)), .int (X.2 (i + 4))]) (a' := 1) (b' := 6) kL_river dL_law_327 rfl (by decide) (Nat.le_of_ble_eq_true rfl) rfl (by decide) ha hb (Nat.le_of_ble_eq_true rfl) (w_river_x1 F τ n c (X.2 (i + 1)) (X.2 (i + 2)) (X.2 (i + 3)) (X.2 (i + 4)) hI.1 hn (hI.2.2.1 n (Nat.le_refl _)) h1) ?_
  refine jh_hs (S' := [.int (nI 2)]) (h' := lh (gx g n) f τ z s (n + 1)) rfl (lh_gx (by have := hI.2.1; have := nQ_le (n := n) (q := none); omega)) ?_
  refine jh_istore (L' := LN i (nI 2)) dL_law_330 (by decide) rfl ?_
  refine jh_aload_n dL_law_332 rfl ?_
  refine jh_arg (i := i) (j := 1) dL_law_333 dL_law_334 dL_law_336 (by decide) dL_law_337 dL_law_338 rfl rfl (by omega) hX ?_
  refine jh_arg (i := i) (j := 2) dL_law_339 dL_law_340 dL_law_342 (by decide) dL_law_343 dL_law_344 rfl rfl (by omega) hX ?_
  refine jh_arg (i := i) (j := 3) dL_law_345 dL_law_346 dL_law_348 (by decide) dL_law_349 dL_law_350 rfl rfl (by omega) hX ?_
  refine jh_arg (i := i) (j := 4) dL_law_351 dL_law_352 dL_law_354 (by decide) dL_law_355 dL_law_356 rfl rfl (by omega) hX ?_
  refine jh_ref (As := [.int (X.2 (i + 1)), .int (X.2 (i + 2)), .int (X.2 (i + 3)), .int (X.2 (i + 4))]) hI2 kv_L_140 dL_law_357 rfl rfl (by decide) (Nat.le_of_ble_eq_true rfl) rfl (by decide) (Nat.le_of_ble_eq_true rfl) (fun g9 => t_X12_river (by have := hI2.2.1; omega) F s (X.2 (i + 1)) (X.2 (i + 2)) (X.2 (i + 3)) (X.2 (i + 4)) h2) ?_
  refine jh_aload_n dL_law_360 rfl ?_
  refine jh_ref (As := []) hI2 kv_L_141 dL_law_361 rfl rfl (by decide) (Nat.le_of_ble_eq_true rfl) rfl (by decide) (Nat.le_of_ble_eq_true rfl) (fun g9 => t_X12_thrown (by have := hI2.2.1; omega) y (x := nI 2) (by rw [o_X12_thrown, h3])) ?_
  refine jh_iload dL_law_364 rfl ?_
  refine jh_icmp_eq (x := nI 2) (y := nI 2) (tgt := 371) dL_law_366 (by decide) (fun _ => ?_) (fun e => absurd rfl e)
  refine jh_goto (tgt := 2513) dL_law_371 (by decide) ?_
  refine jh_fg (L' := LL i) (by repeat (first | exact trivial | refine ⟨rfl, ?_⟩ | show jg_le _ _)) ?_
  exact K
set_option maxHeartbeats 2000000 in
theorem lc2x2 {Γ : jg_G} {X : Nat × (Nat → Int32)} {Q : jg_Q} {a b : Nat} {g : Nat → jg_C} {f : Nat → Int64} (F i : Nat) (τ : cT) (n : Nat) (c : cS) (s : rs_S) (hI : LI τ n) (hi : i + 9 ≤ X.1) (hX : X.1 ≤ 4608) (ha : 1 ≤ a) (hb : 6 ≤ b) (hn : n < 1000000) {z : cS} {y : rs_S} (h1 : o_X11_river F τ n 0 c (X.2 (i + 1)) (X.2 (i + 2)) (X.2 (i + 3)) (X.2 (i + 4)) = some (.inr (2, z))) (hI2 : LI τ (n + 1)) (h2 : o_X12_river F s (X.2 (i + 1)) (X.2 (i + 2)) (X.2 (i + 3)) (X.2 (i + 4)) = some y) (h3 : y.1 0 = nI 3) (K : jh Γ mL_law ([], X) 100 (a - 1) (b - 6) 2513 (LL i) [] (lh (gx g n) f τ z y (n + 1)) Q) : jh Γ mL_law ([], X) 100 a b 302 (LL i) [] (lh g f τ c s n) Q := by
  refine jh_aload_n dL_law_302 rfl ?_
  refine jh_arg (i := i) (j := 1) dL_law_303 dL_law_304 dL_law_306 (by decide) dL_law_307 dL_law_308 rfl rfl (by omega) hX ?_
  refine jh_arg (i := i) (j := 2) dL_law_309 dL_law_310 dL_law_312 (by decide) dL_law_313 dL_law_314 rfl rfl (by omega) hX ?_
  refine jh_arg (i := i) (j := 3) dL_law_315 dL_law_316 dL_law_318 (by decide) dL_law_319 dL_law_320 rfl rfl (by omega) hX ?_
  refine jh_arg (i := i) (j := 4) dL_law_321 dL_law_322 dL_law_324 (by decide) dL_law_325 dL_law_326 rfl rfl (by omega) hX ?_
  refine jh_wrp (As := [.ref 0, .int (X.2 (i + 1)), .int (X.2 (i + 2)), .int (X.2 (i + 3)), .int (X.2 (i + 4))]) (a' := 1) (b' := 6) kL_river dL_law_327 rfl (by decide) (Nat.le_of_ble_eq_true rfl) rfl (by decide) ha hb (Nat.le_of_ble_eq_true rfl) (w_river_x2 F τ n c (X.2 (i + 1)) (X.2 (i + 2)) (X.2 (i + 3)) (X.2 (i + 4)) hI.1 hn (hI.2.2.1 n (Nat.le_refl _)) h1) ?_
  refine jh_hs (S' := [.int (nI 3)]) (h' := lh (gx g n) f τ z s (n + 1)) rfl (lh_gx (by have := hI.2.1; have := nQ_le (n := n) (q := none); omega)) ?_
  refine jh_istore (L' := LN i (nI 3)) dL_law_330 (by decide) rfl ?_
  refine jh_aload_n dL_law_332 rfl ?_
  refine jh_arg (i := i) (j := 1) dL_law_333 dL_law_334 dL_law_336 (by decide) dL_law_337 dL_law_338 rfl rfl (by omega) hX ?_
  refine jh_arg (i := i) (j := 2) dL_law_339 dL_law_340 dL_law_342 (by decide) dL_law_343 dL_law_344 rfl rfl (by omega) hX ?_
  refine jh_arg (i := i) (j := 3) dL_law_345 dL_law_346 dL_law_348 (by decide) dL_law_349 dL_law_350 rfl rfl (by omega) hX ?_
  refine jh_arg (i := i) (j := 4) dL_law_351 dL_law_352 dL_law_354 (by decide) dL_law_355 dL_law_356 rfl rfl (by omega) hX ?_
  refine jh_ref (As := [.int (X.2 (i + 1)), .int (X.2 (i + 2)), .int (X.2 (i + 3)), .int (X.2 (i + 4))]) hI2 kv_L_140 dL_law_357 rfl rfl (by decide) (Nat.le_of_ble_eq_true rfl) rfl (by decide) (Nat.le_of_ble_eq_true rfl) (fun g9 => t_X12_river (by have := hI2.2.1; omega) F s (X.2 (i + 1)) (X.2 (i + 2)) (X.2 (i + 3)) (X.2 (i + 4)) h2) ?_
  refine jh_aload_n dL_law_360 rfl ?_
  refine jh_ref (As := []) hI2 kv_L_141 dL_law_361 rfl rfl (by decide) (Nat.le_of_ble_eq_true rfl) rfl (by decide) (Nat.le_of_ble_eq_true rfl) (fun g9 => t_X12_thrown (by have := hI2.2.1; omega) y (x := nI 3) (by rw [o_X12_thrown, h3])) ?_
  refine jh_iload dL_law_364 rfl ?_
  refine jh_icmp_eq (x := nI 3) (y := nI 3) (tgt := 371) dL_law_366 (by decide) (fun _ => ?_) (fun e => absurd rfl e)
  refine jh_goto (tgt := 2513) dL_law_371 (by decide) ?_
  refine jh_fg (L' := LL i) (by repeat (first | exact trivial | refine ⟨rfl, ?_⟩ | show jg_le _ _)) ?_
  exact K
set_option maxHeartbeats 2000000 in
theorem lc3 {Γ : jg_G} {X : Nat × (Nat → Int32)} {Q : jg_Q} {a b : Nat} {g : Nat → jg_C} {f : Nat → Int64} (F i : Nat) (τ : cT) (n : Nat) (c : cS) (s : rs_S) (hI : LI τ n) (hi : i + 9 ≤ X.1) (hX : X.1 ≤ 4608) (ha : 0 ≤ a) (hb : 0 ≤ b) {x : cS} {y : rs_S} (h1 : o_X11_tide τ n 0 c (X.2 (i + 1)) (X.2 (i + 2)) = some (.inl x)) (h2 : o_X12_tide s (X.2 (i + 1)) (X.2 (i + 2)) = some y) (h3 : y.1 0 = nI 0) (K : jh Γ mL_law ([], X) 100 (a - 0) (b - 0) 2513 (LL i) [] (lh g f τ x y n) Q) : jh Γ mL_law ([], X) 100 a b 374 (LL i) [] (lh g f τ c s n) Q := by
  refine jh_aload_n dL_law_374 rfl ?_
  refine jh_arg (i := i) (j := 1) dL_law_375 dL_law_376 dL_law_378 (by decide) dL_law_379 dL_law_380 rfl rfl (by omega) hX ?_
  refine jh_arg (i := i) (j := 2) dL_law_381 dL_law_382 dL_law_384 (by decide) dL_law_385 dL_law_386 rfl rfl (by omega) hX ?_
  refine jh_wrp (As := [.ref 0, .int (X.2 (i + 1)), .int (X.2 (i + 2))]) (a' := 0) (b' := 0) kL_tide dL_law_387 rfl (by decide) (Nat.le_of_ble_eq_true rfl) rfl (by decide) ha hb (Nat.le_of_ble_eq_true rfl) (w_tide τ n c (X.2 (i + 1)) (X.2 (i + 2)) hI.1 h1) ?_
  refine jh_hs (S' := [.int (nI 0)]) (h' := lh g f τ x s n) rfl rfl ?_
  refine jh_istore (L' := LN i (nI 0)) dL_law_390 (by decide) rfl ?_
  refine jh_aload_n dL_law_392 rfl ?_
  refine jh_arg (i := i) (j := 1) dL_law_393 dL_law_394 dL_law_396 (by decide) dL_law_397 dL_law_398 rfl rfl (by omega) hX ?_
  refine jh_arg (i := i) (j := 2) dL_law_399 dL_law_400 dL_law_402 (by decide) dL_law_403 dL_law_404 rfl rfl (by omega) hX ?_
  refine jh_ref (As := [.int (X.2 (i + 1)), .int (X.2 (i + 2))]) hI kv_L_147 dL_law_405 rfl rfl (by decide) (Nat.le_of_ble_eq_true rfl) rfl (by decide) (Nat.le_of_ble_eq_true rfl) (fun g9 => t_X12_tide (by have := hI.2.1; omega) s (X.2 (i + 1)) (X.2 (i + 2)) h2) ?_
  refine jh_aload_n dL_law_408 rfl ?_
  refine jh_ref (As := []) hI kv_L_141 dL_law_409 rfl rfl (by decide) (Nat.le_of_ble_eq_true rfl) rfl (by decide) (Nat.le_of_ble_eq_true rfl) (fun g9 => t_X12_thrown (by have := hI.2.1; omega) y (x := nI 0) (by rw [o_X12_thrown, h3])) ?_
  refine jh_iload dL_law_412 rfl ?_
  refine jh_icmp_eq (x := nI 0) (y := nI 0) (tgt := 419) dL_law_414 (by decide) (fun _ => ?_) (fun e => absurd rfl e)
  refine jh_goto (tgt := 2513) dL_law_419 (by decide) ?_
  refine jh_fg (L' := LL i) (by repeat (first | exact trivial | refine ⟨rfl, ?_⟩ | show jg_le _ _)) ?_
  exact K
set_option maxHeartbeats 2000000 in
theorem lc3x1 {Γ : jg_G} {X : Nat × (Nat → Int32)} {Q : jg_Q} {a b : Nat} {g : Nat → jg_C} {f : Nat → Int64} (F i : Nat) (τ : cT) (n : Nat) (c : cS) (s : rs_S) (hI : LI τ n) (hi : i + 9 ≤ X.1) (hX : X.1 ≤ 4608) (ha : 1 ≤ a) (hb : 6 ≤ b) (hn : n < 1000000) {z : cS} {y : rs_S} (h1 : o_X11_tide τ n 0 c (X.2 (i + 1)) (X.2 (i + 2)) = some (.inr (1, z))) (hI2 : LI τ (n + 1)) (h2 : o_X12_tide s (X.2 (i + 1)) (X.2 (i + 2)) = some y) (h3 : y.1 0 = nI 1) (K : jh Γ mL_law ([], X) 100 (a - 1) (b - 6) 2513 (LL i) [] (lh (gx g n) f τ z y (n + 1)) Q) : jh Γ mL_law ([], X) 100 a b 374 (LL i) [] (lh g f τ c s n) Q := by
  refine jh_aload_n dL_law_374 rfl ?_
  refine jh_arg (i := i) (j := 1) dL_law_375 dL_law_376 dL_law_378 (by decide) dL_law_379 dL_law_380 rfl rfl (by omega) hX ?_
  refine jh_arg (i := i) (j := 2) dL_law_381 dL_law_382 dL_law_384 (by decide) dL_law_385 dL_law_386 rfl rfl (by omega) hX ?_
  refine jh_wrp (As := [.ref 0, .int (X.2 (i + 1)), .int (X.2 (i + 2))]) (a' := 1) (b' := 6) kL_tide dL_law_387 rfl (by decide) (Nat.le_of_ble_eq_true rfl) rfl (by decide) ha hb (Nat.le_of_ble_eq_true rfl) (w_tide_x1 τ n c (X.2 (i + 1)) (X.2 (i + 2)) hI.1 hn (hI.2.2.1 n (Nat.le_refl _)) h1) ?_
  refine jh_hs (S' := [.int (nI 1)]) (h' := lh (gx g n) f τ z s (n + 1)) rfl (lh_gx (by have := hI.2.1; have := nQ_le (n := n) (q := none); omega)) ?_
  refine jh_istore (L' := LN i (nI 1)) dL_law_390 (by decide) rfl ?_
  refine jh_aload_n dL_law_392 rfl ?_
  refine jh_arg (i := i) (j := 1) dL_law_393 dL_law_394 dL_law_396 (by decide) dL_law_397 dL_law_398 rfl rfl (by omega) hX ?_
  refine jh_arg (i := i) (j := 2) dL_law_399 dL_law_400 dL_law_402 (by decide) dL_law_403 dL_law_404 rfl rfl (by omega) hX ?_
  refine jh_ref (As := [.int (X.2 (i + 1)), .int (X.2 (i + 2))]) hI2 kv_L_147 dL_law_405 rfl rfl (by decide) (Nat.le_of_ble_eq_true rfl) rfl (by decide) (Nat.le_of_ble_eq_true rfl) (fun g9 => t_X12_tide (by have := hI2.2.1; omega) s (X.2 (i + 1)) (X.2 (i + 2)) h2) ?_
  refine jh_aload_n dL_law_408 rfl ?_
  refine jh_ref (As := []) hI2 kv_L_141 dL_law_409 rfl rfl (by decide) (Nat.le_of_ble_eq_true rfl) rfl (by decide) (Nat.le_of_ble_eq_true rfl) (fun g9 => t_X12_thrown (by have := hI2.2.1; omega) y (x := nI 1) (by rw [o_X12_thrown, h3])) ?_
  refine jh_iload dL_law_412 rfl ?_
  refine jh_icmp_eq (x := nI 1) (y := nI 1) (tgt := 419) dL_law_414 (by decide) (fun _ => ?_) (fun e => absurd rfl e)
  refine jh_goto (tgt := 2513) dL_law_419 (by decide) ?_
  refine jh_fg (L' := LL i) (by repeat (first | exact trivial | refine ⟨rfl, ?_⟩ | show jg_le _ _)) ?_
  exact K
set_option maxHeartbeats 2000000 in
theorem lc4 {Γ : jg_G} {X : Nat × (Nat → Int32)} {Q : jg_Q} {a b : Nat} {g : Nat → jg_C} {f : Nat → Int64} (F i : Nat) (τ : cT) (n : Nat) (c : cS) (s : rs_S) (hI : LI τ n) (hi : i + 9 ≤ X.1) (hX : X.1 ≤ 4608) (ha : 0 ≤ a) (hb : 0 ≤ b) {x : Int32 × cS} {y : Int32 × rs_S} (h1 : o_X11_run τ n 0 c (X.2 (i + 1)) (X.2 (i + 2)) = some (.inl x)) (h2 : o_X12_run s (X.2 (i + 1)) (X.2 (i + 2)) = some y) (h3 : y.2.1 0 = nI 0) (h4 : y.1 = x.1) (K : jh Γ mL_law ([], X) 100 (a - 0) (b - 0) 2513 (LL i) [] (lh g (vp_updL f 0 (x.1.toInt64)) τ x.2 y.2 n) Q) : jh Γ mL_law ([], X) 100 a b 422 (LL i) [] (lh g f τ c s n) Q := by
  refine jh_aload_n dL_law_422 rfl ?_
  refine jh_arg (i := i) (j := 1) dL_law_423 dL_law_424 dL_law_426 (by decide) dL_law_427 dL_law_428 rfl rfl (by omega) hX ?_
  refine jh_arg (i := i) (j := 2) dL_law_429 dL_law_430 dL_law_432 (by decide) dL_law_433 dL_law_434 rfl rfl (by omega) hX ?_
  refine jh_aload_n dL_law_435 rfl ?_
  refine jh_wrp (As := [.ref 0, .int (X.2 (i + 1)), .int (X.2 (i + 2)), .ref 191]) (a' := 0) (b' := 0) kL_run dL_law_436 rfl (by decide) (Nat.le_of_ble_eq_true rfl) rfl (by decide) ha hb (Nat.le_of_ble_eq_true rfl) (w_run τ n c (X.2 (i + 1)) (X.2 (i + 2)) hI.1 lh_191 (hI.2.2.2 191 (by decide) (by decide)) (by have := hI.2.1; omega) h1) ?_
  refine jh_hs (S' := [.int (nI 0)]) (h' := lh g (vp_updL f 0 (x.1.toInt64)) τ x.2 s n) rfl lh_out ?_
  refine jh_istore (L' := LN i (nI 0)) dL_law_439 (by decide) rfl ?_
  refine jh_aload_n dL_law_441 rfl ?_
  refine jh_arg (i := i) (j := 1) dL_law_442 dL_law_443 dL_law_445 (by decide) dL_law_446 dL_law_447 rfl rfl (by omega) hX ?_
  refine jh_arg (i := i) (j := 2) dL_law_448 dL_law_449 dL_law_451 (by decide) dL_law_452 dL_law_453 rfl rfl (by omega) hX ?_
  refine jh_ref (As := [.int (X.2 (i + 1)), .int (X.2 (i + 2))]) hI kv_L_151 dL_law_454 rfl rfl (by decide) (Nat.le_of_ble_eq_true rfl) rfl (by decide) (Nat.le_of_ble_eq_true rfl) (fun g9 => t_X12_run (by have := hI.2.1; omega) s (X.2 (i + 1)) (X.2 (i + 2)) h2) ?_
  refine jh_istore (L' := LM i (nI 0) y.1) dL_law_457 (by decide) rfl ?_
  refine jh_aload_n dL_law_459 rfl ?_
  refine jh_ref (As := []) hI kv_L_141 dL_law_460 rfl rfl (by decide) (Nat.le_of_ble_eq_true rfl) rfl (by decide) (Nat.le_of_ble_eq_true rfl) (fun g9 => t_X12_thrown (by have := hI.2.1; omega) y.2 (x := nI 0) (by rw [o_X12_thrown, h3])) ?_
  refine jh_iload dL_law_463 rfl ?_
  refine jh_icmp_eq (x := nI 0) (y := nI 0) (tgt := 470) dL_law_465 (by decide) (fun _ => ?_) (fun e => absurd rfl e)
  refine jh_iload dL_law_470 rfl ?_
  refine jh_if_ne (x := nI 0) (tgt := 487) dL_law_472 (by decide) (fun e => absurd (by decide) e) (fun _ => ?_)
  refine jh_aload_n dL_law_475 rfl ?_
  refine jh_iconst (v := nI 0) dL_law_476 (by decide) ?_
  refine jh_lald (q := 191) (n := 1) (f := (vp_updL f 0 (x.1.toInt64))) (i := nI 0) dL_law_477 (by show 191 < n; have := hI.2.1; omega) ((ct_base (hI.2.2.2 191 (by decide) (by decide))).trans lh_191) (vp_iL (iL_t (by decide) (by decide))) ?_
  refine jh_iload dL_law_478 rfl ?_
  refine jh_i2l dL_law_480 ?_
  refine jh_lcmp dL_law_481 ?_
  refine jh_if_eq (tgt := 487) dL_law_482 (by decide) (fun _ => ?_) (fun e => absurd (by rw [h4]; exact lcmp_self _) e)
  refine jh_goto (tgt := 2513) dL_law_487 (by decide) ?_
  refine jh_fg (L' := LL i) (by repeat (first | exact trivial | refine ⟨rfl, ?_⟩ | show jg_le _ _)) ?_
  exact K
set_option maxHeartbeats 2000000 in
theorem lc4x1 {Γ : jg_G} {X : Nat × (Nat → Int32)} {Q : jg_Q} {a b : Nat} {g : Nat → jg_C} {f : Nat → Int64} (F i : Nat) (τ : cT) (n : Nat) (c : cS) (s : rs_S) (hI : LI τ n) (hi : i + 9 ≤ X.1) (hX : X.1 ≤ 4608) (ha : 1 ≤ a) (hb : 6 ≤ b) (hn : n < 1000000) {z : cS} {y : Int32 × rs_S} (h1 : o_X11_run τ n 0 c (X.2 (i + 1)) (X.2 (i + 2)) = some (.inr (1, z))) (hI2 : LI τ (n + 1)) (h2 : o_X12_run s (X.2 (i + 1)) (X.2 (i + 2)) = some y) (h3 : y.2.1 0 = nI 1) (K : jh Γ mL_law ([], X) 100 (a - 1) (b - 6) 2513 (LL i) [] (lh (gx g n) f τ z y.2 (n + 1)) Q) : jh Γ mL_law ([], X) 100 a b 422 (LL i) [] (lh g f τ c s n) Q := by
  refine jh_aload_n dL_law_422 rfl ?_
  refine jh_arg (i := i) (j := 1) dL_law_423 dL_law_424 dL_law_426 (by decide) dL_law_427 dL_law_428 rfl rfl (by omega) hX ?_
  refine jh_arg (i := i) (j := 2) dL_law_429 dL_law_430 dL_law_432 (by decide) dL_law_433 dL_law_434 rfl rfl (by omega) hX ?_
  refine jh_aload_n dL_law_435 rfl ?_
  refine jh_wrp (As := [.ref 0, .int (X.2 (i + 1)), .int (X.2 (i + 2)), .ref 191]) (a' := 1) (b' := 6) kL_run dL_law_436 rfl (by decide) (Nat.le_of_ble_eq_true rfl) rfl (by decide) ha hb (Nat.le_of_ble_eq_true rfl) (w_run_x1 τ n c (X.2 (i + 1)) (X.2 (i + 2)) hI.1 hn (hI.2.2.1 n (Nat.le_refl _)) h1) ?_
  refine jh_hs (S' := [.int (nI 1)]) (h' := lh (gx g n) f τ z s (n + 1)) rfl (lh_gx (by have := hI.2.1; have := nQ_le (n := n) (q := none); omega)) ?_
  refine jh_istore (L' := LN i (nI 1)) dL_law_439 (by decide) rfl ?_
  refine jh_aload_n dL_law_441 rfl ?_
  refine jh_arg (i := i) (j := 1) dL_law_442 dL_law_443 dL_law_445 (by decide) dL_law_446 dL_law_447 rfl rfl (by omega) hX ?_
  refine jh_arg (i := i) (j := 2) dL_law_448 dL_law_449 dL_law_451 (by decide) dL_law_452 dL_law_453 rfl rfl (by omega) hX ?_
  refine jh_ref (As := [.int (X.2 (i + 1)), .int (X.2 (i + 2))]) hI2 kv_L_151 dL_law_454 rfl rfl (by decide) (Nat.le_of_ble_eq_true rfl) rfl (by decide) (Nat.le_of_ble_eq_true rfl) (fun g9 => t_X12_run (by have := hI2.2.1; omega) s (X.2 (i + 1)) (X.2 (i + 2)) h2) ?_
  refine jh_istore (L' := LM i (nI 1) y.1) dL_law_457 (by decide) rfl ?_
  refine jh_aload_n dL_law_459 rfl ?_
  refine jh_ref (As := []) hI2 kv_L_141 dL_law_460 rfl rfl (by decide) (Nat.le_of_ble_eq_true rfl) rfl (by decide) (Nat.le_of_ble_eq_true rfl) (fun g9 => t_X12_thrown (by have := hI2.2.1; omega) y.2 (x := nI 1) (by rw [o_X12_thrown, h3])) ?_
  refine jh_iload dL_law_463 rfl ?_
  refine jh_icmp_eq (x := nI 1) (y := nI 1) (tgt := 470) dL_law_465 (by decide) (fun _ => ?_) (fun e => absurd rfl e)
  refine jh_iload dL_law_470 rfl ?_
  refine jh_if_ne (x := nI 1) (tgt := 487) dL_law_472 (by decide) (fun _ => ?_) (fun e => absurd e (by decide))
  refine jh_goto (tgt := 2513) dL_law_487 (by decide) ?_
  refine jh_fg (L' := LL i) (by repeat (first | exact trivial | refine ⟨rfl, ?_⟩ | show jg_le _ _)) ?_
  exact K
set_option maxHeartbeats 2000000 in
theorem lc5 {Γ : jg_G} {X : Nat × (Nat → Int32)} {Q : jg_Q} {a b : Nat} {g : Nat → jg_C} {f : Nat → Int64} (F i : Nat) (τ : cT) (n : Nat) (c : cS) (s : rs_S) (hI : LI τ n) (hi : i + 9 ≤ X.1) (hX : X.1 ≤ 4608) (ha : 0 ≤ a) (hb : 0 ≤ b) {x : Int32 × cS} {y : Int32 × rs_S} (h1 : o_X11_dredger τ n 0 c (X.2 (i + 1)) = some (.inl x)) (h2 : o_X12_dredger s (X.2 (i + 1)) = some y) (h3 : y.2.1 0 = nI 0) (h4 : y.1 = x.1) (K : jh Γ mL_law ([], X) 100 (a - 0) (b - 0) 2513 (LL i) [] (lh g (vp_updL f 0 (x.1.toInt64)) τ x.2 y.2 n) Q) : jh Γ mL_law ([], X) 100 a b 490 (LL i) [] (lh g f τ c s n) Q := by
  refine jh_aload_n dL_law_490 rfl ?_
  refine jh_arg (i := i) (j := 1) dL_law_491 dL_law_492 dL_law_494 (by decide) dL_law_495 dL_law_496 rfl rfl (by omega) hX ?_
  refine jh_aload_n dL_law_497 rfl ?_
  refine jh_wrp (As := [.ref 0, .int (X.2 (i + 1)), .ref 191]) (a' := 0) (b' := 0) kL_dredger dL_law_498 rfl (by decide) (Nat.le_of_ble_eq_true rfl) rfl (by decide) ha hb (Nat.le_of_ble_eq_true rfl) (w_dredger τ n c (X.2 (i + 1)) hI.1 lh_191 (hI.2.2.2 191 (by decide) (by decide)) (by have := hI.2.1; omega) h1) ?_
  refine jh_hs (S' := [.int (nI 0)]) (h' := lh g (vp_updL f 0 (x.1.toInt64)) τ x.2 s n) rfl lh_out ?_
  refine jh_istore (L' := LN i (nI 0)) dL_law_501 (by decide) rfl ?_
  refine jh_aload_n dL_law_503 rfl ?_
  refine jh_arg (i := i) (j := 1) dL_law_504 dL_law_505 dL_law_507 (by decide) dL_law_508 dL_law_509 rfl rfl (by omega) hX ?_
  refine jh_ref (As := [.int (X.2 (i + 1))]) hI kv_L_155 dL_law_510 rfl rfl (by decide) (Nat.le_of_ble_eq_true rfl) rfl (by decide) (Nat.le_of_ble_eq_true rfl) (fun g9 => t_X12_dredger (by have := hI.2.1; omega) s (X.2 (i + 1)) h2) ?_
  refine jh_istore (L' := LM i (nI 0) y.1) dL_law_513 (by decide) rfl ?_
  refine jh_aload_n dL_law_515 rfl ?_
  refine jh_ref (As := []) hI kv_L_141 dL_law_516 rfl rfl (by decide) (Nat.le_of_ble_eq_true rfl) rfl (by decide) (Nat.le_of_ble_eq_true rfl) (fun g9 => t_X12_thrown (by have := hI.2.1; omega) y.2 (x := nI 0) (by rw [o_X12_thrown, h3])) ?_
  refine jh_iload dL_law_519 rfl ?_
  refine jh_icmp_eq (x := nI 0) (y := nI 0) (tgt := 526) dL_law_521 (by decide) (fun _ => ?_) (fun e => absurd rfl e)
  refine jh_iload dL_law_526 rfl ?_
  refine jh_if_ne (x := nI 0) (tgt := 543) dL_law_528 (by decide) (fun e => absurd (by decide) e) (fun _ => ?_)
  refine jh_aload_n dL_law_531 rfl ?_
  refine jh_iconst (v := nI 0) dL_law_532 (by decide) ?_
  refine jh_lald (q := 191) (n := 1) (f := (vp_updL f 0 (x.1.toInt64))) (i := nI 0) dL_law_533 (by show 191 < n; have := hI.2.1; omega) ((ct_base (hI.2.2.2 191 (by decide) (by decide))).trans lh_191) (vp_iL (iL_t (by decide) (by decide))) ?_
  refine jh_iload dL_law_534 rfl ?_
  refine jh_i2l dL_law_536 ?_
  refine jh_lcmp dL_law_537 ?_
  refine jh_if_eq (tgt := 543) dL_law_538 (by decide) (fun _ => ?_) (fun e => absurd (by rw [h4]; exact lcmp_self _) e)
  refine jh_goto (tgt := 2513) dL_law_543 (by decide) ?_
  refine jh_fg (L' := LL i) (by repeat (first | exact trivial | refine ⟨rfl, ?_⟩ | show jg_le _ _)) ?_
  exact K
set_option maxHeartbeats 2000000 in
theorem lc5x1 {Γ : jg_G} {X : Nat × (Nat → Int32)} {Q : jg_Q} {a b : Nat} {g : Nat → jg_C} {f : Nat → Int64} (F i : Nat) (τ : cT) (n : Nat) (c : cS) (s : rs_S) (hI : LI τ n) (hi : i + 9 ≤ X.1) (hX : X.1 ≤ 4608) (ha : 1 ≤ a) (hb : 6 ≤ b) (hn : n < 1000000) {z : cS} {y : Int32 × rs_S} (h1 : o_X11_dredger τ n 0 c (X.2 (i + 1)) = some (.inr (1, z))) (hI2 : LI τ (n + 1)) (h2 : o_X12_dredger s (X.2 (i + 1)) = some y) (h3 : y.2.1 0 = nI 1) (K : jh Γ mL_law ([], X) 100 (a - 1) (b - 6) 2513 (LL i) [] (lh (gx g n) f τ z y.2 (n + 1)) Q) : jh Γ mL_law ([], X) 100 a b 490 (LL i) [] (lh g f τ c s n) Q := by
  refine jh_aload_n dL_law_490 rfl ?_
  refine jh_arg (i := i) (j := 1) dL_law_491 dL_law_492 dL_law_494 (by decide) dL_law_495 dL_law_496 rfl rfl (by omega) hX ?_
  refine jh_aload_n dL_law_497 rfl ?_
  refine jh_wrp (As := [.ref 0, .int (X.2 (i + 1)), .ref 191]) (a' := 1) (b' := 6) kL_dredger dL_law_498 rfl (by decide) (Nat.le_of_ble_eq_true rfl) rfl (by decide) ha hb (Nat.le_of_ble_eq_true rfl) (w_dredger_x1 τ n c (X.2 (i + 1)) hI.1 hn (hI.2.2.1 n (Nat.le_refl _)) h1) ?_
  refine jh_hs (S' := [.int (nI 1)]) (h' := lh (gx g n) f τ z s (n + 1)) rfl (lh_gx (by have := hI.2.1; have := nQ_le (n := n) (q := none); omega)) ?_
  refine jh_istore (L' := LN i (nI 1)) dL_law_501 (by decide) rfl ?_
  refine jh_aload_n dL_law_503 rfl ?_
  refine jh_arg (i := i) (j := 1) dL_law_504 dL_law_505 dL_law_507 (by decide) dL_law_508 dL_law_509 rfl rfl (by omega) hX ?_
  refine jh_ref (As := [.int (X.2 (i + 1))]) hI2 kv_L_155 dL_law_510 rfl rfl (by decide) (Nat.le_of_ble_eq_true rfl) rfl (by decide) (Nat.le_of_ble_eq_true rfl) (fun g9 => t_X12_dredger (by have := hI2.2.1; omega) s (X.2 (i + 1)) h2) ?_
  refine jh_istore (L' := LM i (nI 1) y.1) dL_law_513 (by decide) rfl ?_
  refine jh_aload_n dL_law_515 rfl ?_
  refine jh_ref (As := []) hI2 kv_L_141 dL_law_516 rfl rfl (by decide) (Nat.le_of_ble_eq_true rfl) rfl (by decide) (Nat.le_of_ble_eq_true rfl) (fun g9 => t_X12_thrown (by have := hI2.2.1; omega) y.2 (x := nI 1) (by rw [o_X12_thrown, h3])) ?_
  refine jh_iload dL_law_519 rfl ?_
  refine jh_icmp_eq (x := nI 1) (y := nI 1) (tgt := 526) dL_law_521 (by decide) (fun _ => ?_) (fun e => absurd rfl e)
  refine jh_iload dL_law_526 rfl ?_
  refine jh_if_ne (x := nI 1) (tgt := 543) dL_law_528 (by decide) (fun _ => ?_) (fun e => absurd e (by decide))
  refine jh_goto (tgt := 2513) dL_law_543 (by decide) ?_
  refine jh_fg (L' := LL i) (by repeat (first | exact trivial | refine ⟨rfl, ?_⟩ | show jg_le _ _)) ?_
  exact K
set_option maxHeartbeats 2000000 in
theorem lc5x3 {Γ : jg_G} {X : Nat × (Nat → Int32)} {Q : jg_Q} {a b : Nat} {g : Nat → jg_C} {f : Nat → Int64} (F i : Nat) (τ : cT) (n : Nat) (c : cS) (s : rs_S) (hI : LI τ n) (hi : i + 9 ≤ X.1) (hX : X.1 ≤ 4608) (ha : 1 ≤ a) (hb : 6 ≤ b) (hn : n < 1000000) {z : cS} {y : Int32 × rs_S} (h1 : o_X11_dredger τ n 0 c (X.2 (i + 1)) = some (.inr (3, z))) (hI2 : LI τ (n + 1)) (h2 : o_X12_dredger s (X.2 (i + 1)) = some y) (h3 : y.2.1 0 = nI 2) (K : jh Γ mL_law ([], X) 100 (a - 1) (b - 6) 2513 (LL i) [] (lh (gx g n) f τ z y.2 (n + 1)) Q) : jh Γ mL_law ([], X) 100 a b 490 (LL i) [] (lh g f τ c s n) Q := by
  refine jh_aload_n dL_law_490 rfl ?_
  refine jh_arg (i := i) (j := 1) dL_law_491 dL_law_492 dL_law_494 (by decide) dL_law_495 dL_law_496 rfl rfl (by omega) hX ?_
  refine jh_aload_n dL_law_497 rfl ?_
  refine jh_wrp (As := [.ref 0, .int (X.2 (i + 1)), .ref 191]) (a' := 1) (b' := 6) kL_dredger dL_law_498 rfl (by decide) (Nat.le_of_ble_eq_true rfl) rfl (by decide) ha hb (Nat.le_of_ble_eq_true rfl) (w_dredger_x3 τ n c (X.2 (i + 1)) hI.1 hn (hI.2.2.1 n (Nat.le_refl _)) h1) ?_
  refine jh_hs (S' := [.int (nI 2)]) (h' := lh (gx g n) f τ z s (n + 1)) rfl (lh_gx (by have := hI.2.1; have := nQ_le (n := n) (q := none); omega)) ?_
  refine jh_istore (L' := LN i (nI 2)) dL_law_501 (by decide) rfl ?_
  refine jh_aload_n dL_law_503 rfl ?_
  refine jh_arg (i := i) (j := 1) dL_law_504 dL_law_505 dL_law_507 (by decide) dL_law_508 dL_law_509 rfl rfl (by omega) hX ?_
  refine jh_ref (As := [.int (X.2 (i + 1))]) hI2 kv_L_155 dL_law_510 rfl rfl (by decide) (Nat.le_of_ble_eq_true rfl) rfl (by decide) (Nat.le_of_ble_eq_true rfl) (fun g9 => t_X12_dredger (by have := hI2.2.1; omega) s (X.2 (i + 1)) h2) ?_
  refine jh_istore (L' := LM i (nI 2) y.1) dL_law_513 (by decide) rfl ?_
  refine jh_aload_n dL_law_515 rfl ?_
  refine jh_ref (As := []) hI2 kv_L_141 dL_law_516 rfl rfl (by decide) (Nat.le_of_ble_eq_true rfl) rfl (by decide) (Nat.le_of_ble_eq_true rfl) (fun g9 => t_X12_thrown (by have := hI2.2.1; omega) y.2 (x := nI 2) (by rw [o_X12_thrown, h3])) ?_
  refine jh_iload dL_law_519 rfl ?_
  refine jh_icmp_eq (x := nI 2) (y := nI 2) (tgt := 526) dL_law_521 (by decide) (fun _ => ?_) (fun e => absurd rfl e)
  refine jh_iload dL_law_526 rfl ?_
  refine jh_if_ne (x := nI 2) (tgt := 543) dL_law_528 (by decide) (fun _ => ?_) (fun e => absurd e (by decide))
  refine jh_goto (tgt := 2513) dL_law_543 (by decide) ?_
  refine jh_fg (L' := LL i) (by repeat (first | exact trivial | refine ⟨rfl, ?_⟩ | show jg_le _ _)) ?_
  exact K
set_option maxHeartbeats 2000000 in
theorem lc6 {Γ : jg_G} {X : Nat × (Nat → Int32)} {Q : jg_Q} {a b : Nat} {g : Nat → jg_C} {f : Nat → Int64} (F i : Nat) (τ : cT) (n : Nat) (c : cS) (s : rs_S) (hI : LI τ n) (hi : i + 9 ≤ X.1) (hX : X.1 ≤ 4608) (ha : 0 ≤ a) (hb : 0 ≤ b) {x : Int32 × cS} {y : Int32 × rs_S} (h1 : o_X11_station τ n 0 c (X.2 (i + 1)) (X.2 (i + 2)) (X.2 (i + 3)) = some (.inl x)) (h2 : o_X12_station s (X.2 (i + 1)) (X.2 (i + 2)) (X.2 (i + 3)) = some y) (h3 : y.2.1 0 = nI 0) (h4 : y.1 = x.1) (K : jh Γ mL_law ([], X) 100 (a - 0) (b - 0) 2513 (LL i) [] (lh g (vp_updL f 0 (if x.1 = 0 then 0 else 1)) τ x.2 y.2 n) Q) : jh Γ mL_law ([], X) 100 a b 546 (LL i) [] (lh g f τ c s n) Q := by
  refine jh_aload_n dL_law_546 rfl ?_
  refine jh_arg (i := i) (j := 1) dL_law_547 dL_law_548 dL_law_550 (by decide) dL_law_551 dL_law_552 rfl rfl (by omega) hX ?_
  refine jh_arg (i := i) (j := 2) dL_law_553 dL_law_554 dL_law_556 (by decide) dL_law_557 dL_law_558 rfl rfl (by omega) hX ?_
  refine jh_arg (i := i) (j := 3) dL_law_559 dL_law_560 dL_law_562 (by decide) dL_law_563 dL_law_564 rfl rfl (by omega) hX ?_
  refine jh_aload_n dL_law_565 rfl ?_
  refine jh_wrp (As := [.ref 0, .int (X.2 (i + 1)), .int (X.2 (i + 2)), .int (X.2 (i + 3)), .ref 191]) (a' := 0) (b' := 0) kL_station dL_law_566 rfl (by decide) (Nat.le_of_ble_eq_true rfl) rfl (by decide) ha hb (Nat.le_of_ble_eq_true rfl) (w_station τ n c (X.2 (i + 1)) (X.2 (i + 2)) (X.2 (i + 3)) hI.1 lh_191 (hI.2.2.2 191 (by decide) (by decide)) (by have := hI.2.1; omega) h1) ?_
  refine jh_hs (S' := [.int (nI 0)]) (h' := lh g (vp_updL f 0 (if x.1 = 0 then 0 else 1)) τ x.2 s n) rfl lh_out ?_
  refine jh_istore (L' := LN i (nI 0)) dL_law_569 (by decide) rfl ?_
  refine jh_aload_n dL_law_571 rfl ?_
  refine jh_arg (i := i) (j := 1) dL_law_572 dL_law_573 dL_law_575 (by decide) dL_law_576 dL_law_577 rfl rfl (by omega) hX ?_
  refine jh_arg (i := i) (j := 2) dL_law_578 dL_law_579 dL_law_581 (by decide) dL_law_582 dL_law_583 rfl rfl (by omega) hX ?_
  refine jh_arg (i := i) (j := 3) dL_law_584 dL_law_585 dL_law_587 (by decide) dL_law_588 dL_law_589 rfl rfl (by omega) hX ?_
  refine jh_ref (As := [.int (X.2 (i + 1)), .int (X.2 (i + 2)), .int (X.2 (i + 3))]) hI kv_L_159 dL_law_590 rfl rfl (by decide) (Nat.le_of_ble_eq_true rfl) rfl (by decide) (Nat.le_of_ble_eq_true rfl) (fun g9 => t_X12_station (by have := hI.2.1; omega) s (X.2 (i + 1)) (X.2 (i + 2)) (X.2 (i + 3)) h2) ?_
  refine jh_istore (L' := LM i (nI 0) y.1) dL_law_593 (by decide) rfl ?_
  refine jh_aload_n dL_law_595 rfl ?_
  refine jh_ref (As := []) hI kv_L_141 dL_law_596 rfl rfl (by decide) (Nat.le_of_ble_eq_true rfl) rfl (by decide) (Nat.le_of_ble_eq_true rfl) (fun g9 => t_X12_thrown (by have := hI.2.1; omega) y.2 (x := nI 0) (by rw [o_X12_thrown, h3])) ?_
  refine jh_iload dL_law_599 rfl ?_
  refine jh_icmp_eq (x := nI 0) (y := nI 0) (tgt := 606) dL_law_601 (by decide) (fun _ => ?_) (fun e => absurd rfl e)
  refine jh_iload dL_law_606 rfl ?_
  refine jh_if_ne (x := nI 0) (tgt := 630) dL_law_608 (by decide) (fun e => absurd (by decide) e) (fun _ => ?_)
  refine jh_aload_n dL_law_611 rfl ?_
  refine jh_iconst (v := nI 0) dL_law_612 (by decide) ?_
  refine jh_lald (q := 191) (n := 1) (f := (vp_updL f 0 (if x.1 = 0 then 0 else 1))) (i := nI 0) dL_law_613 (by show 191 < n; have := hI.2.1; omega) ((ct_base (hI.2.2.2 191 (by decide) (by decide))).trans lh_191) (vp_iL (iL_t (by decide) (by decide))) ?_
  refine jh_iload dL_law_614 rfl ?_
  refine jh_if_eq (x := y.1) (tgt := 623) dL_law_616 (by decide) (fun e0 => ?_) (fun e0 => ?_)
  · refine jh_lconst (v := 0) dL_law_623 (by decide) ?_
    refine jh_lcmp dL_law_624 ?_
    refine jh_if_eq (tgt := 630) dL_law_625 (by decide) (fun _ => ?_) (fun e => absurd (by show lg_cmp (if x.1 = 0 then 0 else 1) _ = 0; rw [if_pos (h4 ▸ e0)]; exact lcmp_self _) e)
    refine jh_goto (tgt := 2513) dL_law_630 (by decide) ?_
    refine jh_fg (L' := LL i) (by repeat (first | exact trivial | refine ⟨rfl, ?_⟩ | show jg_le _ _)) ?_
    exact K
  · refine jh_lconst (v := 1) dL_law_619 (by decide) ?_
    refine jh_goto (tgt := 624) dL_law_620 (by decide) ?_
    refine jh_lcmp dL_law_624 ?_
    refine jh_if_eq (tgt := 630) dL_law_625 (by decide) (fun _ => ?_) (fun e => absurd (by show lg_cmp (if x.1 = 0 then 0 else 1) _ = 0; rw [if_neg (h4 ▸ e0)]; exact lcmp_self _) e)
    refine jh_goto (tgt := 2513) dL_law_630 (by decide) ?_
    refine jh_fg (L' := LL i) (by repeat (first | exact trivial | refine ⟨rfl, ?_⟩ | show jg_le _ _)) ?_
    exact K
set_option maxHeartbeats 2000000 in
theorem lc6x0 {Γ : jg_G} {X : Nat × (Nat → Int32)} {Q : jg_Q} {a b : Nat} {g : Nat → jg_C} {f : Nat → Int64} (F i : Nat) (τ : cT) (n : Nat) (c : cS) (s : rs_S) (hI : LI τ n) (hi : i + 9 ≤ X.1) (hX : X.1 ≤ 4608) (ha : 1 ≤ a) (hb : 6 ≤ b) (hn : n < 1000000) {z : cS} {y : Int32 × rs_S} (h1 : o_X11_station τ n 0 c (X.2 (i + 1)) (X.2 (i + 2)) (X.2 (i + 3)) = some (.inr (0, z))) (hI2 : LI τ (n + 1)) (h2 : o_X12_station s (X.2 (i + 1)) (X.2 (i + 2)) (X.2 (i + 3)) = some y) (h3 : y.2.1 0 = nI 1) (K : jh Γ mL_law ([], X) 100 (a - 1) (b - 6) 2513 (LL i) [] (lh (gx g n) f τ z y.2 (n + 1)) Q) : jh Γ mL_law ([], X) 100 a b 546 (LL i) [] (lh g f τ c s n) Q := by
  refine jh_aload_n dL_law_546 rfl ?_
  refine jh_arg (i := i) (j := 1) dL_law_547 dL_law_548 dL_law_550 (by decide) dL_law_551 dL_law_552 rfl rfl (by omega) hX ?_
  refine jh_arg (i := i) (j := 2) dL_law_553 dL_law_554 dL_law_556 (by decide) dL_law_557 dL_law_558 rfl rfl (by omega) hX ?_
  refine jh_arg (i := i) (j := 3) dL_law_559 dL_law_560 dL_law_562 (by decide) dL_law_563 dL_law_564 rfl rfl (by omega) hX ?_
  refine jh_aload_n dL_law_565 rfl ?_
  refine jh_wrp (As := [.ref 0, .int (X.2 (i + 1)), .int (X.2 (i + 2)), .int (X.2 (i + 3)), .ref 191]) (a' := 1) (b' := 6) kL_station dL_law_566 rfl (by decide) (Nat.le_of_ble_eq_true rfl) rfl (by decide) ha hb (Nat.le_of_ble_eq_true rfl) (w_station_x0 τ n c (X.2 (i + 1)) (X.2 (i + 2)) (X.2 (i + 3)) hI.1 hn (hI.2.2.1 n (Nat.le_refl _)) h1) ?_
  refine jh_hs (S' := [.int (nI 1)]) (h' := lh (gx g n) f τ z s (n + 1)) rfl (lh_gx (by have := hI.2.1; have := nQ_le (n := n) (q := none); omega)) ?_
  refine jh_istore (L' := LN i (nI 1)) dL_law_569 (by decide) rfl ?_
  refine jh_aload_n dL_law_571 rfl ?_
  refine jh_arg (i := i) (j := 1) dL_law_572 dL_law_573 dL_law_575 (by decide) dL_law_576 dL_law_577 rfl rfl (by omega) hX ?_
  refine jh_arg (i := i) (j := 2) dL_law_578 dL_law_579 dL_law_581 (by decide) dL_law_582 dL_law_583 rfl rfl (by omega) hX ?_
  refine jh_arg (i := i) (j := 3) dL_law_584 dL_law_585 dL_law_587 (by decide) dL_law_588 dL_law_589 rfl rfl (by omega) hX ?_
  refine jh_ref (As := [.int (X.2 (i + 1)), .int (X.2 (i + 2)), .int (X.2 (i + 3))]) hI2 kv_L_159 dL_law_590 rfl rfl (by decide) (Nat.le_of_ble_eq_true rfl) rfl (by decide) (Nat.le_of_ble_eq_true rfl) (fun g9 => t_X12_station (by have := hI2.2.1; omega) s (X.2 (i + 1)) (X.2 (i + 2)) (X.2 (i + 3)) h2) ?_
  refine jh_istore (L' := LM i (nI 1) y.1) dL_law_593 (by decide) rfl ?_
  refine jh_aload_n dL_law_595 rfl ?_
  refine jh_ref (As := []) hI2 kv_L_141 dL_law_596 rfl rfl (by decide) (Nat.le_of_ble_eq_true rfl) rfl (by decide) (Nat.le_of_ble_eq_true rfl) (fun g9 => t_X12_thrown (by have := hI2.2.1; omega) y.2 (x := nI 1) (by rw [o_X12_thrown, h3])) ?_
  refine jh_iload dL_law_599 rfl ?_
  refine jh_icmp_eq (x := nI 1) (y := nI 1) (tgt := 606) dL_law_601 (by decide) (fun _ => ?_) (fun e => absurd rfl e)
  refine jh_iload dL_law_606 rfl ?_
  refine jh_if_ne (x := nI 1) (tgt := 630) dL_law_608 (by decide) (fun _ => ?_) (fun e => absurd e (by decide))
  refine jh_goto (tgt := 2513) dL_law_630 (by decide) ?_
  refine jh_fg (L' := LL i) (by repeat (first | exact trivial | refine ⟨rfl, ?_⟩ | show jg_le _ _)) ?_
  exact K
set_option maxHeartbeats 2000000 in
theorem lc7 {Γ : jg_G} {X : Nat × (Nat → Int32)} {Q : jg_Q} {a b : Nat} {g : Nat → jg_C} {f : Nat → Int64} (F i : Nat) (τ : cT) (n : Nat) (c : cS) (s : rs_S) (hI : LI τ n) (hi : i + 9 ≤ X.1) (hX : X.1 ≤ 4608) (ha : 0 ≤ a) (hb : 0 ≤ b) {x : Int32} {y : Int32 × rs_S} (h1 : o_X11_cell F τ n 0 c (X.2 (i + 1)) (X.2 (i + 2)) = some (.inl x)) (h2 : o_X12_cell F s (X.2 (i + 1)) (X.2 (i + 2)) = some y) (h3 : y.2.1 0 = nI 0) (h4 : y.1 = x) (K : jh Γ mL_law ([], X) 100 (a - 0) (b - 0) 2513 (LL i) [] (lh g (vp_updL f 0 (x.toInt64)) τ c y.2 n) Q) : jh Γ mL_law ([], X) 100 a b 633 (LL i) [] (lh g f τ c s n) Q := by
  refine jh_aload_n dL_law_633 rfl ?_
  refine jh_arg (i := i) (j := 1) dL_law_634 dL_law_635 dL_law_637 (by decide) dL_law_638 dL_law_639 rfl rfl (by omega) hX ?_
  refine jh_arg (i := i) (j := 2) dL_law_640 dL_law_641 dL_law_643 (by decide) dL_law_644 dL_law_645 rfl rfl (by omega) hX ?_
  refine jh_aload_n dL_law_646 rfl ?_
  refine jh_wrp (As := [.ref 0, .int (X.2 (i + 1)), .int (X.2 (i + 2)), .ref 191]) (a' := 0) (b' := 0) kL_cell dL_law_647 rfl (by decide) (Nat.le_of_ble_eq_true rfl) rfl (by decide) ha hb (Nat.le_of_ble_eq_true rfl) (w_cell F τ n c (X.2 (i + 1)) (X.2 (i + 2)) hI.1 lh_191 (hI.2.2.2 191 (by decide) (by decide)) (by have := hI.2.1; omega) h1) ?_
  refine jh_hs (S' := [.int (nI 0)]) (h' := lh g (vp_updL f 0 (x.toInt64)) τ c s n) rfl lh_out ?_
  refine jh_istore (L' := LN i (nI 0)) dL_law_650 (by decide) rfl ?_
  refine jh_aload_n dL_law_652 rfl ?_
  refine jh_arg (i := i) (j := 1) dL_law_653 dL_law_654 dL_law_656 (by decide) dL_law_657 dL_law_658 rfl rfl (by omega) hX ?_
  refine jh_arg (i := i) (j := 2) dL_law_659 dL_law_660 dL_law_662 (by decide) dL_law_663 dL_law_664 rfl rfl (by omega) hX ?_
  refine jh_ref (As := [.int (X.2 (i + 1)), .int (X.2 (i + 2))]) hI kv_L_162 dL_law_665 rfl rfl (by decide) (Nat.le_of_ble_eq_true rfl) rfl (by decide) (Nat.le_of_ble_eq_true rfl) (fun g9 => t_X12_cell (by have := hI.2.1; omega) F s (X.2 (i + 1)) (X.2 (i + 2)) h2) ?_
  refine jh_istore (L' := LM i (nI 0) y.1) dL_law_668 (by decide) rfl ?_
  refine jh_aload_n dL_law_670 rfl ?_
  refine jh_ref (As := []) hI kv_L_141 dL_law_671 rfl rfl (by decide) (Nat.le_of_ble_eq_true rfl) rfl (by decide) (Nat.le_of_ble_eq_true rfl) (fun g9 => t_X12_thrown (by have := hI.2.1; omega) y.2 (x := nI 0) (by rw [o_X12_thrown, h3])) ?_
  refine jh_iload dL_law_674 rfl ?_
  refine jh_icmp_eq (x := nI 0) (y := nI 0) (tgt := 681) dL_law_676 (by decide) (fun _ => ?_) (fun e => absurd rfl e)
  refine jh_iload dL_law_681 rfl ?_
  refine jh_if_ne (x := nI 0) (tgt := 698) dL_law_683 (by decide) (fun e => absurd (by decide) e) (fun _ => ?_)
  refine jh_aload_n dL_law_686 rfl ?_
  refine jh_iconst (v := nI 0) dL_law_687 (by decide) ?_
  refine jh_lald (q := 191) (n := 1) (f := (vp_updL f 0 (x.toInt64))) (i := nI 0) dL_law_688 (by show 191 < n; have := hI.2.1; omega) ((ct_base (hI.2.2.2 191 (by decide) (by decide))).trans lh_191) (vp_iL (iL_t (by decide) (by decide))) ?_
  refine jh_iload dL_law_689 rfl ?_
  refine jh_i2l dL_law_691 ?_
  refine jh_lcmp dL_law_692 ?_
  refine jh_if_eq (tgt := 698) dL_law_693 (by decide) (fun _ => ?_) (fun e => absurd (by rw [h4]; exact lcmp_self _) e)
  refine jh_goto (tgt := 2513) dL_law_698 (by decide) ?_
  refine jh_fg (L' := LL i) (by repeat (first | exact trivial | refine ⟨rfl, ?_⟩ | show jg_le _ _)) ?_
  exact K
set_option maxHeartbeats 2000000 in
theorem lc7x0 {Γ : jg_G} {X : Nat × (Nat → Int32)} {Q : jg_Q} {a b : Nat} {g : Nat → jg_C} {f : Nat → Int64} (F i : Nat) (τ : cT) (n : Nat) (c : cS) (s : rs_S) (hI : LI τ n) (hi : i + 9 ≤ X.1) (hX : X.1 ≤ 4608) (ha : 1 ≤ a) (hb : 6 ≤ b) (hn : n < 1000000) {y : Int32 × rs_S} (h1 : o_X11_cell F τ n 0 c (X.2 (i + 1)) (X.2 (i + 2)) = some (.inr 0)) (hI2 : LI τ (n + 1)) (h2 : o_X12_cell F s (X.2 (i + 1)) (X.2 (i + 2)) = some y) (h3 : y.2.1 0 = nI 1) (K : jh Γ mL_law ([], X) 100 (a - 1) (b - 6) 2513 (LL i) [] (lh (gx g n) f τ c y.2 (n + 1)) Q) : jh Γ mL_law ([], X) 100 a b 633 (LL i) [] (lh g f τ c s n) Q := by
  refine jh_aload_n dL_law_633 rfl ?_
  refine jh_arg (i := i) (j := 1) dL_law_634 dL_law_635 dL_law_637 (by decide) dL_law_638 dL_law_639 rfl rfl (by omega) hX ?_
  refine jh_arg (i := i) (j := 2) dL_law_640 dL_law_641 dL_law_643 (by decide) dL_law_644 dL_law_645 rfl rfl (by omega) hX ?_
  refine jh_aload_n dL_law_646 rfl ?_
  refine jh_wrp (As := [.ref 0, .int (X.2 (i + 1)), .int (X.2 (i + 2)), .ref 191]) (a' := 1) (b' := 6) kL_cell dL_law_647 rfl (by decide) (Nat.le_of_ble_eq_true rfl) rfl (by decide) ha hb (Nat.le_of_ble_eq_true rfl) (w_cell_x0 F τ n c (X.2 (i + 1)) (X.2 (i + 2)) hI.1 hn (hI.2.2.1 n (Nat.le_refl _)) h1) ?_
  refine jh_hs (S' := [.int (nI 1)]) (h' := lh (gx g n) f τ c s (n + 1)) rfl (lh_gx (by have := hI.2.1; have := nQ_le (n := n) (q := none); omega)) ?_
  refine jh_istore (L' := LN i (nI 1)) dL_law_650 (by decide) rfl ?_
  refine jh_aload_n dL_law_652 rfl ?_
  refine jh_arg (i := i) (j := 1) dL_law_653 dL_law_654 dL_law_656 (by decide) dL_law_657 dL_law_658 rfl rfl (by omega) hX ?_
  refine jh_arg (i := i) (j := 2) dL_law_659 dL_law_660 dL_law_662 (by decide) dL_law_663 dL_law_664 rfl rfl (by omega) hX ?_
  refine jh_ref (As := [.int (X.2 (i + 1)), .int (X.2 (i + 2))]) hI2 kv_L_162 dL_law_665 rfl rfl (by decide) (Nat.le_of_ble_eq_true rfl) rfl (by decide) (Nat.le_of_ble_eq_true rfl) (fun g9 => t_X12_cell (by have := hI2.2.1; omega) F s (X.2 (i + 1)) (X.2 (i + 2)) h2) ?_
  refine jh_istore (L' := LM i (nI 1) y.1) dL_law_668 (by decide) rfl ?_
  refine jh_aload_n dL_law_670 rfl ?_
  refine jh_ref (As := []) hI2 kv_L_141 dL_law_671 rfl rfl (by decide) (Nat.le_of_ble_eq_true rfl) rfl (by decide) (Nat.le_of_ble_eq_true rfl) (fun g9 => t_X12_thrown (by have := hI2.2.1; omega) y.2 (x := nI 1) (by rw [o_X12_thrown, h3])) ?_
  refine jh_iload dL_law_674 rfl ?_
  refine jh_icmp_eq (x := nI 1) (y := nI 1) (tgt := 681) dL_law_676 (by decide) (fun _ => ?_) (fun e => absurd rfl e)
  refine jh_iload dL_law_681 rfl ?_
  refine jh_if_ne (x := nI 1) (tgt := 698) dL_law_683 (by decide) (fun _ => ?_) (fun e => absurd e (by decide))
  refine jh_goto (tgt := 2513) dL_law_698 (by decide) ?_
  refine jh_fg (L' := LL i) (by repeat (first | exact trivial | refine ⟨rfl, ?_⟩ | show jg_le _ _)) ?_
  exact K
set_option maxHeartbeats 2000000 in
theorem lc7x4 {Γ : jg_G} {X : Nat × (Nat → Int32)} {Q : jg_Q} {a b : Nat} {g : Nat → jg_C} {f : Nat → Int64} (F i : Nat) (τ : cT) (n : Nat) (c : cS) (s : rs_S) (hI : LI τ n) (hi : i + 9 ≤ X.1) (hX : X.1 ≤ 4608) (ha : 1 ≤ a) (hb : 6 ≤ b) (hn : n < 1000000) {y : Int32 × rs_S} (h1 : o_X11_cell F τ n 0 c (X.2 (i + 1)) (X.2 (i + 2)) = some (.inr 4)) (hI2 : LI τ (n + 1)) (h2 : o_X12_cell F s (X.2 (i + 1)) (X.2 (i + 2)) = some y) (h3 : y.2.1 0 = nI 2) (K : jh Γ mL_law ([], X) 100 (a - 1) (b - 6) 2513 (LL i) [] (lh (gx g n) f τ c y.2 (n + 1)) Q) : jh Γ mL_law ([], X) 100 a b 633 (LL i) [] (lh g f τ c s n) Q := by
  refine jh_aload_n dL_law_633 rfl ?_
  refine jh_arg (i := i) (j := 1) dL_law_634 dL_law_635 dL_law_637 (by decide) dL_law_638 dL_law_639 rfl rfl (by omega) hX ?_
  refine jh_arg (i := i) (j := 2) dL_law_640 dL_law_641 dL_law_643 (by decide) dL_law_644 dL_law_645 rfl rfl (by omega) hX ?_
  refine jh_aload_n dL_law_646 rfl ?_
  refine jh_wrp (As := [.ref 0, .int (X.2 (i + 1)), .int (X.2 (i + 2)), .ref 191]) (a' := 1) (b' := 6) kL_cell dL_law_647 rfl (by decide) (Nat.le_of_ble_eq_true rfl) rfl (by decide) ha hb (Nat.le_of_ble_eq_true rfl) (w_cell_x4 F τ n c (X.2 (i + 1)) (X.2 (i + 2)) hI.1 hn (hI.2.2.1 n (Nat.le_refl _)) h1) ?_
  refine jh_hs (S' := [.int (nI 2)]) (h' := lh (gx g n) f τ c s (n + 1)) rfl (lh_gx (by have := hI.2.1; have := nQ_le (n := n) (q := none); omega)) ?_
  refine jh_istore (L' := LN i (nI 2)) dL_law_650 (by decide) rfl ?_
  refine jh_aload_n dL_law_652 rfl ?_
  refine jh_arg (i := i) (j := 1) dL_law_653 dL_law_654 dL_law_656 (by decide) dL_law_657 dL_law_658 rfl rfl (by omega) hX ?_
  refine jh_arg (i := i) (j := 2) dL_law_659 dL_law_660 dL_law_662 (by decide) dL_law_663 dL_law_664 rfl rfl (by omega) hX ?_
  refine jh_ref (As := [.int (X.2 (i + 1)), .int (X.2 (i + 2))]) hI2 kv_L_162 dL_law_665 rfl rfl (by decide) (Nat.le_of_ble_eq_true rfl) rfl (by decide) (Nat.le_of_ble_eq_true rfl) (fun g9 => t_X12_cell (by have := hI2.2.1; omega) F s (X.2 (i + 1)) (X.2 (i + 2)) h2) ?_
  refine jh_istore (L' := LM i (nI 2) y.1) dL_law_668 (by decide) rfl ?_
  refine jh_aload_n dL_law_670 rfl ?_
  refine jh_ref (As := []) hI2 kv_L_141 dL_law_671 rfl rfl (by decide) (Nat.le_of_ble_eq_true rfl) rfl (by decide) (Nat.le_of_ble_eq_true rfl) (fun g9 => t_X12_thrown (by have := hI2.2.1; omega) y.2 (x := nI 2) (by rw [o_X12_thrown, h3])) ?_
  refine jh_iload dL_law_674 rfl ?_
  refine jh_icmp_eq (x := nI 2) (y := nI 2) (tgt := 681) dL_law_676 (by decide) (fun _ => ?_) (fun e => absurd rfl e)
  refine jh_iload dL_law_681 rfl ?_
  refine jh_if_ne (x := nI 2) (tgt := 698) dL_law_683 (by decide) (fun _ => ?_) (fun e => absurd e (by decide))
  refine jh_goto (tgt := 2513) dL_law_698 (by decide) ?_
  refine jh_fg (L' := LL i) (by repeat (first | exact trivial | refine ⟨rfl, ?_⟩ | show jg_le _ _)) ?_
  exact K
set_option maxHeartbeats 2000000 in
theorem lc8 {Γ : jg_G} {X : Nat × (Nat → Int32)} {Q : jg_Q} {a b : Nat} {g : Nat → jg_C} {f : Nat → Int64} (F i : Nat) (τ : cT) (n : Nat) (c : cS) (s : rs_S) (hI : LI τ n) (hi : i + 9 ≤ X.1) (hX : X.1 ≤ 4608) (ha : 0 ≤ a) (hb : 0 ≤ b) {x : Int32 × cS} {y : Int32 × rs_S} (h1 : o_X11_sound F τ n 0 c (X.2 (i + 1)) (X.2 (i + 2)) (X.2 (i + 3)) = some (.inl x)) (h2 : o_X12_sound s (X.2 (i + 1)) (X.2 (i + 2)) (X.2 (i + 3)) = some y) (h3 : y.2.1 0 = nI 0) (h4 : y.1 = x.1) (K : jh Γ mL_law ([], X) 100 (a - 0) (b - 0) 2513 (LL i) [] (lh g (vp_updL f 0 (x.1.toInt64)) τ x.2 y.2 n) Q) : jh Γ mL_law ([], X) 100 a b 701 (LL i) [] (lh g f τ c s n) Q := by
  refine jh_aload_n dL_law_701 rfl ?_
  refine jh_arg (i := i) (j := 1) dL_law_702 dL_law_703 dL_law_705 (by decide) dL_law_706 dL_law_707 rfl rfl (by omega) hX ?_
  refine jh_arg (i := i) (j := 2) dL_law_708 dL_law_709 dL_law_711 (by decide) dL_law_712 dL_law_713 rfl rfl (by omega) hX ?_
  refine jh_arg (i := i) (j := 3) dL_law_714 dL_law_715 dL_law_717 (by decide) dL_law_718 dL_law_719 rfl rfl (by omega) hX ?_
  refine jh_aload_n dL_law_720 rfl ?_
  refine jh_wrp (As := [.ref 0, .int (X.2 (i + 1)), .int (X.2 (i + 2)), .int (X.2 (i + 3)), .ref 191]) (a' := 0) (b' := 0) kL_sound dL_law_721 rfl (by decide) (Nat.le_of_ble_eq_true rfl) rfl (by decide) ha hb (Nat.le_of_ble_eq_true rfl) (w_sound F τ n c (X.2 (i + 1)) (X.2 (i + 2)) (X.2 (i + 3)) hI.1 lh_191 (hI.2.2.2 191 (by decide) (by decide)) (by have := hI.2.1; omega) h1) ?_
  refine jh_hs (S' := [.int (nI 0)]) (h' := lh g (vp_updL f 0 (x.1.toInt64)) τ x.2 s n) rfl lh_out ?_
  refine jh_istore (L' := LN i (nI 0)) dL_law_724 (by decide) rfl ?_
  refine jh_aload_n dL_law_726 rfl ?_
  refine jh_arg (i := i) (j := 1) dL_law_727 dL_law_728 dL_law_730 (by decide) dL_law_731 dL_law_732 rfl rfl (by omega) hX ?_
  refine jh_arg (i := i) (j := 2) dL_law_733 dL_law_734 dL_law_736 (by decide) dL_law_737 dL_law_738 rfl rfl (by omega) hX ?_
  refine jh_arg (i := i) (j := 3) dL_law_739 dL_law_740 dL_law_742 (by decide) dL_law_743 dL_law_744 rfl rfl (by omega) hX ?_
  refine jh_ref (As := [.int (X.2 (i + 1)), .int (X.2 (i + 2)), .int (X.2 (i + 3))]) hI kv_L_165 dL_law_745 rfl rfl (by decide) (Nat.le_of_ble_eq_true rfl) rfl (by decide) (Nat.le_of_ble_eq_true rfl) (fun g9 => t_X12_sound (by have := hI.2.1; omega) s (X.2 (i + 1)) (X.2 (i + 2)) (X.2 (i + 3)) h2) ?_
  refine jh_istore (L' := LM i (nI 0) y.1) dL_law_748 (by decide) rfl ?_
  refine jh_aload_n dL_law_750 rfl ?_
  refine jh_ref (As := []) hI kv_L_141 dL_law_751 rfl rfl (by decide) (Nat.le_of_ble_eq_true rfl) rfl (by decide) (Nat.le_of_ble_eq_true rfl) (fun g9 => t_X12_thrown (by have := hI.2.1; omega) y.2 (x := nI 0) (by rw [o_X12_thrown, h3])) ?_
  refine jh_iload dL_law_754 rfl ?_
  refine jh_icmp_eq (x := nI 0) (y := nI 0) (tgt := 761) dL_law_756 (by decide) (fun _ => ?_) (fun e => absurd rfl e)
  refine jh_iload dL_law_761 rfl ?_
  refine jh_if_ne (x := nI 0) (tgt := 778) dL_law_763 (by decide) (fun e => absurd (by decide) e) (fun _ => ?_)
  refine jh_aload_n dL_law_766 rfl ?_
  refine jh_iconst (v := nI 0) dL_law_767 (by decide) ?_
  refine jh_lald (q := 191) (n := 1) (f := (vp_updL f 0 (x.1.toInt64))) (i := nI 0) dL_law_768 (by show 191 < n; have := hI.2.1; omega) ((ct_base (hI.2.2.2 191 (by decide) (by decide))).trans lh_191) (vp_iL (iL_t (by decide) (by decide))) ?_
  refine jh_iload dL_law_769 rfl ?_
  refine jh_i2l dL_law_771 ?_
  refine jh_lcmp dL_law_772 ?_
  refine jh_if_eq (tgt := 778) dL_law_773 (by decide) (fun _ => ?_) (fun e => absurd (by rw [h4]; exact lcmp_self _) e)
  refine jh_goto (tgt := 2513) dL_law_778 (by decide) ?_
  refine jh_fg (L' := LL i) (by repeat (first | exact trivial | refine ⟨rfl, ?_⟩ | show jg_le _ _)) ?_
  exact K
set_option maxHeartbeats 2000000 in
theorem lc8x0 {Γ : jg_G} {X : Nat × (Nat → Int32)} {Q : jg_Q} {a b : Nat} {g : Nat → jg_C} {f : Nat → Int64} (F i : Nat) (τ : cT) (n : Nat) (c : cS) (s : rs_S) (hI : LI τ n) (hi : i + 9 ≤ X.1) (hX : X.1 ≤ 4608) (ha : 1 ≤ a) (hb : 6 ≤ b) (hn : n < 1000000) {z : cS} {y : Int32 × rs_S} (h1 : o_X11_sound F τ n 0 c (X.2 (i + 1)) (X.2 (i + 2)) (X.2 (i + 3)) = some (.inr (0, z))) (hI2 : LI τ (n + 1)) (h2 : o_X12_sound s (X.2 (i + 1)) (X.2 (i + 2)) (X.2 (i + 3)) = some y) (h3 : y.2.1 0 = nI 1) (K : jh Γ mL_law ([], X) 100 (a - 1) (b - 6) 2513 (LL i) [] (lh (gx g n) f τ z y.2 (n + 1)) Q) : jh Γ mL_law ([], X) 100 a b 701 (LL i) [] (lh g f τ c s n) Q := by
  refine jh_aload_n dL_law_701 rfl ?_
  refine jh_arg (i := i) (j := 1) dL_law_702 dL_law_703 dL_law_705 (by decide) dL_law_706 dL_law_707 rfl rfl (by omega) hX ?_
  refine jh_arg (i := i) (j := 2) dL_law_708 dL_law_709 dL_law_711 (by decide) dL_law_712 dL_law_713 rfl rfl (by omega) hX ?_
  refine jh_arg (i := i) (j := 3) dL_law_714 dL_law_715 dL_law_717 (by decide) dL_law_718 dL_law_719 rfl rfl (by omega) hX ?_
  refine jh_aload_n dL_law_720 rfl ?_
  refine jh_wrp (As := [.ref 0, .int (X.2 (i + 1)), .int (X.2 (i + 2)), .int (X.2 (i + 3)), .ref 191]) (a' := 1) (b' := 6) kL_sound dL_law_721 rfl (by decide) (Nat.le_of_ble_eq_true rfl) rfl (by decide) ha hb (Nat.le_of_ble_eq_true rfl) (w_sound_x0 F τ n c (X.2 (i + 1)) (X.2 (i + 2)) (X.2 (i + 3)) hI.1 hn (hI.2.2.1 n (Nat.le_refl _)) h1) ?_
  refine jh_hs (S' := [.int (nI 1)]) (h' := lh (gx g n) f τ z s (n + 1)) rfl (lh_gx (by have := hI.2.1; have := nQ_le (n := n) (q := none); omega)) ?_
  refine jh_istore (L' := LN i (nI 1)) dL_law_724 (by decide) rfl ?_
  refine jh_aload_n dL_law_726 rfl ?_
  refine jh_arg (i := i) (j := 1) dL_law_727 dL_law_728 dL_law_730 (by decide) dL_law_731 dL_law_732 rfl rfl (by omega) hX ?_
  refine jh_arg (i := i) (j := 2) dL_law_733 dL_law_734 dL_law_736 (by decide) dL_law_737 dL_law_738 rfl rfl (by omega) hX ?_
  refine jh_arg (i := i) (j := 3) dL_law_739 dL_law_740 dL_law_742 (by decide) dL_law_743 dL_law_744 rfl rfl (by omega) hX ?_
  refine jh_ref (As := [.int (X.2 (i + 1)), .int (X.2 (i + 2)), .int (X.2 (i + 3))]) hI2 kv_L_165 dL_law_745 rfl rfl (by decide) (Nat.le_of_ble_eq_true rfl) rfl (by decide) (Nat.le_of_ble_eq_true rfl) (fun g9 => t_X12_sound (by have := hI2.2.1; omega) s (X.2 (i + 1)) (X.2 (i + 2)) (X.2 (i + 3)) h2) ?_
  refine jh_istore (L' := LM i (nI 1) y.1) dL_law_748 (by decide) rfl ?_
  refine jh_aload_n dL_law_750 rfl ?_
  refine jh_ref (As := []) hI2 kv_L_141 dL_law_751 rfl rfl (by decide) (Nat.le_of_ble_eq_true rfl) rfl (by decide) (Nat.le_of_ble_eq_true rfl) (fun g9 => t_X12_thrown (by have := hI2.2.1; omega) y.2 (x := nI 1) (by rw [o_X12_thrown, h3])) ?_
  refine jh_iload dL_law_754 rfl ?_
  refine jh_icmp_eq (x := nI 1) (y := nI 1) (tgt := 761) dL_law_756 (by decide) (fun _ => ?_) (fun e => absurd rfl e)
  refine jh_iload dL_law_761 rfl ?_
  refine jh_if_ne (x := nI 1) (tgt := 778) dL_law_763 (by decide) (fun _ => ?_) (fun e => absurd e (by decide))
  refine jh_goto (tgt := 2513) dL_law_778 (by decide) ?_
  refine jh_fg (L' := LL i) (by repeat (first | exact trivial | refine ⟨rfl, ?_⟩ | show jg_le _ _)) ?_
  exact K
set_option maxHeartbeats 2000000 in
theorem lc8x1 {Γ : jg_G} {X : Nat × (Nat → Int32)} {Q : jg_Q} {a b : Nat} {g : Nat → jg_C} {f : Nat → Int64} (F i : Nat) (τ : cT) (n : Nat) (c : cS) (s : rs_S) (hI : LI τ n) (hi : i + 9 ≤ X.1) (hX : X.1 ≤ 4608) (ha : 1 ≤ a) (hb : 6 ≤ b) (hn : n < 1000000) {z : cS} {y : Int32 × rs_S} (h1 : o_X11_sound F τ n 0 c (X.2 (i + 1)) (X.2 (i + 2)) (X.2 (i + 3)) = some (.inr (1, z))) (hI2 : LI τ (n + 1)) (h2 : o_X12_sound s (X.2 (i + 1)) (X.2 (i + 2)) (X.2 (i + 3)) = some y) (h3 : y.2.1 0 = nI 2) (K : jh Γ mL_law ([], X) 100 (a - 1) (b - 6) 2513 (LL i) [] (lh (gx g n) f τ z y.2 (n + 1)) Q) : jh Γ mL_law ([], X) 100 a b 701 (LL i) [] (lh g f τ c s n) Q := by
  refine jh_aload_n dL_law_701 rfl ?_
  refine jh_arg (i := i) (j := 1) dL_law_702 dL_law_703 dL_law_705 (by decide) dL_law_706 dL_law_707 rfl rfl (by omega) hX ?_
  refine jh_arg (i := i) (j := 2) dL_law_708 dL_law_709 dL_law_711 (by decide) dL_law_712 dL_law_713 rfl rfl (by omega) hX ?_
  refine jh_arg (i := i) (j := 3) dL_law_714 dL_law_715 dL_law_717 (by decide) dL_law_718 dL_law_719 rfl rfl (by omega) hX ?_
  refine jh_aload_n dL_law_720 rfl ?_
  refine jh_wrp (As := [.ref 0, .int (X.2 (i + 1)), .int (X.2 (i + 2)), .int (X.2 (i + 3)), .ref 191]) (a' := 1) (b' := 6) kL_sound dL_law_721 rfl (by decide) (Nat.le_of_ble_eq_true rfl) rfl (by decide) ha hb (Nat.le_of_ble_eq_true rfl) (w_sound_x1 F τ n c (X.2 (i + 1)) (X.2 (i + 2)) (X.2 (i + 3)) hI.1 hn (hI.2.2.1 n (Nat.le_refl _)) h1) ?_
  refine jh_hs (S' := [.int (nI 2)]) (h' := lh (gx g n) f τ z s (n + 1)) rfl (lh_gx (by have := hI.2.1; have := nQ_le (n := n) (q := none); omega)) ?_
  refine jh_istore (L' := LN i (nI 2)) dL_law_724 (by decide) rfl ?_
  refine jh_aload_n dL_law_726 rfl ?_
  refine jh_arg (i := i) (j := 1) dL_law_727 dL_law_728 dL_law_730 (by decide) dL_law_731 dL_law_732 rfl rfl (by omega) hX ?_
  refine jh_arg (i := i) (j := 2) dL_law_733 dL_law_734 dL_law_736 (by decide) dL_law_737 dL_law_738 rfl rfl (by omega) hX ?_
  refine jh_arg (i := i) (j := 3) dL_law_739 dL_law_740 dL_law_742 (by decide) dL_law_743 dL_law_744 rfl rfl (by omega) hX ?_
  refine jh_ref (As := [.int (X.2 (i + 1)), .int (X.2 (i + 2)), .int (X.2 (i + 3))]) hI2 kv_L_165 dL_law_745 rfl rfl (by decide) (Nat.le_of_ble_eq_true rfl) rfl (by decide) (Nat.le_of_ble_eq_true rfl) (fun g9 => t_X12_sound (by have := hI2.2.1; omega) s (X.2 (i + 1)) (X.2 (i + 2)) (X.2 (i + 3)) h2) ?_
  refine jh_istore (L' := LM i (nI 2) y.1) dL_law_748 (by decide) rfl ?_
  refine jh_aload_n dL_law_750 rfl ?_
  refine jh_ref (As := []) hI2 kv_L_141 dL_law_751 rfl rfl (by decide) (Nat.le_of_ble_eq_true rfl) rfl (by decide) (Nat.le_of_ble_eq_true rfl) (fun g9 => t_X12_thrown (by have := hI2.2.1; omega) y.2 (x := nI 2) (by rw [o_X12_thrown, h3])) ?_
  refine jh_iload dL_law_754 rfl ?_
  refine jh_icmp_eq (x := nI 2) (y := nI 2) (tgt := 761) dL_law_756 (by decide) (fun _ => ?_) (fun e => absurd rfl e)
  refine jh_iload dL_law_761 rfl ?_
  refine jh_if_ne (x := nI 2) (tgt := 778) dL_law_763 (by decide) (fun _ => ?_) (fun e => absurd e (by decide))
  refine jh_goto (tgt := 2513) dL_law_778 (by decide) ?_
  refine jh_fg (L' := LL i) (by repeat (first | exact trivial | refine ⟨rfl, ?_⟩ | show jg_le _ _)) ?_
  exact K
set_option maxHeartbeats 2000000 in
theorem lc9 {Γ : jg_G} {X : Nat × (Nat → Int32)} {Q : jg_Q} {a b : Nat} {g : Nat → jg_C} {f : Nat → Int64} (F i : Nat) (τ : cT) (n : Nat) (c : cS) (s : rs_S) (hI : LI τ n) (hi : i + 9 ≤ X.1) (hX : X.1 ≤ 4608) (ha : 0 ≤ a) (hb : 0 ≤ b) {x : Int32} {y : Int32 × rs_S} (h1 : o_X11_known F τ n 0 c (X.2 (i + 1)) (X.2 (i + 2)) = some (.inl x)) (h2 : o_X12_known F s (X.2 (i + 1)) (X.2 (i + 2)) = some y) (h3 : y.2.1 0 = nI 0) (h4 : y.1 = x) (K : jh Γ mL_law ([], X) 100 (a - 0) (b - 0) 2513 (LL i) [] (lh g (vp_updL f 0 (x.toInt64)) τ c y.2 n) Q) : jh Γ mL_law ([], X) 100 a b 781 (LL i) [] (lh g f τ c s n) Q := by
  refine jh_aload_n dL_law_781 rfl ?_
  refine jh_arg (i := i) (j := 1) dL_law_782 dL_law_783 dL_law_785 (by decide) dL_law_786 dL_law_787 rfl rfl (by omega) hX ?_
  refine jh_arg (i := i) (j := 2) dL_law_788 dL_law_789 dL_law_791 (by decide) dL_law_792 dL_law_793 rfl rfl (by omega) hX ?_
  refine jh_aload_n dL_law_794 rfl ?_
  refine jh_wrp (As := [.ref 0, .int (X.2 (i + 1)), .int (X.2 (i + 2)), .ref 191]) (a' := 0) (b' := 0) kL_known dL_law_795 rfl (by decide) (Nat.le_of_ble_eq_true rfl) rfl (by decide) ha hb (Nat.le_of_ble_eq_true rfl) (w_known F τ n c (X.2 (i + 1)) (X.2 (i + 2)) hI.1 lh_191 (hI.2.2.2 191 (by decide) (by decide)) (by have := hI.2.1; omega) h1) ?_
  refine jh_hs (S' := [.int (nI 0)]) (h' := lh g (vp_updL f 0 (x.toInt64)) τ c s n) rfl lh_out ?_
  refine jh_istore (L' := LN i (nI 0)) dL_law_798 (by decide) rfl ?_
  refine jh_aload_n dL_law_800 rfl ?_
  refine jh_arg (i := i) (j := 1) dL_law_801 dL_law_802 dL_law_804 (by decide) dL_law_805 dL_law_806 rfl rfl (by omega) hX ?_
  refine jh_arg (i := i) (j := 2) dL_law_807 dL_law_808 dL_law_810 (by decide) dL_law_811 dL_law_812 rfl rfl (by omega) hX ?_
  refine jh_ref (As := [.int (X.2 (i + 1)), .int (X.2 (i + 2))]) hI kv_L_168 dL_law_813 rfl rfl (by decide) (Nat.le_of_ble_eq_true rfl) rfl (by decide) (Nat.le_of_ble_eq_true rfl) (fun g9 => t_X12_known (by have := hI.2.1; omega) F s (X.2 (i + 1)) (X.2 (i + 2)) h2) ?_
  refine jh_istore (L' := LM i (nI 0) y.1) dL_law_816 (by decide) rfl ?_
  refine jh_aload_n dL_law_818 rfl ?_
  refine jh_ref (As := []) hI kv_L_141 dL_law_819 rfl rfl (by decide) (Nat.le_of_ble_eq_true rfl) rfl (by decide) (Nat.le_of_ble_eq_true rfl) (fun g9 => t_X12_thrown (by have := hI.2.1; omega) y.2 (x := nI 0) (by rw [o_X12_thrown, h3])) ?_
  refine jh_iload dL_law_822 rfl ?_
  refine jh_icmp_eq (x := nI 0) (y := nI 0) (tgt := 829) dL_law_824 (by decide) (fun _ => ?_) (fun e => absurd rfl e)
  refine jh_iload dL_law_829 rfl ?_
  refine jh_if_ne (x := nI 0) (tgt := 846) dL_law_831 (by decide) (fun e => absurd (by decide) e) (fun _ => ?_)
  refine jh_aload_n dL_law_834 rfl ?_
  refine jh_iconst (v := nI 0) dL_law_835 (by decide) ?_
  refine jh_lald (q := 191) (n := 1) (f := (vp_updL f 0 (x.toInt64))) (i := nI 0) dL_law_836 (by show 191 < n; have := hI.2.1; omega) ((ct_base (hI.2.2.2 191 (by decide) (by decide))).trans lh_191) (vp_iL (iL_t (by decide) (by decide))) ?_
  refine jh_iload dL_law_837 rfl ?_
  refine jh_i2l dL_law_839 ?_
  refine jh_lcmp dL_law_840 ?_
  refine jh_if_eq (tgt := 846) dL_law_841 (by decide) (fun _ => ?_) (fun e => absurd (by rw [h4]; exact lcmp_self _) e)
  refine jh_goto (tgt := 2513) dL_law_846 (by decide) ?_
  refine jh_fg (L' := LL i) (by repeat (first | exact trivial | refine ⟨rfl, ?_⟩ | show jg_le _ _)) ?_
  exact K
set_option maxHeartbeats 2000000 in
theorem lc9x0 {Γ : jg_G} {X : Nat × (Nat → Int32)} {Q : jg_Q} {a b : Nat} {g : Nat → jg_C} {f : Nat → Int64} (F i : Nat) (τ : cT) (n : Nat) (c : cS) (s : rs_S) (hI : LI τ n) (hi : i + 9 ≤ X.1) (hX : X.1 ≤ 4608) (ha : 1 ≤ a) (hb : 6 ≤ b) (hn : n < 1000000) {y : Int32 × rs_S} (h1 : o_X11_known F τ n 0 c (X.2 (i + 1)) (X.2 (i + 2)) = some (.inr 0)) (hI2 : LI τ (n + 1)) (h2 : o_X12_known F s (X.2 (i + 1)) (X.2 (i + 2)) = some y) (h3 : y.2.1 0 = nI 1) (K : jh Γ mL_law ([], X) 100 (a - 1) (b - 6) 2513 (LL i) [] (lh (gx g n) f τ c y.2 (n + 1)) Q) : jh Γ mL_law ([], X) 100 a b 781 (LL i) [] (lh g f τ c s n) Q := by
  refine jh_aload_n dL_law_781 rfl ?_
  refine jh_arg (i := i) (j := 1) dL_law_782 dL_law_783 dL_law_785 (by decide) dL_law_786 dL_law_787 rfl rfl (by omega) hX ?_
  refine jh_arg (i := i) (j := 2) dL_law_788 dL_law_789 dL_law_791 (by decide) dL_law_792 dL_law_793 rfl rfl (by omega) hX ?_
  refine jh_aload_n dL_law_794 rfl ?_
  refine jh_wrp (As := [.ref 0, .int (X.2 (i + 1)), .int (X.2 (i + 2)), .ref 191]) (a' := 1) (b' := 6) kL_known dL_law_795 rfl (by decide) (Nat.le_of_ble_eq_true rfl) rfl (by decide) ha hb (Nat.le_of_ble_eq_true rfl) (w_known_x0 F τ n c (X.2 (i + 1)) (X.2 (i + 2)) hI.1 hn (hI.2.2.1 n (Nat.le_refl _)) h1) ?_
  refine jh_hs (S' := [.int (nI 1)]) (h' := lh (gx g n) f τ c s (n + 1)) rfl (lh_gx (by have := hI.2.1; have := nQ_le (n := n) (q := none); omega)) ?_
  refine jh_istore (L' := LN i (nI 1)) dL_law_798 (by decide) rfl ?_
  refine jh_aload_n dL_law_800 rfl ?_
  refine jh_arg (i := i) (j := 1) dL_law_801 dL_law_802 dL_law_804 (by decide) dL_law_805 dL_law_806 rfl rfl (by omega) hX ?_
  refine jh_arg (i := i) (j := 2) dL_law_807 dL_law_808 dL_law_810 (by decide) dL_law_811 dL_law_812 rfl rfl (by omega) hX ?_
  refine jh_ref (As := [.int (X.2 (i + 1)), .int (X.2 (i + 2))]) hI2 kv_L_168 dL_law_813 rfl rfl (by decide) (Nat.le_of_ble_eq_true rfl) rfl (by decide) (Nat.le_of_ble_eq_true rfl) (fun g9 => t_X12_known (by have := hI2.2.1; omega) F s (X.2 (i + 1)) (X.2 (i + 2)) h2) ?_
  refine jh_istore (L' := LM i (nI 1) y.1) dL_law_816 (by decide) rfl ?_
  refine jh_aload_n dL_law_818 rfl ?_
  refine jh_ref (As := []) hI2 kv_L_141 dL_law_819 rfl rfl (by decide) (Nat.le_of_ble_eq_true rfl) rfl (by decide) (Nat.le_of_ble_eq_true rfl) (fun g9 => t_X12_thrown (by have := hI2.2.1; omega) y.2 (x := nI 1) (by rw [o_X12_thrown, h3])) ?_
  refine jh_iload dL_law_822 rfl ?_
  refine jh_icmp_eq (x := nI 1) (y := nI 1) (tgt := 829) dL_law_824 (by decide) (fun _ => ?_) (fun e => absurd rfl e)
  refine jh_iload dL_law_829 rfl ?_
  refine jh_if_ne (x := nI 1) (tgt := 846) dL_law_831 (by decide) (fun _ => ?_) (fun e => absurd e (by decide))
  refine jh_goto (tgt := 2513) dL_law_846 (by decide) ?_
  refine jh_fg (L' := LL i) (by repeat (first | exact trivial | refine ⟨rfl, ?_⟩ | show jg_le _ _)) ?_
  exact K
set_option maxHeartbeats 2000000 in
theorem lc10 {Γ : jg_G} {X : Nat × (Nat → Int32)} {Q : jg_Q} {a b : Nat} {g : Nat → jg_C} {f : Nat → Int64} (F i : Nat) (τ : cT) (n : Nat) (c : cS) (s : rs_S) (hI : LI τ n) (hi : i + 9 ≤ X.1) (hX : X.1 ≤ 4608) (ha : 0 ≤ a) (hb : 0 ≤ b) {x : Int32 × cS} {y : Int32 × rs_S} (h1 : o_X11_berth τ n 0 c (X.2 (i + 1)) (X.2 (i + 2)) (X.2 (i + 3)) (X.2 (i + 4)) = some (.inl x)) (h2 : o_X12_berth s (X.2 (i + 1)) (X.2 (i + 2)) (X.2 (i + 3)) (X.2 (i + 4)) = some y) (h3 : y.2.1 0 = nI 0) (h4 : y.1 = x.1) (K : jh Γ mL_law ([], X) 100 (a - 0) (b - 0) 2513 (LL i) [] (lh g (vp_updL f 0 (x.1.toInt64)) τ x.2 y.2 n) Q) : jh Γ mL_law ([], X) 100 a b 849 (LL i) [] (lh g f τ c s n) Q := by
  refine jh_aload_n dL_law_849 rfl ?_
  refine jh_arg (i := i) (j := 1) dL_law_850 dL_law_851 dL_law_853 (by decide) dL_law_854 dL_law_855 rfl rfl (by omega) hX ?_
  refine jh_arg (i := i) (j := 2) dL_law_856 dL_law_857 dL_law_859 (by decide) dL_law_860 dL_law_861 rfl rfl (by omega) hX ?_
  refine jh_arg (i := i) (j := 3) dL_law_862 dL_law_863 dL_law_865 (by decide) dL_law_866 dL_law_867 rfl rfl (by omega) hX ?_
  refine jh_arg (i := i) (j := 4) dL_law_868 dL_law_869 dL_law_871 (by decide) dL_law_872 dL_law_873 rfl rfl (by omega) hX ?_
  refine jh_aload_n dL_law_874 rfl ?_
  refine jh_wrp (As := [.ref 0, .int (X.2 (i + 1)), .int (X.2 (i + 2)), .int (X.2 (i + 3)), .int (X.2 (i + 4)), .ref 191]) (a' := 0) (b' := 0) kL_berth dL_law_875 rfl (by decide) (Nat.le_of_ble_eq_true rfl) rfl (by decide) ha hb (Nat.le_of_ble_eq_true rfl) (w_berth τ n c (X.2 (i + 1)) (X.2 (i + 2)) (X.2 (i + 3)) (X.2 (i + 4)) hI.1 lh_191 (hI.2.2.2 191 (by decide) (by decide)) (by have := hI.2.1; omega) h1) ?_
  refine jh_hs (S' := [.int (nI 0)]) (h' := lh g (vp_updL f 0 (x.1.toInt64)) τ x.2 s n) rfl lh_out ?_
  refine jh_istore (L' := LN i (nI 0)) dL_law_878 (by decide) rfl ?_
  refine jh_aload_n dL_law_880 rfl ?_
  refine jh_arg (i := i) (j := 1) dL_law_881 dL_law_882 dL_law_884 (by decide) dL_law_885 dL_law_886 rfl rfl (by omega) hX ?_
  refine jh_arg (i := i) (j := 2) dL_law_887 dL_law_888 dL_law_890 (by decide) dL_law_891 dL_law_892 rfl rfl (by omega) hX ?_
  refine jh_arg (i := i) (j := 3) dL_law_893 dL_law_894 dL_law_896 (by decide) dL_law_897 dL_law_898 rfl rfl (by omega) hX ?_
  refine jh_arg (i := i) (j := 4) dL_law_899 dL_law_900 dL_law_902 (by decide) dL_law_903 dL_law_904 rfl rfl (by omega) hX ?_
  refine jh_ref (As := [.int (X.2 (i + 1)), .int (X.2 (i + 2)), .int (X.2 (i + 3)), .int (X.2 (i + 4))]) hI kv_L_172 dL_law_905 rfl rfl (by decide) (Nat.le_of_ble_eq_true rfl) rfl (by decide) (Nat.le_of_ble_eq_true rfl) (fun g9 => t_X12_berth (by have := hI.2.1; omega) s (X.2 (i + 1)) (X.2 (i + 2)) (X.2 (i + 3)) (X.2 (i + 4)) h2) ?_
  refine jh_istore (L' := LM i (nI 0) y.1) dL_law_908 (by decide) rfl ?_
  refine jh_aload_n dL_law_910 rfl ?_
  refine jh_ref (As := []) hI kv_L_141 dL_law_911 rfl rfl (by decide) (Nat.le_of_ble_eq_true rfl) rfl (by decide) (Nat.le_of_ble_eq_true rfl) (fun g9 => t_X12_thrown (by have := hI.2.1; omega) y.2 (x := nI 0) (by rw [o_X12_thrown, h3])) ?_
  refine jh_iload dL_law_914 rfl ?_
  refine jh_icmp_eq (x := nI 0) (y := nI 0) (tgt := 921) dL_law_916 (by decide) (fun _ => ?_) (fun e => absurd rfl e)
  refine jh_iload dL_law_921 rfl ?_
  refine jh_if_ne (x := nI 0) (tgt := 938) dL_law_923 (by decide) (fun e => absurd (by decide) e) (fun _ => ?_)
  refine jh_aload_n dL_law_926 rfl ?_
  refine jh_iconst (v := nI 0) dL_law_927 (by decide) ?_
  refine jh_lald (q := 191) (n := 1) (f := (vp_updL f 0 (x.1.toInt64))) (i := nI 0) dL_law_928 (by show 191 < n; have := hI.2.1; omega) ((ct_base (hI.2.2.2 191 (by decide) (by decide))).trans lh_191) (vp_iL (iL_t (by decide) (by decide))) ?_
  refine jh_iload dL_law_929 rfl ?_
  refine jh_i2l dL_law_931 ?_
  refine jh_lcmp dL_law_932 ?_
  refine jh_if_eq (tgt := 938) dL_law_933 (by decide) (fun _ => ?_) (fun e => absurd (by rw [h4]; exact lcmp_self _) e)
  refine jh_goto (tgt := 2513) dL_law_938 (by decide) ?_
  refine jh_fg (L' := LL i) (by repeat (first | exact trivial | refine ⟨rfl, ?_⟩ | show jg_le _ _)) ?_
  exact K
set_option maxHeartbeats 2000000 in
theorem lc10x0 {Γ : jg_G} {X : Nat × (Nat → Int32)} {Q : jg_Q} {a b : Nat} {g : Nat → jg_C} {f : Nat → Int64} (F i : Nat) (τ : cT) (n : Nat) (c : cS) (s : rs_S) (hI : LI τ n) (hi : i + 9 ≤ X.1) (hX : X.1 ≤ 4608) (ha : 1 ≤ a) (hb : 6 ≤ b) (hn : n < 1000000) {z : cS} {y : Int32 × rs_S} (h1 : o_X11_berth τ n 0 c (X.2 (i + 1)) (X.2 (i + 2)) (X.2 (i + 3)) (X.2 (i + 4)) = some (.inr (0, z))) (hI2 : LI τ (n + 1)) (h2 : o_X12_berth s (X.2 (i + 1)) (X.2 (i + 2)) (X.2 (i + 3)) (X.2 (i + 4)) = some y) (h3 : y.2.1 0 = nI 1) (K : jh Γ mL_law ([], X) 100 (a - 1) (b - 6) 2513 (LL i) [] (lh (gx g n) f τ z y.2 (n + 1)) Q) : jh Γ mL_law ([], X) 100 a b 849 (LL i) [] (lh g f τ c s n) Q := by
  refine jh_aload_n dL_law_849 rfl ?_
  refine jh_arg (i := i) (j := 1) dL_law_850 dL_law_851 dL_law_853 (by decide) dL_law_854 dL_law_855 rfl rfl (by omega) hX ?_
  refine jh_arg (i := i) (j := 2) dL_law_856 dL_law_857 dL_law_859 (by decide) dL_law_860 dL_law_861 rfl rfl (by omega) hX ?_
  refine jh_arg (i := i) (j := 3) dL_law_862 dL_law_863 dL_law_865 (by decide) dL_law_866 dL_law_867 rfl rfl (by omega) hX ?_
  refine jh_arg (i := i) (j := 4) dL_law_868 dL_law_869 dL_law_871 (by decide) dL_law_872 dL_law_873 rfl rfl (by omega) hX ?_
  refine jh_aload_n dL_law_874 rfl ?_
  refine jh_wrp (As := [.ref 0, .int (X.2 (i + 1)), .int (X.2 (i + 2)), .int (X.2 (i + 3)), .int (X.2 (i + 4)), .ref 191]) (a' := 1) (b' := 6) kL_berth dL_law_875 rfl (by decide) (Nat.le_of_ble_eq_true rfl) rfl (by decide) ha hb (Nat.le_of_ble_eq_true rfl) (w_berth_x0 τ n c (X.2 (i + 1)) (X.2 (i + 2)) (X.2 (i + 3)) (X.2 (i + 4)) hI.1 hn (hI.2.2.1 n (Nat.le_refl _)) h1) ?_
  refine jh_hs (S' := [.int (nI 1)]) (h' := lh (gx g n) f τ z s (n + 1)) rfl (lh_gx (by have := hI.2.1; have := nQ_le (n := n) (q := none); omega)) ?_
  refine jh_istore (L' := LN i (nI 1)) dL_law_878 (by decide) rfl ?_
  refine jh_aload_n dL_law_880 rfl ?_
  refine jh_arg (i := i) (j := 1) dL_law_881 dL_law_882 dL_law_884 (by decide) dL_law_885 dL_law_886 rfl rfl (by omega) hX ?_
  refine jh_arg (i := i) (j := 2) dL_law_887 dL_law_888 dL_law_890 (by decide) dL_law_891 dL_law_892 rfl rfl (by omega) hX ?_
  refine jh_arg (i := i) (j := 3) dL_law_893 dL_law_894 dL_law_896 (by decide) dL_law_897 dL_law_898 rfl rfl (by omega) hX ?_
  refine jh_arg (i := i) (j := 4) dL_law_899 dL_law_900 dL_law_902 (by decide) dL_law_903 dL_law_904 rfl rfl (by omega) hX ?_
  refine jh_ref (As := [.int (X.2 (i + 1)), .int (X.2 (i + 2)), .int (X.2 (i + 3)), .int (X.2 (i + 4))]) hI2 kv_L_172 dL_law_905 rfl rfl (by decide) (Nat.le_of_ble_eq_true rfl) rfl (by decide) (Nat.le_of_ble_eq_true rfl) (fun g9 => t_X12_berth (by have := hI2.2.1; omega) s (X.2 (i + 1)) (X.2 (i + 2)) (X.2 (i + 3)) (X.2 (i + 4)) h2) ?_
  refine jh_istore (L' := LM i (nI 1) y.1) dL_law_908 (by decide) rfl ?_
  refine jh_aload_n dL_law_910 rfl ?_
  refine jh_ref (As := []) hI2 kv_L_141 dL_law_911 rfl rfl (by decide) (Nat.le_of_ble_eq_true rfl) rfl (by decide) (Nat.le_of_ble_eq_true rfl) (fun g9 => t_X12_thrown (by have := hI2.2.1; omega) y.2 (x := nI 1) (by rw [o_X12_thrown, h3])) ?_
  refine jh_iload dL_law_914 rfl ?_
  refine jh_icmp_eq (x := nI 1) (y := nI 1) (tgt := 921) dL_law_916 (by decide) (fun _ => ?_) (fun e => absurd rfl e)
  refine jh_iload dL_law_921 rfl ?_
  refine jh_if_ne (x := nI 1) (tgt := 938) dL_law_923 (by decide) (fun _ => ?_) (fun e => absurd e (by decide))
  refine jh_goto (tgt := 2513) dL_law_938 (by decide) ?_
  refine jh_fg (L' := LL i) (by repeat (first | exact trivial | refine ⟨rfl, ?_⟩ | show jg_le _ _)) ?_
  exact K
set_option maxHeartbeats 2000000 in
theorem lc10x1 {Γ : jg_G} {X : Nat × (Nat → Int32)} {Q : jg_Q} {a b : Nat} {g : Nat → jg_C} {f : Nat → Int64} (F i : Nat) (τ : cT) (n : Nat) (c : cS) (s : rs_S) (hI : LI τ n) (hi : i + 9 ≤ X.1) (hX : X.1 ≤ 4608) (ha : 1 ≤ a) (hb : 6 ≤ b) (hn : n < 1000000) {z : cS} {y : Int32 × rs_S} (h1 : o_X11_berth τ n 0 c (X.2 (i + 1)) (X.2 (i + 2)) (X.2 (i + 3)) (X.2 (i + 4)) = some (.inr (1, z))) (hI2 : LI τ (n + 1)) (h2 : o_X12_berth s (X.2 (i + 1)) (X.2 (i + 2)) (X.2 (i + 3)) (X.2 (i + 4)) = some y) (h3 : y.2.1 0 = nI 2) (K : jh Γ mL_law ([], X) 100 (a - 1) (b - 6) 2513 (LL i) [] (lh (gx g n) f τ z y.2 (n + 1)) Q) : jh Γ mL_law ([], X) 100 a b 849 (LL i) [] (lh g f τ c s n) Q := by
  refine jh_aload_n dL_law_849 rfl ?_
  refine jh_arg (i := i) (j := 1) dL_law_850 dL_law_851 dL_law_853 (by decide) dL_law_854 dL_law_855 rfl rfl (by omega) hX ?_
  refine jh_arg (i := i) (j := 2) dL_law_856 dL_law_857 dL_law_859 (by decide) dL_law_860 dL_law_861 rfl rfl (by omega) hX ?_
  refine jh_arg (i := i) (j := 3) dL_law_862 dL_law_863 dL_law_865 (by decide) dL_law_866 dL_law_867 rfl rfl (by omega) hX ?_
  refine jh_arg (i := i) (j := 4) dL_law_868 dL_law_869 dL_law_871 (by decide) dL_law_872 dL_law_873 rfl rfl (by omega) hX ?_
  refine jh_aload_n dL_law_874 rfl ?_
  refine jh_wrp (As := [.ref 0, .int (X.2 (i + 1)), .int (X.2 (i + 2)), .int (X.2 (i + 3)), .int (X.2 (i + 4)), .ref 191]) (a' := 1) (b' := 6) kL_berth dL_law_875 rfl (by decide) (Nat.le_of_ble_eq_true rfl) rfl (by decide) ha hb (Nat.le_of_ble_eq_true rfl) (w_berth_x1 τ n c (X.2 (i + 1)) (X.2 (i + 2)) (X.2 (i + 3)) (X.2 (i + 4)) hI.1 hn (hI.2.2.1 n (Nat.le_refl _)) h1) ?_
  refine jh_hs (S' := [.int (nI 2)]) (h' := lh (gx g n) f τ z s (n + 1)) rfl (lh_gx (by have := hI.2.1; have := nQ_le (n := n) (q := none); omega)) ?_
  refine jh_istore (L' := LN i (nI 2)) dL_law_878 (by decide) rfl ?_
  refine jh_aload_n dL_law_880 rfl ?_
  refine jh_arg (i := i) (j := 1) dL_law_881 dL_law_882 dL_law_884 (by decide) dL_law_885 dL_law_886 rfl rfl (by omega) hX ?_
  refine jh_arg (i := i) (j := 2) dL_law_887 dL_law_888 dL_law_890 (by decide) dL_law_891 dL_law_892 rfl rfl (by omega) hX ?_
  refine jh_arg (i := i) (j := 3) dL_law_893 dL_law_894 dL_law_896 (by decide) dL_law_897 dL_law_898 rfl rfl (by omega) hX ?_
  refine jh_arg (i := i) (j := 4) dL_law_899 dL_law_900 dL_law_902 (by decide) dL_law_903 dL_law_904 rfl rfl (by omega) hX ?_
  refine jh_ref (As := [.int (X.2 (i + 1)), .int (X.2 (i + 2)), .int (X.2 (i + 3)), .int (X.2 (i + 4))]) hI2 kv_L_172 dL_law_905 rfl rfl (by decide) (Nat.le_of_ble_eq_true rfl) rfl (by decide) (Nat.le_of_ble_eq_true rfl) (fun g9 => t_X12_berth (by have := hI2.2.1; omega) s (X.2 (i + 1)) (X.2 (i + 2)) (X.2 (i + 3)) (X.2 (i + 4)) h2) ?_
  refine jh_istore (L' := LM i (nI 2) y.1) dL_law_908 (by decide) rfl ?_
  refine jh_aload_n dL_law_910 rfl ?_
  refine jh_ref (As := []) hI2 kv_L_141 dL_law_911 rfl rfl (by decide) (Nat.le_of_ble_eq_true rfl) rfl (by decide) (Nat.le_of_ble_eq_true rfl) (fun g9 => t_X12_thrown (by have := hI2.2.1; omega) y.2 (x := nI 2) (by rw [o_X12_thrown, h3])) ?_
  refine jh_iload dL_law_914 rfl ?_
  refine jh_icmp_eq (x := nI 2) (y := nI 2) (tgt := 921) dL_law_916 (by decide) (fun _ => ?_) (fun e => absurd rfl e)
  refine jh_iload dL_law_921 rfl ?_
  refine jh_if_ne (x := nI 2) (tgt := 938) dL_law_923 (by decide) (fun _ => ?_) (fun e => absurd e (by decide))
  refine jh_goto (tgt := 2513) dL_law_938 (by decide) ?_
  refine jh_fg (L' := LL i) (by repeat (first | exact trivial | refine ⟨rfl, ?_⟩ | show jg_le _ _)) ?_
  exact K
set_option maxHeartbeats 2000000 in
theorem lc10x3 {Γ : jg_G} {X : Nat × (Nat → Int32)} {Q : jg_Q} {a b : Nat} {g : Nat → jg_C} {f : Nat → Int64} (F i : Nat) (τ : cT) (n : Nat) (c : cS) (s : rs_S) (hI : LI τ n) (hi : i + 9 ≤ X.1) (hX : X.1 ≤ 4608) (ha : 1 ≤ a) (hb : 6 ≤ b) (hn : n < 1000000) {z : cS} {y : Int32 × rs_S} (h1 : o_X11_berth τ n 0 c (X.2 (i + 1)) (X.2 (i + 2)) (X.2 (i + 3)) (X.2 (i + 4)) = some (.inr (3, z))) (hI2 : LI τ (n + 1)) (h2 : o_X12_berth s (X.2 (i + 1)) (X.2 (i + 2)) (X.2 (i + 3)) (X.2 (i + 4)) = some y) (h3 : y.2.1 0 = nI 3) (K : jh Γ mL_law ([], X) 100 (a - 1) (b - 6) 2513 (LL i) [] (lh (gx g n) f τ z y.2 (n + 1)) Q) : jh Γ mL_law ([], X) 100 a b 849 (LL i) [] (lh g f τ c s n) Q := by
  refine jh_aload_n dL_law_849 rfl ?_
  refine jh_arg (i := i) (j := 1) dL_law_850 dL_law_851 dL_law_853 (by decide) dL_law_854 dL_law_855 rfl rfl (by omega) hX ?_
  refine jh_arg (i := i) (j := 2) dL_law_856 dL_law_857 dL_law_859 (by decide) dL_law_860 dL_law_861 rfl rfl (by omega) hX ?_
  refine jh_arg (i := i) (j := 3) dL_law_862 dL_law_863 dL_law_865 (by decide) dL_law_866 dL_law_867 rfl rfl (by omega) hX ?_
  refine jh_arg (i := i) (j := 4) dL_law_868 dL_law_869 dL_law_871 (by decide) dL_law_872 dL_law_873 rfl rfl (by omega) hX ?_
  refine jh_aload_n dL_law_874 rfl ?_
  refine jh_wrp (As := [.ref 0, .int (X.2 (i + 1)), .int (X.2 (i + 2)), .int (X.2 (i + 3)), .int (X.2 (i + 4)), .ref 191]) (a' := 1) (b' := 6) kL_berth dL_law_875 rfl (by decide) (Nat.le_of_ble_eq_true rfl) rfl (by decide) ha hb (Nat.le_of_ble_eq_true rfl) (w_berth_x3 τ n c (X.2 (i + 1)) (X.2 (i + 2)) (X.2 (i + 3)) (X.2 (i + 4)) hI.1 hn (hI.2.2.1 n (Nat.le_refl _)) h1) ?_
  refine jh_hs (S' := [.int (nI 3)]) (h' := lh (gx g n) f τ z s (n + 1)) rfl (lh_gx (by have := hI.2.1; have := nQ_le (n := n) (q := none); omega)) ?_
  refine jh_istore (L' := LN i (nI 3)) dL_law_878 (by decide) rfl ?_
  refine jh_aload_n dL_law_880 rfl ?_
  refine jh_arg (i := i) (j := 1) dL_law_881 dL_law_882 dL_law_884 (by decide) dL_law_885 dL_law_886 rfl rfl (by omega) hX ?_
  refine jh_arg (i := i) (j := 2) dL_law_887 dL_law_888 dL_law_890 (by decide) dL_law_891 dL_law_892 rfl rfl (by omega) hX ?_
  refine jh_arg (i := i) (j := 3) dL_law_893 dL_law_894 dL_law_896 (by decide) dL_law_897 dL_law_898 rfl rfl (by omega) hX ?_
  refine jh_arg (i := i) (j := 4) dL_law_899 dL_law_900 dL_law_902 (by decide) dL_law_903 dL_law_904 rfl rfl (by omega) hX ?_
  refine jh_ref (As := [.int (X.2 (i + 1)), .int (X.2 (i + 2)), .int (X.2 (i + 3)), .int (X.2 (i + 4))]) hI2 kv_L_172 dL_law_905 rfl rfl (by decide) (Nat.le_of_ble_eq_true rfl) rfl (by decide) (Nat.le_of_ble_eq_true rfl) (fun g9 => t_X12_berth (by have := hI2.2.1; omega) s (X.2 (i + 1)) (X.2 (i + 2)) (X.2 (i + 3)) (X.2 (i + 4)) h2) ?_
  refine jh_istore (L' := LM i (nI 3) y.1) dL_law_908 (by decide) rfl ?_
  refine jh_aload_n dL_law_910 rfl ?_
  refine jh_ref (As := []) hI2 kv_L_141 dL_law_911 rfl rfl (by decide) (Nat.le_of_ble_eq_true rfl) rfl (by decide) (Nat.le_of_ble_eq_true rfl) (fun g9 => t_X12_thrown (by have := hI2.2.1; omega) y.2 (x := nI 3) (by rw [o_X12_thrown, h3])) ?_
  refine jh_iload dL_law_914 rfl ?_
  refine jh_icmp_eq (x := nI 3) (y := nI 3) (tgt := 921) dL_law_916 (by decide) (fun _ => ?_) (fun e => absurd rfl e)
  refine jh_iload dL_law_921 rfl ?_
  refine jh_if_ne (x := nI 3) (tgt := 938) dL_law_923 (by decide) (fun _ => ?_) (fun e => absurd e (by decide))
  refine jh_goto (tgt := 2513) dL_law_938 (by decide) ?_
  refine jh_fg (L' := LL i) (by repeat (first | exact trivial | refine ⟨rfl, ?_⟩ | show jg_le _ _)) ?_
  exact K
set_option maxHeartbeats 2000000 in
theorem lc11 {Γ : jg_G} {X : Nat × (Nat → Int32)} {Q : jg_Q} {a b : Nat} {g : Nat → jg_C} {f : Nat → Int64} (F i : Nat) (τ : cT) (n : Nat) (c : cS) (s : rs_S) (hI : LI τ n) (hi : i + 9 ≤ X.1) (hX : X.1 ≤ 4608) (ha : 0 ≤ a) (hb : 0 ≤ b) {x : cS} {y : rs_S} (h1 : o_X11_hands τ n 0 c (X.2 (i + 1)) (X.2 (i + 2)) = some (.inl x)) (h2 : o_X12_hands s (X.2 (i + 1)) (X.2 (i + 2)) = some y) (h3 : y.1 0 = nI 0) (K : jh Γ mL_law ([], X) 100 (a - 0) (b - 0) 2513 (LL i) [] (lh g f τ x y n) Q) : jh Γ mL_law ([], X) 100 a b 941 (LL i) [] (lh g f τ c s n) Q := by
  refine jh_aload_n dL_law_941 rfl ?_
  refine jh_arg (i := i) (j := 1) dL_law_942 dL_law_943 dL_law_945 (by decide) dL_law_946 dL_law_947 rfl rfl (by omega) hX ?_
  refine jh_arg (i := i) (j := 2) dL_law_948 dL_law_949 dL_law_951 (by decide) dL_law_952 dL_law_953 rfl rfl (by omega) hX ?_
  refine jh_wrp (As := [.ref 0, .int (X.2 (i + 1)), .int (X.2 (i + 2))]) (a' := 0) (b' := 0) kL_hands dL_law_954 rfl (by decide) (Nat.le_of_ble_eq_true rfl) rfl (by decide) ha hb (Nat.le_of_ble_eq_true rfl) (w_hands τ n c (X.2 (i + 1)) (X.2 (i + 2)) hI.1 h1) ?_
  refine jh_hs (S' := [.int (nI 0)]) (h' := lh g f τ x s n) rfl rfl ?_
  refine jh_istore (L' := LN i (nI 0)) dL_law_957 (by decide) rfl ?_
  refine jh_aload_n dL_law_959 rfl ?_
  refine jh_arg (i := i) (j := 1) dL_law_960 dL_law_961 dL_law_963 (by decide) dL_law_964 dL_law_965 rfl rfl (by omega) hX ?_
  refine jh_arg (i := i) (j := 2) dL_law_966 dL_law_967 dL_law_969 (by decide) dL_law_970 dL_law_971 rfl rfl (by omega) hX ?_
  refine jh_ref (As := [.int (X.2 (i + 1)), .int (X.2 (i + 2))]) hI kv_L_175 dL_law_972 rfl rfl (by decide) (Nat.le_of_ble_eq_true rfl) rfl (by decide) (Nat.le_of_ble_eq_true rfl) (fun g9 => t_X12_hands (by have := hI.2.1; omega) s (X.2 (i + 1)) (X.2 (i + 2)) h2) ?_
  refine jh_aload_n dL_law_975 rfl ?_
  refine jh_ref (As := []) hI kv_L_141 dL_law_976 rfl rfl (by decide) (Nat.le_of_ble_eq_true rfl) rfl (by decide) (Nat.le_of_ble_eq_true rfl) (fun g9 => t_X12_thrown (by have := hI.2.1; omega) y (x := nI 0) (by rw [o_X12_thrown, h3])) ?_
  refine jh_iload dL_law_979 rfl ?_
  refine jh_icmp_eq (x := nI 0) (y := nI 0) (tgt := 986) dL_law_981 (by decide) (fun _ => ?_) (fun e => absurd rfl e)
  refine jh_goto (tgt := 2513) dL_law_986 (by decide) ?_
  refine jh_fg (L' := LL i) (by repeat (first | exact trivial | refine ⟨rfl, ?_⟩ | show jg_le _ _)) ?_
  exact K
set_option maxHeartbeats 2000000 in
theorem lc11x1 {Γ : jg_G} {X : Nat × (Nat → Int32)} {Q : jg_Q} {a b : Nat} {g : Nat → jg_C} {f : Nat → Int64} (F i : Nat) (τ : cT) (n : Nat) (c : cS) (s : rs_S) (hI : LI τ n) (hi : i + 9 ≤ X.1) (hX : X.1 ≤ 4608) (ha : 1 ≤ a) (hb : 6 ≤ b) (hn : n < 1000000) {z : cS} {y : rs_S} (h1 : o_X11_hands τ n 0 c (X.2 (i + 1)) (X.2 (i + 2)) = some (.inr (1, z))) (hI2 : LI τ (n + 1)) (h2 : o_X12_hands s (X.2 (i + 1)) (X.2 (i + 2)) = some y) (h3 : y.1 0 = nI 1) (K : jh Γ mL_law ([], X) 100 (a - 1) (b - 6) 2513 (LL i) [] (lh (gx g n) f τ z y (n + 1)) Q) : jh Γ mL_law ([], X) 100 a b 941 (LL i) [] (lh g f τ c s n) Q := by
  refine jh_aload_n dL_law_941 rfl ?_
  refine jh_arg (i := i) (j := 1) dL_law_942 dL_law_943 dL_law_945 (by decide) dL_law_946 dL_law_947 rfl rfl (by omega) hX ?_
  refine jh_arg (i := i) (j := 2) dL_law_948 dL_law_949 dL_law_951 (by decide) dL_law_952 dL_law_953 rfl rfl (by omega) hX ?_
  refine jh_wrp (As := [.ref 0, .int (X.2 (i + 1)), .int (X.2 (i + 2))]) (a' := 1) (b' := 6) kL_hands dL_law_954 rfl (by decide) (Nat.le_of_ble_eq_true rfl) rfl (by decide) ha hb (Nat.le_of_ble_eq_true rfl) (w_hands_x1 τ n c (X.2 (i + 1)) (X.2 (i + 2)) hI.1 hn (hI.2.2.1 n (Nat.le_refl _)) h1) ?_
  refine jh_hs (S' := [.int (nI 1)]) (h' := lh (gx g n) f τ z s (n + 1)) rfl (lh_gx (by have := hI.2.1; have := nQ_le (n := n) (q := none); omega)) ?_
  refine jh_istore (L' := LN i (nI 1)) dL_law_957 (by decide) rfl ?_
  refine jh_aload_n dL_law_959 rfl ?_
  refine jh_arg (i := i) (j := 1) dL_law_960 dL_law_961 dL_law_963 (by decide) dL_law_964 dL_law_965 rfl rfl (by omega) hX ?_
  refine jh_arg (i := i) (j := 2) dL_law_966 dL_law_967 dL_law_969 (by decide) dL_law_970 dL_law_971 rfl rfl (by omega) hX ?_
  refine jh_ref (As := [.int (X.2 (i + 1)), .int (X.2 (i + 2))]) hI2 kv_L_175 dL_law_972 rfl rfl (by decide) (Nat.le_of_ble_eq_true rfl) rfl (by decide) (Nat.le_of_ble_eq_true rfl) (fun g9 => t_X12_hands (by have := hI2.2.1; omega) s (X.2 (i + 1)) (X.2 (i + 2)) h2) ?_
  refine jh_aload_n dL_law_975 rfl ?_
  refine jh_ref (As := []) hI2 kv_L_141 dL_law_976 rfl rfl (by decide) (Nat.le_of_ble_eq_true rfl) rfl (by decide) (Nat.le_of_ble_eq_true rfl) (fun g9 => t_X12_thrown (by have := hI2.2.1; omega) y (x := nI 1) (by rw [o_X12_thrown, h3])) ?_
  refine jh_iload dL_law_979 rfl ?_
  refine jh_icmp_eq (x := nI 1) (y := nI 1) (tgt := 986) dL_law_981 (by decide) (fun _ => ?_) (fun e => absurd rfl e)
  refine jh_goto (tgt := 2513) dL_law_986 (by decide) ?_
  refine jh_fg (L' := LL i) (by repeat (first | exact trivial | refine ⟨rfl, ?_⟩ | show jg_le _ _)) ?_
  exact K
set_option maxHeartbeats 2000000 in
theorem lc12 {Γ : jg_G} {X : Nat × (Nat → Int32)} {Q : jg_Q} {a b : Nat} {g : Nat → jg_C} {f : Nat → Int64} (F i : Nat) (τ : cT) (n : Nat) (c : cS) (s : rs_S) (hI : LI τ n) (hi : i + 9 ≤ X.1) (hX : X.1 ≤ 4608) (ha : 0 ≤ a) (hb : 0 ≤ b) {x : Int32 × cS} {y : Int32 × rs_S} (h1 : o_X11_payer τ n 0 c = some (.inl x)) (h2 : o_X12_payer s = some y) (h3 : y.2.1 0 = nI 0) (h4 : y.1 = x.1) (K : jh Γ mL_law ([], X) 100 (a - 0) (b - 0) 2513 (LL i) [] (lh g (vp_updL f 0 (x.1.toInt64)) τ x.2 y.2 n) Q) : jh Γ mL_law ([], X) 100 a b 989 (LL i) [] (lh g f τ c s n) Q := by
  refine jh_aload_n dL_law_989 rfl ?_
  refine jh_aload_n dL_law_990 rfl ?_
  refine jh_wrp (As := [.ref 0, .ref 191]) (a' := 0) (b' := 0) kL_payer dL_law_991 rfl (by decide) (Nat.le_of_ble_eq_true rfl) rfl (by decide) ha hb (Nat.le_of_ble_eq_true rfl) (w_payer τ n c hI.1 lh_191 (hI.2.2.2 191 (by decide) (by decide)) (by have := hI.2.1; omega) h1) ?_
  refine jh_hs (S' := [.int (nI 0)]) (h' := lh g (vp_updL f 0 (x.1.toInt64)) τ x.2 s n) rfl lh_out ?_
  refine jh_istore (L' := LN i (nI 0)) dL_law_994 (by decide) rfl ?_
  refine jh_aload_n dL_law_996 rfl ?_
  refine jh_ref (As := []) hI kv_L_179 dL_law_997 rfl rfl (by decide) (Nat.le_of_ble_eq_true rfl) rfl (by decide) (Nat.le_of_ble_eq_true rfl) (fun g9 => t_X12_payer (by have := hI.2.1; omega) s h2) ?_
  refine jh_istore (L' := LM i (nI 0) y.1) dL_law_1000 (by decide) rfl ?_
  refine jh_aload_n dL_law_1002 rfl ?_
  refine jh_ref (As := []) hI kv_L_141 dL_law_1003 rfl rfl (by decide) (Nat.le_of_ble_eq_true rfl) rfl (by decide) (Nat.le_of_ble_eq_true rfl) (fun g9 => t_X12_thrown (by have := hI.2.1; omega) y.2 (x := nI 0) (by rw [o_X12_thrown, h3])) ?_
  refine jh_iload dL_law_1006 rfl ?_
  refine jh_icmp_eq (x := nI 0) (y := nI 0) (tgt := 1013) dL_law_1008 (by decide) (fun _ => ?_) (fun e => absurd rfl e)
  refine jh_iload dL_law_1013 rfl ?_
  refine jh_if_ne (x := nI 0) (tgt := 1030) dL_law_1015 (by decide) (fun e => absurd (by decide) e) (fun _ => ?_)
  refine jh_aload_n dL_law_1018 rfl ?_
  refine jh_iconst (v := nI 0) dL_law_1019 (by decide) ?_
  refine jh_lald (q := 191) (n := 1) (f := (vp_updL f 0 (x.1.toInt64))) (i := nI 0) dL_law_1020 (by show 191 < n; have := hI.2.1; omega) ((ct_base (hI.2.2.2 191 (by decide) (by decide))).trans lh_191) (vp_iL (iL_t (by decide) (by decide))) ?_
  refine jh_iload dL_law_1021 rfl ?_
  refine jh_i2l dL_law_1023 ?_
  refine jh_lcmp dL_law_1024 ?_
  refine jh_if_eq (tgt := 1030) dL_law_1025 (by decide) (fun _ => ?_) (fun e => absurd (by rw [h4]; exact lcmp_self _) e)
  refine jh_goto (tgt := 2513) dL_law_1030 (by decide) ?_
  refine jh_fg (L' := LL i) (by repeat (first | exact trivial | refine ⟨rfl, ?_⟩ | show jg_le _ _)) ?_
  exact K
set_option maxHeartbeats 2000000 in
theorem lc12x3 {Γ : jg_G} {X : Nat × (Nat → Int32)} {Q : jg_Q} {a b : Nat} {g : Nat → jg_C} {f : Nat → Int64} (F i : Nat) (τ : cT) (n : Nat) (c : cS) (s : rs_S) (hI : LI τ n) (hi : i + 9 ≤ X.1) (hX : X.1 ≤ 4608) (ha : 1 ≤ a) (hb : 6 ≤ b) (hn : n < 1000000) {z : cS} {y : Int32 × rs_S} (h1 : o_X11_payer τ n 0 c = some (.inr (3, z))) (hI2 : LI τ (n + 1)) (h2 : o_X12_payer s = some y) (h3 : y.2.1 0 = nI 1) (K : jh Γ mL_law ([], X) 100 (a - 1) (b - 6) 2513 (LL i) [] (lh (gx g n) f τ z y.2 (n + 1)) Q) : jh Γ mL_law ([], X) 100 a b 989 (LL i) [] (lh g f τ c s n) Q := by
  refine jh_aload_n dL_law_989 rfl ?_
  refine jh_aload_n dL_law_990 rfl ?_
  refine jh_wrp (As := [.ref 0, .ref 191]) (a' := 1) (b' := 6) kL_payer dL_law_991 rfl (by decide) (Nat.le_of_ble_eq_true rfl) rfl (by decide) ha hb (Nat.le_of_ble_eq_true rfl) (w_payer_x3 τ n c hI.1 hn (hI.2.2.1 n (Nat.le_refl _)) h1) ?_
  refine jh_hs (S' := [.int (nI 1)]) (h' := lh (gx g n) f τ z s (n + 1)) rfl (lh_gx (by have := hI.2.1; have := nQ_le (n := n) (q := none); omega)) ?_
  refine jh_istore (L' := LN i (nI 1)) dL_law_994 (by decide) rfl ?_
  refine jh_aload_n dL_law_996 rfl ?_
  refine jh_ref (As := []) hI2 kv_L_179 dL_law_997 rfl rfl (by decide) (Nat.le_of_ble_eq_true rfl) rfl (by decide) (Nat.le_of_ble_eq_true rfl) (fun g9 => t_X12_payer (by have := hI2.2.1; omega) s h2) ?_
  refine jh_istore (L' := LM i (nI 1) y.1) dL_law_1000 (by decide) rfl ?_
  refine jh_aload_n dL_law_1002 rfl ?_
  refine jh_ref (As := []) hI2 kv_L_141 dL_law_1003 rfl rfl (by decide) (Nat.le_of_ble_eq_true rfl) rfl (by decide) (Nat.le_of_ble_eq_true rfl) (fun g9 => t_X12_thrown (by have := hI2.2.1; omega) y.2 (x := nI 1) (by rw [o_X12_thrown, h3])) ?_
  refine jh_iload dL_law_1006 rfl ?_
  refine jh_icmp_eq (x := nI 1) (y := nI 1) (tgt := 1013) dL_law_1008 (by decide) (fun _ => ?_) (fun e => absurd rfl e)
  refine jh_iload dL_law_1013 rfl ?_
  refine jh_if_ne (x := nI 1) (tgt := 1030) dL_law_1015 (by decide) (fun _ => ?_) (fun e => absurd e (by decide))
  refine jh_goto (tgt := 2513) dL_law_1030 (by decide) ?_
  refine jh_fg (L' := LL i) (by repeat (first | exact trivial | refine ⟨rfl, ?_⟩ | show jg_le _ _)) ?_
  exact K
set_option maxHeartbeats 2000000 in
theorem lc13 {Γ : jg_G} {X : Nat × (Nat → Int32)} {Q : jg_Q} {a b : Nat} {g : Nat → jg_C} {f : Nat → Int64} (F i : Nat) (τ : cT) (n : Nat) (c : cS) (s : rs_S) (hI : LI τ n) (hi : i + 9 ≤ X.1) (hX : X.1 ≤ 4608) (ha : 0 ≤ a) (hb : 0 ≤ b) {x : Int32 × cS} {y : Int32 × rs_S} (h1 : o_X11_ship F τ n 0 c (X.2 (i + 1)) (X.2 (i + 2)) (X.2 (i + 3)) (X.2 (i + 4)) (X.2 (i + 5)) (X.2 (i + 6)) (bz (X.2 (i + 7))) (X.2 (i + 8)) = some (.inl x)) (h2 : o_X12_ship F s (X.2 (i + 1)) (X.2 (i + 2)) (X.2 (i + 3)) (X.2 (i + 4)) (X.2 (i + 5)) (X.2 (i + 6)) (bz (X.2 (i + 7))) (X.2 (i + 8)) = some y) (h3 : y.2.1 0 = nI 0) (h4 : y.1 = x.1) (K : jh Γ mL_law ([], X) 100 (a - 0) (b - 0) 2513 (LL i) [] (lh g (vp_updL f 0 (x.1.toInt64)) τ x.2 y.2 n) Q) : jh Γ mL_law ([], X) 100 a b 1033 (LL i) [] (lh g f τ c s n) Q := by
  refine jh_aload_n dL_law_1033 rfl ?_
  refine jh_arg (i := i) (j := 1) dL_law_1034 dL_law_1035 dL_law_1037 (by decide) dL_law_1038 dL_law_1039 rfl rfl (by omega) hX ?_
  refine jh_arg (i := i) (j := 2) dL_law_1040 dL_law_1041 dL_law_1043 (by decide) dL_law_1044 dL_law_1045 rfl rfl (by omega) hX ?_
  refine jh_arg (i := i) (j := 3) dL_law_1046 dL_law_1047 dL_law_1049 (by decide) dL_law_1050 dL_law_1051 rfl rfl (by omega) hX ?_
  refine jh_arg (i := i) (j := 4) dL_law_1052 dL_law_1053 dL_law_1055 (by decide) dL_law_1056 dL_law_1057 rfl rfl (by omega) hX ?_
  refine jh_arg (i := i) (j := 5) dL_law_1058 dL_law_1059 dL_law_1061 (by decide) dL_law_1062 dL_law_1063 rfl rfl (by omega) hX ?_
  refine jh_argB (i := i) (j := 6) dL_law_1064 dL_law_1065 dL_law_1067 (by decide) dL_law_1069 dL_law_1070 rfl rfl (by omega) hX ?_
  refine jh_argB (i := i) (j := 7) dL_law_1071 dL_law_1072 dL_law_1074 (by decide) dL_law_1076 dL_law_1077 rfl rfl (by omega) hX ?_
  refine jh_bz (x := (X.2 (i + 7))) (t := 1085) (j := 1086) dL_law_1078 (by decide) dL_law_1081 dL_law_1082 (by decide) dL_law_1085 rfl ?_
  refine jh_argB (i := i) (j := 8) dL_law_1086 dL_law_1087 dL_law_1089 (by decide) dL_law_1091 dL_law_1092 rfl rfl (by omega) hX ?_
  refine jh_aload_n dL_law_1093 rfl ?_
  refine jh_wrp (As := [.ref 0, .int (X.2 (i + 1)), .int (X.2 (i + 2)), .int (X.2 (i + 3)), .int (X.2 (i + 4)), .int (X.2 (i + 5)), .int (X.2 (i + 6)), .int (bz (X.2 (i + 7))), .int (X.2 (i + 8)), .ref 191]) (a' := 0) (b' := 0) kL_ship dL_law_1094 rfl (by decide) (Nat.le_of_ble_eq_true rfl) rfl (by decide) ha hb (Nat.le_of_ble_eq_true rfl) (w_ship F τ n c (X.2 (i + 1)) (X.2 (i + 2)) (X.2 (i + 3)) (X.2 (i + 4)) (X.2 (i + 5)) (X.2 (i + 6)) (bz (X.2 (i + 7))) (X.2 (i + 8)) hI.1 lh_191 (hI.2.2.2 191 (by decide) (by decide)) (by have := hI.2.1; omega) h1) ?_
  refine jh_hs (S' := [.int (nI 0)]) (h' := lh g (vp_updL f 0 (x.1.toInt64)) τ x.2 s n) rfl lh_out ?_
  refine jh_istore (L' := LN i (nI 0)) dL_law_1097 (by decide) rfl ?_
  refine jh_aload_n dL_law_1099 rfl ?_
  refine jh_arg (i := i) (j := 1) dL_law_1100 dL_law_1101 dL_law_1103 (by decide) dL_law_1104 dL_law_1105 rfl rfl (by omega) hX ?_
  refine jh_arg (i := i) (j := 2) dL_law_1106 dL_law_1107 dL_law_1109 (by decide) dL_law_1110 dL_law_1111 rfl rfl (by omega) hX ?_
  refine jh_arg (i := i) (j := 3) dL_law_1112 dL_law_1113 dL_law_1115 (by decide) dL_law_1116 dL_law_1117 rfl rfl (by omega) hX ?_
  refine jh_arg (i := i) (j := 4) dL_law_1118 dL_law_1119 dL_law_1121 (by decide) dL_law_1122 dL_law_1123 rfl rfl (by omega) hX ?_
  refine jh_arg (i := i) (j := 5) dL_law_1124 dL_law_1125 dL_law_1127 (by decide) dL_law_1128 dL_law_1129 rfl rfl (by omega) hX ?_
  refine jh_argB (i := i) (j := 6) dL_law_1130 dL_law_1131 dL_law_1133 (by decide) dL_law_1135 dL_law_1136 rfl rfl (by omega) hX ?_
  refine jh_argB (i := i) (j := 7) dL_law_1137 dL_law_1138 dL_law_1140 (by decide) dL_law_1142 dL_law_1143 rfl rfl (by omega) hX ?_
  refine jh_bz (x := (X.2 (i + 7))) (t := 1151) (j := 1152) dL_law_1144 (by decide) dL_law_1147 dL_law_1148 (by decide) dL_law_1151 rfl ?_
  refine jh_argB (i := i) (j := 8) dL_law_1152 dL_law_1153 dL_law_1155 (by decide) dL_law_1157 dL_law_1158 rfl rfl (by omega) hX ?_
  refine jh_ref (As := [.int (X.2 (i + 1)), .int (X.2 (i + 2)), .int (X.2 (i + 3)), .int (X.2 (i + 4)), .int (X.2 (i + 5)), .int (X.2 (i + 6)), .int (bz (X.2 (i + 7))), .int (X.2 (i + 8))]) hI kv_L_183 dL_law_1159 rfl rfl (by decide) (Nat.le_of_ble_eq_true rfl) rfl (by decide) (Nat.le_of_ble_eq_true rfl) (fun g9 => t_X12_ship (by have := hI.2.1; omega) F s (X.2 (i + 1)) (X.2 (i + 2)) (X.2 (i + 3)) (X.2 (i + 4)) (X.2 (i + 5)) (X.2 (i + 6)) (bz (X.2 (i + 7))) (X.2 (i + 8)) h2) ?_
  refine jh_istore (L' := LM i (nI 0) y.1) dL_law_1162 (by decide) rfl ?_
  refine jh_aload_n dL_law_1164 rfl ?_
  refine jh_ref (As := []) hI kv_L_141 dL_law_1165 rfl rfl (by decide) (Nat.le_of_ble_eq_true rfl) rfl (by decide) (Nat.le_of_ble_eq_true rfl) (fun g9 => t_X12_thrown (by have := hI.2.1; omega) y.2 (x := nI 0) (by rw [o_X12_thrown, h3])) ?_
  refine jh_iload dL_law_1168 rfl ?_
  refine jh_icmp_eq (x := nI 0) (y := nI 0) (tgt := 1175) dL_law_1170 (by decide) (fun _ => ?_) (fun e => absurd rfl e)
  refine jh_iload dL_law_1175 rfl ?_
  refine jh_if_ne (x := nI 0) (tgt := 1192) dL_law_1177 (by decide) (fun e => absurd (by decide) e) (fun _ => ?_)
  refine jh_aload_n dL_law_1180 rfl ?_
  refine jh_iconst (v := nI 0) dL_law_1181 (by decide) ?_
  refine jh_lald (q := 191) (n := 1) (f := (vp_updL f 0 (x.1.toInt64))) (i := nI 0) dL_law_1182 (by show 191 < n; have := hI.2.1; omega) ((ct_base (hI.2.2.2 191 (by decide) (by decide))).trans lh_191) (vp_iL (iL_t (by decide) (by decide))) ?_
  refine jh_iload dL_law_1183 rfl ?_
  refine jh_i2l dL_law_1185 ?_
  refine jh_lcmp dL_law_1186 ?_
  refine jh_if_eq (tgt := 1192) dL_law_1187 (by decide) (fun _ => ?_) (fun e => absurd (by rw [h4]; exact lcmp_self _) e)
  refine jh_goto (tgt := 2513) dL_law_1192 (by decide) ?_
  refine jh_fg (L' := LL i) (by repeat (first | exact trivial | refine ⟨rfl, ?_⟩ | show jg_le _ _)) ?_
  exact K
set_option maxHeartbeats 2000000 in
theorem lc13x0 {Γ : jg_G} {X : Nat × (Nat → Int32)} {Q : jg_Q} {a b : Nat} {g : Nat → jg_C} {f : Nat → Int64} (F i : Nat) (τ : cT) (n : Nat) (c : cS) (s : rs_S) (hI : LI τ n) (hi : i + 9 ≤ X.1) (hX : X.1 ≤ 4608) (ha : 1 ≤ a) (hb : 6 ≤ b) (hn : n < 1000000) {z : cS} {y : Int32 × rs_S} (h1 : o_X11_ship F τ n 0 c (X.2 (i + 1)) (X.2 (i + 2)) (X.2 (i + 3)) (X.2 (i + 4)) (X.2 (i + 5)) (X.2 (i + 6)) (bz (X.2 (i + 7))) (X.2 (i + 8)) = some (.inr (0, z))) (hI2 : LI τ (n + 1)) (h2 : o_X12_ship F s (X.2 (i + 1)) (X.2 (i + 2)) (X.2 (i + 3)) (X.2 (i + 4)) (X.2 (i + 5)) (X.2 (i + 6)) (bz (X.2 (i + 7))) (X.2 (i + 8)) = some y) (h3 : y.2.1 0 = nI 1) (K : jh Γ mL_law ([], X) 100 (a - 1) (b - 6) 2513 (LL i) [] (lh (gx g n) f τ z y.2 (n + 1)) Q) : jh Γ mL_law ([], X) 100 a b 1033 (LL i) [] (lh g f τ c s n) Q := by
  refine jh_aload_n dL_law_1033 rfl ?_
  refine jh_arg (i := i) (j := 1) dL_law_1034 dL_law_1035 dL_law_1037 (by decide) dL_law_1038 dL_law_1039 rfl rfl (by omega) hX ?_
  refine jh_arg (i := i) (j := 2) dL_law_1040 dL_law_1041 dL_law_1043 (by decide) dL_law_1044 dL_law_1045 rfl rfl (by omega) hX ?_
  refine jh_arg (i := i) (j := 3) dL_law_1046 dL_law_1047 dL_law_1049 (by decide) dL_law_1050 dL_law_1051 rfl rfl (by omega) hX ?_
  refine jh_arg (i := i) (j := 4) dL_law_1052 dL_law_1053 dL_law_1055 (by decide) dL_law_1056 dL_law_1057 rfl rfl (by omega) hX ?_
  refine jh_arg (i := i) (j := 5) dL_law_1058 dL_law_1059 dL_law_1061 (by decide) dL_law_1062 dL_law_1063 rfl rfl (by omega) hX ?_
  refine jh_argB (i := i) (j := 6) dL_law_1064 dL_law_1065 dL_law_1067 (by decide) dL_law_1069 dL_law_1070 rfl rfl (by omega) hX ?_
  refine jh_argB (i := i) (j := 7) dL_law_1071 dL_law_1072 dL_law_1074 (by decide) dL_law_1076 dL_law_1077 rfl rfl (by omega) hX ?_
  refine jh_bz (x := (X.2 (i + 7))) (t := 1085) (j := 1086) dL_law_1078 (by decide) dL_law_1081 dL_law_1082 (by decide) dL_law_1085 rfl ?_
  refine jh_argB (i := i) (j := 8) dL_law_1086 dL_law_1087 dL_law_1089 (by decide) dL_law_1091 dL_law_1092 rfl rfl (by omega) hX ?_
  refine jh_aload_n dL_law_1093 rfl ?_
  refine jh_wrp (As := [.ref 0, .int (X.2 (i + 1)), .int (X.2 (i + 2)), .int (X.2 (i + 3)), .int (X.2 (i + 4)), .int (X.2 (i + 5)), .int (X.2 (i + 6)), .int (bz (X.2 (i + 7))), .int (X.2 (i + 8)), .ref 191]) (a' := 1) (b' := 6) kL_ship dL_law_1094 rfl (by decide) (Nat.le_of_ble_eq_true rfl) rfl (by decide) ha hb (Nat.le_of_ble_eq_true rfl) (w_ship_x0 F τ n c (X.2 (i + 1)) (X.2 (i + 2)) (X.2 (i + 3)) (X.2 (i + 4)) (X.2 (i + 5)) (X.2 (i + 6)) (bz (X.2 (i + 7))) (X.2 (i + 8)) hI.1 hn (hI.2.2.1 n (Nat.le_refl _)) h1) ?_
  refine jh_hs (S' := [.int (nI 1)]) (h' := lh (gx g n) f τ z s (n + 1)) rfl (lh_gx (by have := hI.2.1; have := nQ_le (n := n) (q := none); omega)) ?_
  refine jh_istore (L' := LN i (nI 1)) dL_law_1097 (by decide) rfl ?_
  refine jh_aload_n dL_law_1099 rfl ?_
  refine jh_arg (i := i) (j := 1) dL_law_1100 dL_law_1101 dL_law_1103 (by decide) dL_law_1104 dL_law_1105 rfl rfl (by omega) hX ?_
  refine jh_arg (i := i) (j := 2) dL_law_1106 dL_law_1107 dL_law_1109 (by decide) dL_law_1110 dL_law_1111 rfl rfl (by omega) hX ?_
  refine jh_arg (i := i) (j := 3) dL_law_1112 dL_law_1113 dL_law_1115 (by decide) dL_law_1116 dL_law_1117 rfl rfl (by omega) hX ?_
  refine jh_arg (i := i) (j := 4) dL_law_1118 dL_law_1119 dL_law_1121 (by decide) dL_law_1122 dL_law_1123 rfl rfl (by omega) hX ?_
  refine jh_arg (i := i) (j := 5) dL_law_1124 dL_law_1125 dL_law_1127 (by decide) dL_law_1128 dL_law_1129 rfl rfl (by omega) hX ?_
  refine jh_argB (i := i) (j := 6) dL_law_1130 dL_law_1131 dL_law_1133 (by decide) dL_law_1135 dL_law_1136 rfl rfl (by omega) hX ?_
  refine jh_argB (i := i) (j := 7) dL_law_1137 dL_law_1138 dL_law_1140 (by decide) dL_law_1142 dL_law_1143 rfl rfl (by omega) hX ?_
  refine jh_bz (x := (X.2 (i + 7))) (t := 1151) (j := 1152) dL_law_1144 (by decide) dL_law_1147 dL_law_1148 (by decide) dL_law_1151 rfl ?_
  refine jh_argB (i := i) (j := 8) dL_law_1152 dL_law_1153 dL_law_1155 (by decide) dL_law_1157 dL_law_1158 rfl rfl (by omega) hX ?_
  refine jh_ref (As := [.int (X.2 (i + 1)), .int (X.2 (i + 2)), .int (X.2 (i + 3)), .int (X.2 (i + 4)), .int (X.2 (i + 5)), .int (X.2 (i + 6)), .int (bz (X.2 (i + 7))), .int (X.2 (i + 8))]) hI2 kv_L_183 dL_law_1159 rfl rfl (by decide) (Nat.le_of_ble_eq_true rfl) rfl (by decide) (Nat.le_of_ble_eq_true rfl) (fun g9 => t_X12_ship (by have := hI2.2.1; omega) F s (X.2 (i + 1)) (X.2 (i + 2)) (X.2 (i + 3)) (X.2 (i + 4)) (X.2 (i + 5)) (X.2 (i + 6)) (bz (X.2 (i + 7))) (X.2 (i + 8)) h2) ?_
  refine jh_istore (L' := LM i (nI 1) y.1) dL_law_1162 (by decide) rfl ?_
  refine jh_aload_n dL_law_1164 rfl ?_
  refine jh_ref (As := []) hI2 kv_L_141 dL_law_1165 rfl rfl (by decide) (Nat.le_of_ble_eq_true rfl) rfl (by decide) (Nat.le_of_ble_eq_true rfl) (fun g9 => t_X12_thrown (by have := hI2.2.1; omega) y.2 (x := nI 1) (by rw [o_X12_thrown, h3])) ?_
  refine jh_iload dL_law_1168 rfl ?_
  refine jh_icmp_eq (x := nI 1) (y := nI 1) (tgt := 1175) dL_law_1170 (by decide) (fun _ => ?_) (fun e => absurd rfl e)
  refine jh_iload dL_law_1175 rfl ?_
  refine jh_if_ne (x := nI 1) (tgt := 1192) dL_law_1177 (by decide) (fun _ => ?_) (fun e => absurd e (by decide))
  refine jh_goto (tgt := 2513) dL_law_1192 (by decide) ?_
  refine jh_fg (L' := LL i) (by repeat (first | exact trivial | refine ⟨rfl, ?_⟩ | show jg_le _ _)) ?_
  exact K
set_option maxHeartbeats 2000000 in
theorem lc13x1 {Γ : jg_G} {X : Nat × (Nat → Int32)} {Q : jg_Q} {a b : Nat} {g : Nat → jg_C} {f : Nat → Int64} (F i : Nat) (τ : cT) (n : Nat) (c : cS) (s : rs_S) (hI : LI τ n) (hi : i + 9 ≤ X.1) (hX : X.1 ≤ 4608) (ha : 1 ≤ a) (hb : 6 ≤ b) (hn : n < 1000000) {z : cS} {y : Int32 × rs_S} (h1 : o_X11_ship F τ n 0 c (X.2 (i + 1)) (X.2 (i + 2)) (X.2 (i + 3)) (X.2 (i + 4)) (X.2 (i + 5)) (X.2 (i + 6)) (bz (X.2 (i + 7))) (X.2 (i + 8)) = some (.inr (1, z))) (hI2 : LI τ (n + 1)) (h2 : o_X12_ship F s (X.2 (i + 1)) (X.2 (i + 2)) (X.2 (i + 3)) (X.2 (i + 4)) (X.2 (i + 5)) (X.2 (i + 6)) (bz (X.2 (i + 7))) (X.2 (i + 8)) = some y) (h3 : y.2.1 0 = nI 2) (K : jh Γ mL_law ([], X) 100 (a - 1) (b - 6) 2513 (LL i) [] (lh (gx g n) f τ z y.2 (n + 1)) Q) : jh Γ mL_law ([], X) 100 a b 1033 (LL i) [] (lh g f τ c s n) Q := by
  refine jh_aload_n dL_law_1033 rfl ?_
  refine jh_arg (i := i) (j := 1) dL_law_1034 dL_law_1035 dL_law_1037 (by decide) dL_law_1038 dL_law_1039 rfl rfl (by omega) hX ?_
  refine jh_arg (i := i) (j := 2) dL_law_1040 dL_law_1041 dL_law_1043 (by decide) dL_law_1044 dL_law_1045 rfl rfl (by omega) hX ?_
  refine jh_arg (i := i) (j := 3) dL_law_1046 dL_law_1047 dL_law_1049 (by decide) dL_law_1050 dL_law_1051 rfl rfl (by omega) hX ?_
  refine jh_arg (i := i) (j := 4) dL_law_1052 dL_law_1053 dL_law_1055 (by decide) dL_law_1056 dL_law_1057 rfl rfl (by omega) hX ?_
  refine jh_arg (i := i) (j := 5) dL_law_1058 dL_law_1059 dL_law_1061 (by decide) dL_law_1062 dL_law_1063 rfl rfl (by omega) hX ?_
  refine jh_argB (i := i) (j := 6) dL_law_1064 dL_law_1065 dL_law_1067 (by decide) dL_law_1069 dL_law_1070 rfl rfl (by omega) hX ?_
  refine jh_argB (i := i) (j := 7) dL_law_1071 dL_law_1072 dL_law_1074 (by decide) dL_law_1076 dL_law_1077 rfl rfl (by omega) hX ?_
  refine jh_bz (x := (X.2 (i + 7))) (t := 1085) (j := 1086) dL_law_1078 (by decide) dL_law_1081 dL_law_1082 (by decide) dL_law_1085 rfl ?_
  refine jh_argB (i := i) (j := 8) dL_law_1086 dL_law_1087 dL_law_1089 (by decide) dL_law_1091 dL_law_1092 rfl rfl (by omega) hX ?_
  refine jh_aload_n dL_law_1093 rfl ?_
  refine jh_wrp (As := [.ref 0, .int (X.2 (i + 1)), .int (X.2 (i + 2)), .int (X.2 (i + 3)), .int (X.2 (i + 4)), .int (X.2 (i + 5)), .int (X.2 (i + 6)), .int (bz (X.2 (i + 7))), .int (X.2 (i + 8)), .ref 191]) (a' := 1) (b' := 6) kL_ship dL_law_1094 rfl (by decide) (Nat.le_of_ble_eq_true rfl) rfl (by decide) ha hb (Nat.le_of_ble_eq_true rfl) (w_ship_x1 F τ n c (X.2 (i + 1)) (X.2 (i + 2)) (X.2 (i + 3)) (X.2 (i + 4)) (X.2 (i + 5)) (X.2 (i + 6)) (bz (X.2 (i + 7))) (X.2 (i + 8)) hI.1 hn (hI.2.2.1 n (Nat.le_refl _)) h1) ?_
  refine jh_hs (S' := [.int (nI 2)]) (h' := lh (gx g n) f τ z s (n + 1)) rfl (lh_gx (by have := hI.2.1; have := nQ_le (n := n) (q := none); omega)) ?_
  refine jh_istore (L' := LN i (nI 2)) dL_law_1097 (by decide) rfl ?_
  refine jh_aload_n dL_law_1099 rfl ?_
  refine jh_arg (i := i) (j := 1) dL_law_1100 dL_law_1101 dL_law_1103 (by decide) dL_law_1104 dL_law_1105 rfl rfl (by omega) hX ?_
  refine jh_arg (i := i) (j := 2) dL_law_1106 dL_law_1107 dL_law_1109 (by decide) dL_law_1110 dL_law_1111 rfl rfl (by omega) hX ?_
  refine jh_arg (i := i) (j := 3) dL_law_1112 dL_law_1113 dL_law_1115 (by decide) dL_law_1116 dL_law_1117 rfl rfl (by omega) hX ?_
  refine jh_arg (i := i) (j := 4) dL_law_1118 dL_law_1119 dL_law_1121 (by decide) dL_law_1122 dL_law_1123 rfl rfl (by omega) hX ?_
  refine jh_arg (i := i) (j := 5) dL_law_1124 dL_law_1125 dL_law_1127 (by decide) dL_law_1128 dL_law_1129 rfl rfl (by omega) hX ?_
  refine jh_argB (i := i) (j := 6) dL_law_1130 dL_law_1131 dL_law_1133 (by decide) dL_law_1135 dL_law_1136 rfl rfl (by omega) hX ?_
  refine jh_argB (i := i) (j := 7) dL_law_1137 dL_law_1138 dL_law_1140 (by decide) dL_law_1142 dL_law_1143 rfl rfl (by omega) hX ?_
  refine jh_bz (x := (X.2 (i + 7))) (t := 1151) (j := 1152) dL_law_1144 (by decide) dL_law_1147 dL_law_1148 (by decide) dL_law_1151 rfl ?_
  refine jh_argB (i := i) (j := 8) dL_law_1152 dL_law_1153 dL_law_1155 (by decide) dL_law_1157 dL_law_1158 rfl rfl (by omega) hX ?_
  refine jh_ref (As := [.int (X.2 (i + 1)), .int (X.2 (i + 2)), .int (X.2 (i + 3)), .int (X.2 (i + 4)), .int (X.2 (i + 5)), .int (X.2 (i + 6)), .int (bz (X.2 (i + 7))), .int (X.2 (i + 8))]) hI2 kv_L_183 dL_law_1159 rfl rfl (by decide) (Nat.le_of_ble_eq_true rfl) rfl (by decide) (Nat.le_of_ble_eq_true rfl) (fun g9 => t_X12_ship (by have := hI2.2.1; omega) F s (X.2 (i + 1)) (X.2 (i + 2)) (X.2 (i + 3)) (X.2 (i + 4)) (X.2 (i + 5)) (X.2 (i + 6)) (bz (X.2 (i + 7))) (X.2 (i + 8)) h2) ?_
  refine jh_istore (L' := LM i (nI 2) y.1) dL_law_1162 (by decide) rfl ?_
  refine jh_aload_n dL_law_1164 rfl ?_
  refine jh_ref (As := []) hI2 kv_L_141 dL_law_1165 rfl rfl (by decide) (Nat.le_of_ble_eq_true rfl) rfl (by decide) (Nat.le_of_ble_eq_true rfl) (fun g9 => t_X12_thrown (by have := hI2.2.1; omega) y.2 (x := nI 2) (by rw [o_X12_thrown, h3])) ?_
  refine jh_iload dL_law_1168 rfl ?_
  refine jh_icmp_eq (x := nI 2) (y := nI 2) (tgt := 1175) dL_law_1170 (by decide) (fun _ => ?_) (fun e => absurd rfl e)
  refine jh_iload dL_law_1175 rfl ?_
  refine jh_if_ne (x := nI 2) (tgt := 1192) dL_law_1177 (by decide) (fun _ => ?_) (fun e => absurd e (by decide))
  refine jh_goto (tgt := 2513) dL_law_1192 (by decide) ?_
  refine jh_fg (L' := LL i) (by repeat (first | exact trivial | refine ⟨rfl, ?_⟩ | show jg_le _ _)) ?_
  exact K
set_option maxHeartbeats 2000000 in
theorem lc13x3 {Γ : jg_G} {X : Nat × (Nat → Int32)} {Q : jg_Q} {a b : Nat} {g : Nat → jg_C} {f : Nat → Int64} (F i : Nat) (τ : cT) (n : Nat) (c : cS) (s : rs_S) (hI : LI τ n) (hi : i + 9 ≤ X.1) (hX : X.1 ≤ 4608) (ha : 1 ≤ a) (hb : 6 ≤ b) (hn : n < 1000000) {z : cS} {y : Int32 × rs_S} (h1 : o_X11_ship F τ n 0 c (X.2 (i + 1)) (X.2 (i + 2)) (X.2 (i + 3)) (X.2 (i + 4)) (X.2 (i + 5)) (X.2 (i + 6)) (bz (X.2 (i + 7))) (X.2 (i + 8)) = some (.inr (3, z))) (hI2 : LI τ (n + 1)) (h2 : o_X12_ship F s (X.2 (i + 1)) (X.2 (i + 2)) (X.2 (i + 3)) (X.2 (i + 4)) (X.2 (i + 5)) (X.2 (i + 6)) (bz (X.2 (i + 7))) (X.2 (i + 8)) = some y) (h3 : y.2.1 0 = nI 3) (K : jh Γ mL_law ([], X) 100 (a - 1) (b - 6) 2513 (LL i) [] (lh (gx g n) f τ z y.2 (n + 1)) Q) : jh Γ mL_law ([], X) 100 a b 1033 (LL i) [] (lh g f τ c s n) Q := by
  refine jh_aload_n dL_law_1033 rfl ?_
  refine jh_arg (i := i) (j := 1) dL_law_1034 dL_law_1035 dL_law_1037 (by decide) dL_law_1038 dL_law_1039 rfl rfl (by omega) hX ?_
  refine jh_arg (i := i) (j := 2) dL_law_1040 dL_law_1041 dL_law_1043 (by decide) dL_law_1044 dL_law_1045 rfl rfl (by omega) hX ?_
  refine jh_arg (i := i) (j := 3) dL_law_1046 dL_law_1047 dL_law_1049 (by decide) dL_law_1050 dL_law_1051 rfl rfl (by omega) hX ?_
  refine jh_arg (i := i) (j := 4) dL_law_1052 dL_law_1053 dL_law_1055 (by decide) dL_law_1056 dL_law_1057 rfl rfl (by omega) hX ?_
  refine jh_arg (i := i) (j := 5) dL_law_1058 dL_law_1059 dL_law_1061 (by decide) dL_law_1062 dL_law_1063 rfl rfl (by omega) hX ?_
  refine jh_argB (i := i) (j := 6) dL_law_1064 dL_law_1065 dL_law_1067 (by decide) dL_law_1069 dL_law_1070 rfl rfl (by omega) hX ?_
  refine jh_argB (i := i) (j := 7) dL_law_1071 dL_law_1072 dL_law_1074 (by decide) dL_law_1076 dL_law_1077 rfl rfl (by omega) hX ?_
  refine jh_bz (x := (X.2 (i + 7))) (t := 1085) (j := 1086) dL_law_1078 (by decide) dL_law_1081 dL_law_1082 (by decide) dL_law_1085 rfl ?_
  refine jh_argB (i := i) (j := 8) dL_law_1086 dL_law_1087 dL_law_1089 (by decide) dL_law_1091 dL_law_1092 rfl rfl (by omega) hX ?_
  refine jh_aload_n dL_law_1093 rfl ?_
  refine jh_wrp (As := [.ref 0, .int (X.2 (i + 1)), .int (X.2 (i + 2)), .int (X.2 (i + 3)), .int (X.2 (i + 4)), .int (X.2 (i + 5)), .int (X.2 (i + 6)), .int (bz (X.2 (i + 7))), .int (X.2 (i + 8)), .ref 191]) (a' := 1) (b' := 6) kL_ship dL_law_1094 rfl (by decide) (Nat.le_of_ble_eq_true rfl) rfl (by decide) ha hb (Nat.le_of_ble_eq_true rfl) (w_ship_x3 F τ n c (X.2 (i + 1)) (X.2 (i + 2)) (X.2 (i + 3)) (X.2 (i + 4)) (X.2 (i + 5)) (X.2 (i + 6)) (bz (X.2 (i + 7))) (X.2 (i + 8)) hI.1 hn (hI.2.2.1 n (Nat.le_refl _)) h1) ?_
  refine jh_hs (S' := [.int (nI 3)]) (h' := lh (gx g n) f τ z s (n + 1)) rfl (lh_gx (by have := hI.2.1; have := nQ_le (n := n) (q := none); omega)) ?_
  refine jh_istore (L' := LN i (nI 3)) dL_law_1097 (by decide) rfl ?_
  refine jh_aload_n dL_law_1099 rfl ?_
  refine jh_arg (i := i) (j := 1) dL_law_1100 dL_law_1101 dL_law_1103 (by decide) dL_law_1104 dL_law_1105 rfl rfl (by omega) hX ?_
  refine jh_arg (i := i) (j := 2) dL_law_1106 dL_law_1107 dL_law_1109 (by decide) dL_law_1110 dL_law_1111 rfl rfl (by omega) hX ?_
  refine jh_arg (i := i) (j := 3) dL_law_1112 dL_law_1113 dL_law_1115 (by decide) dL_law_1116 dL_law_1117 rfl rfl (by omega) hX ?_
  refine jh_arg (i := i) (j := 4) dL_law_1118 dL_law_1119 dL_law_1121 (by decide) dL_law_1122 dL_law_1123 rfl rfl (by omega) hX ?_
  refine jh_arg (i := i) (j := 5) dL_law_1124 dL_law_1125 dL_law_1127 (by decide) dL_law_1128 dL_law_1129 rfl rfl (by omega) hX ?_
  refine jh_argB (i := i) (j := 6) dL_law_1130 dL_law_1131 dL_law_1133 (by decide) dL_law_1135 dL_law_1136 rfl rfl (by omega) hX ?_
  refine jh_argB (i := i) (j := 7) dL_law_1137 dL_law_1138 dL_law_1140 (by decide) dL_law_1142 dL_law_1143 rfl rfl (by omega) hX ?_
  refine jh_bz (x := (X.2 (i + 7))) (t := 1151) (j := 1152) dL_law_1144 (by decide) dL_law_1147 dL_law_1148 (by decide) dL_law_1151 rfl ?_
  refine jh_argB (i := i) (j := 8) dL_law_1152 dL_law_1153 dL_law_1155 (by decide) dL_law_1157 dL_law_1158 rfl rfl (by omega) hX ?_
  refine jh_ref (As := [.int (X.2 (i + 1)), .int (X.2 (i + 2)), .int (X.2 (i + 3)), .int (X.2 (i + 4)), .int (X.2 (i + 5)), .int (X.2 (i + 6)), .int (bz (X.2 (i + 7))), .int (X.2 (i + 8))]) hI2 kv_L_183 dL_law_1159 rfl rfl (by decide) (Nat.le_of_ble_eq_true rfl) rfl (by decide) (Nat.le_of_ble_eq_true rfl) (fun g9 => t_X12_ship (by have := hI2.2.1; omega) F s (X.2 (i + 1)) (X.2 (i + 2)) (X.2 (i + 3)) (X.2 (i + 4)) (X.2 (i + 5)) (X.2 (i + 6)) (bz (X.2 (i + 7))) (X.2 (i + 8)) h2) ?_
  refine jh_istore (L' := LM i (nI 3) y.1) dL_law_1162 (by decide) rfl ?_
  refine jh_aload_n dL_law_1164 rfl ?_
  refine jh_ref (As := []) hI2 kv_L_141 dL_law_1165 rfl rfl (by decide) (Nat.le_of_ble_eq_true rfl) rfl (by decide) (Nat.le_of_ble_eq_true rfl) (fun g9 => t_X12_thrown (by have := hI2.2.1; omega) y.2 (x := nI 3) (by rw [o_X12_thrown, h3])) ?_
  refine jh_iload dL_law_1168 rfl ?_
  refine jh_icmp_eq (x := nI 3) (y := nI 3) (tgt := 1175) dL_law_1170 (by decide) (fun _ => ?_) (fun e => absurd rfl e)
  refine jh_iload dL_law_1175 rfl ?_
  refine jh_if_ne (x := nI 3) (tgt := 1192) dL_law_1177 (by decide) (fun _ => ?_) (fun e => absurd e (by decide))
  refine jh_goto (tgt := 2513) dL_law_1192 (by decide) ?_
  refine jh_fg (L' := LL i) (by repeat (first | exact trivial | refine ⟨rfl, ?_⟩ | show jg_le _ _)) ?_
  exact K
set_option maxHeartbeats 2000000 in
theorem lc14 {Γ : jg_G} {X : Nat × (Nat → Int32)} {Q : jg_Q} {a b : Nat} {g : Nat → jg_C} {f : Nat → Int64} (F i : Nat) (τ : cT) (n : Nat) (c : cS) (s : rs_S) (hI : LI τ n) (hi : i + 9 ≤ X.1) (hX : X.1 ≤ 4608) (ha : 0 ≤ a) (hb : 0 ≤ b) {x : Int32 × cS} {y : Int32 × rs_S} (h1 : o_X11_hours F τ n 0 c (X.2 (i + 1)) = some (.inl x)) (h2 : o_X12_hours F s (X.2 (i + 1)) = some y) (h3 : y.2.1 0 = nI 0) (h4 : y.1 = x.1) (K : jh Γ mL_law ([], X) 100 (a - 0) (b - 0) 2513 (LL i) [] (lh g (vp_updL f 0 (x.1.toInt64)) τ x.2 y.2 n) Q) : jh Γ mL_law ([], X) 100 a b 1195 (LL i) [] (lh g f τ c s n) Q := by
  refine jh_aload_n dL_law_1195 rfl ?_
  refine jh_arg (i := i) (j := 1) dL_law_1196 dL_law_1197 dL_law_1199 (by decide) dL_law_1200 dL_law_1201 rfl rfl (by omega) hX ?_
  refine jh_aload_n dL_law_1202 rfl ?_
  refine jh_wrp (As := [.ref 0, .int (X.2 (i + 1)), .ref 191]) (a' := 0) (b' := 0) kL_hours dL_law_1203 rfl (by decide) (Nat.le_of_ble_eq_true rfl) rfl (by decide) ha hb (Nat.le_of_ble_eq_true rfl) (w_hours F τ n c (X.2 (i + 1)) hI.1 lh_191 (hI.2.2.2 191 (by decide) (by decide)) (by have := hI.2.1; omega) h1) ?_
  refine jh_hs (S' := [.int (nI 0)]) (h' := lh g (vp_updL f 0 (x.1.toInt64)) τ x.2 s n) rfl lh_out ?_
  refine jh_istore (L' := LN i (nI 0)) dL_law_1206 (by decide) rfl ?_
  refine jh_aload_n dL_law_1208 rfl ?_
  refine jh_arg (i := i) (j := 1) dL_law_1209 dL_law_1210 dL_law_1212 (by decide) dL_law_1213 dL_law_1214 rfl rfl (by omega) hX ?_
  refine jh_ref (As := [.int (X.2 (i + 1))]) hI kv_L_186 dL_law_1215 rfl rfl (by decide) (Nat.le_of_ble_eq_true rfl) rfl (by decide) (Nat.le_of_ble_eq_true rfl) (fun g9 => t_X12_hours (by have := hI.2.1; omega) F s (X.2 (i + 1)) h2) ?_
  refine jh_istore (L' := LM i (nI 0) y.1) dL_law_1218 (by decide) rfl ?_
  refine jh_aload_n dL_law_1220 rfl ?_
  refine jh_ref (As := []) hI kv_L_141 dL_law_1221 rfl rfl (by decide) (Nat.le_of_ble_eq_true rfl) rfl (by decide) (Nat.le_of_ble_eq_true rfl) (fun g9 => t_X12_thrown (by have := hI.2.1; omega) y.2 (x := nI 0) (by rw [o_X12_thrown, h3])) ?_
  refine jh_iload dL_law_1224 rfl ?_
  refine jh_icmp_eq (x := nI 0) (y := nI 0) (tgt := 1231) dL_law_1226 (by decide) (fun _ => ?_) (fun e => absurd rfl e)
  refine jh_iload dL_law_1231 rfl ?_
  refine jh_if_ne (x := nI 0) (tgt := 1248) dL_law_1233 (by decide) (fun e => absurd (by decide) e) (fun _ => ?_)
  refine jh_aload_n dL_law_1236 rfl ?_
  refine jh_iconst (v := nI 0) dL_law_1237 (by decide) ?_
  refine jh_lald (q := 191) (n := 1) (f := (vp_updL f 0 (x.1.toInt64))) (i := nI 0) dL_law_1238 (by show 191 < n; have := hI.2.1; omega) ((ct_base (hI.2.2.2 191 (by decide) (by decide))).trans lh_191) (vp_iL (iL_t (by decide) (by decide))) ?_
  refine jh_iload dL_law_1239 rfl ?_
  refine jh_i2l dL_law_1241 ?_
  refine jh_lcmp dL_law_1242 ?_
  refine jh_if_eq (tgt := 1248) dL_law_1243 (by decide) (fun _ => ?_) (fun e => absurd (by rw [h4]; exact lcmp_self _) e)
  refine jh_goto (tgt := 2513) dL_law_1248 (by decide) ?_
  refine jh_fg (L' := LL i) (by repeat (first | exact trivial | refine ⟨rfl, ?_⟩ | show jg_le _ _)) ?_
  exact K
set_option maxHeartbeats 2000000 in
theorem lc14x1 {Γ : jg_G} {X : Nat × (Nat → Int32)} {Q : jg_Q} {a b : Nat} {g : Nat → jg_C} {f : Nat → Int64} (F i : Nat) (τ : cT) (n : Nat) (c : cS) (s : rs_S) (hI : LI τ n) (hi : i + 9 ≤ X.1) (hX : X.1 ≤ 4608) (ha : 1 ≤ a) (hb : 6 ≤ b) (hn : n < 1000000) {z : cS} {y : Int32 × rs_S} (h1 : o_X11_hours F τ n 0 c (X.2 (i + 1)) = some (.inr (1, z))) (hI2 : LI τ (n + 1)) (h2 : o_X12_hours F s (X.2 (i + 1)) = some y) (h3 : y.2.1 0 = nI 1) (K : jh Γ mL_law ([], X) 100 (a - 1) (b - 6) 2513 (LL i) [] (lh (gx g n) f τ z y.2 (n + 1)) Q) : jh Γ mL_law ([], X) 100 a b 1195 (LL i) [] (lh g f τ c s n) Q := by
  refine jh_aload_n dL_law_1195 rfl ?_
  refine jh_arg (i := i) (j := 1) dL_law_1196 dL_law_1197 dL_law_1199 (by decide) dL_law_1200 dL_law_1201 rfl rfl (by omega) hX ?_
  refine jh_aload_n dL_law_1202 rfl ?_
  refine jh_wrp (As := [.ref 0, .int (X.2 (i + 1)), .ref 191]) (a' := 1) (b' := 6) kL_hours dL_law_1203 rfl (by decide) (Nat.le_of_ble_eq_true rfl) rfl (by decide) ha hb (Nat.le_of_ble_eq_true rfl) (w_hours_x1 F τ n c (X.2 (i + 1)) hI.1 hn (hI.2.2.1 n (Nat.le_refl _)) h1) ?_
  refine jh_hs (S' := [.int (nI 1)]) (h' := lh (gx g n) f τ z s (n + 1)) rfl (lh_gx (by have := hI.2.1; have := nQ_le (n := n) (q := none); omega)) ?_
  refine jh_istore (L' := LN i (nI 1)) dL_law_1206 (by decide) rfl ?_
  refine jh_aload_n dL_law_1208 rfl ?_
  refine jh_arg (i := i) (j := 1) dL_law_1209 dL_law_1210 dL_law_1212 (by decide) dL_law_1213 dL_law_1214 rfl rfl (by omega) hX ?_
  refine jh_ref (As := [.int (X.2 (i + 1))]) hI2 kv_L_186 dL_law_1215 rfl rfl (by decide) (Nat.le_of_ble_eq_true rfl) rfl (by decide) (Nat.le_of_ble_eq_true rfl) (fun g9 => t_X12_hours (by have := hI2.2.1; omega) F s (X.2 (i + 1)) h2) ?_
  refine jh_istore (L' := LM i (nI 1) y.1) dL_law_1218 (by decide) rfl ?_
  refine jh_aload_n dL_law_1220 rfl ?_
  refine jh_ref (As := []) hI2 kv_L_141 dL_law_1221 rfl rfl (by decide) (Nat.le_of_ble_eq_true rfl) rfl (by decide) (Nat.le_of_ble_eq_true rfl) (fun g9 => t_X12_thrown (by have := hI2.2.1; omega) y.2 (x := nI 1) (by rw [o_X12_thrown, h3])) ?_
  refine jh_iload dL_law_1224 rfl ?_
  refine jh_icmp_eq (x := nI 1) (y := nI 1) (tgt := 1231) dL_law_1226 (by decide) (fun _ => ?_) (fun e => absurd rfl e)
  refine jh_iload dL_law_1231 rfl ?_
  refine jh_if_ne (x := nI 1) (tgt := 1248) dL_law_1233 (by decide) (fun _ => ?_) (fun e => absurd e (by decide))
  refine jh_goto (tgt := 2513) dL_law_1248 (by decide) ?_
  refine jh_fg (L' := LL i) (by repeat (first | exact trivial | refine ⟨rfl, ?_⟩ | show jg_le _ _)) ?_
  exact K
set_option maxHeartbeats 2000000 in
theorem lc15 {Γ : jg_G} {X : Nat × (Nat → Int32)} {Q : jg_Q} {a b : Nat} {g : Nat → jg_C} {f : Nat → Int64} (F i : Nat) (τ : cT) (n : Nat) (c : cS) (s : rs_S) (hI : LI τ n) (hi : i + 9 ≤ X.1) (hX : X.1 ≤ 4608) (ha : 0 ≤ a) (hb : 0 ≤ b) {x : Int32 × cS} {y : Int32 × rs_S} (h1 : o_X11_led F τ n 0 c (X.2 (i + 1)) (X.2 (i + 2)) = some (.inl x)) (h2 : o_X12_led F s (X.2 (i + 1)) (X.2 (i + 2)) = some y) (h3 : y.2.1 0 = nI 0) (h4 : y.1 = x.1) (K : jh Γ mL_law ([], X) 100 (a - 0) (b - 0) 2513 (LL i) [] (lh g (vp_updL f 0 (x.1.toInt64)) τ x.2 y.2 n) Q) : jh Γ mL_law ([], X) 100 a b 1251 (LL i) [] (lh g f τ c s n) Q := by
  refine jh_aload_n dL_law_1251 rfl ?_
  refine jh_arg (i := i) (j := 1) dL_law_1252 dL_law_1253 dL_law_1255 (by decide) dL_law_1256 dL_law_1257 rfl rfl (by omega) hX ?_
  refine jh_arg (i := i) (j := 2) dL_law_1258 dL_law_1259 dL_law_1261 (by decide) dL_law_1262 dL_law_1263 rfl rfl (by omega) hX ?_
  refine jh_aload_n dL_law_1264 rfl ?_
  refine jh_wrp (As := [.ref 0, .int (X.2 (i + 1)), .int (X.2 (i + 2)), .ref 191]) (a' := 0) (b' := 0) kL_led dL_law_1265 rfl (by decide) (Nat.le_of_ble_eq_true rfl) rfl (by decide) ha hb (Nat.le_of_ble_eq_true rfl) (w_led F τ n c (X.2 (i + 1)) (X.2 (i + 2)) hI.1 lh_191 (hI.2.2.2 191 (by decide) (by decide)) (by have := hI.2.1; omega) h1) ?_
  refine jh_hs (S' := [.int (nI 0)]) (h' := lh g (vp_updL f 0 (x.1.toInt64)) τ x.2 s n) rfl lh_out ?_
  refine jh_istore (L' := LN i (nI 0)) dL_law_1268 (by decide) rfl ?_
  refine jh_aload_n dL_law_1270 rfl ?_
  refine jh_arg (i := i) (j := 1) dL_law_1271 dL_law_1272 dL_law_1274 (by decide) dL_law_1275 dL_law_1276 rfl rfl (by omega) hX ?_
  refine jh_arg (i := i) (j := 2) dL_law_1277 dL_law_1278 dL_law_1280 (by decide) dL_law_1281 dL_law_1282 rfl rfl (by omega) hX ?_
  refine jh_ref (As := [.int (X.2 (i + 1)), .int (X.2 (i + 2))]) hI kv_L_189 dL_law_1283 rfl rfl (by decide) (Nat.le_of_ble_eq_true rfl) rfl (by decide) (Nat.le_of_ble_eq_true rfl) (fun g9 => t_X12_led (by have := hI.2.1; omega) F s (X.2 (i + 1)) (X.2 (i + 2)) h2) ?_
  refine jh_istore (L' := LM i (nI 0) y.1) dL_law_1286 (by decide) rfl ?_
  refine jh_aload_n dL_law_1288 rfl ?_
  refine jh_ref (As := []) hI kv_L_141 dL_law_1289 rfl rfl (by decide) (Nat.le_of_ble_eq_true rfl) rfl (by decide) (Nat.le_of_ble_eq_true rfl) (fun g9 => t_X12_thrown (by have := hI.2.1; omega) y.2 (x := nI 0) (by rw [o_X12_thrown, h3])) ?_
  refine jh_iload dL_law_1292 rfl ?_
  refine jh_icmp_eq (x := nI 0) (y := nI 0) (tgt := 1299) dL_law_1294 (by decide) (fun _ => ?_) (fun e => absurd rfl e)
  refine jh_iload dL_law_1299 rfl ?_
  refine jh_if_ne (x := nI 0) (tgt := 1316) dL_law_1301 (by decide) (fun e => absurd (by decide) e) (fun _ => ?_)
  refine jh_aload_n dL_law_1304 rfl ?_
  refine jh_iconst (v := nI 0) dL_law_1305 (by decide) ?_
  refine jh_lald (q := 191) (n := 1) (f := (vp_updL f 0 (x.1.toInt64))) (i := nI 0) dL_law_1306 (by show 191 < n; have := hI.2.1; omega) ((ct_base (hI.2.2.2 191 (by decide) (by decide))).trans lh_191) (vp_iL (iL_t (by decide) (by decide))) ?_
  refine jh_iload dL_law_1307 rfl ?_
  refine jh_i2l dL_law_1309 ?_
  refine jh_lcmp dL_law_1310 ?_
  refine jh_if_eq (tgt := 1316) dL_law_1311 (by decide) (fun _ => ?_) (fun e => absurd (by rw [h4]; exact lcmp_self _) e)
  refine jh_goto (tgt := 2513) dL_law_1316 (by decide) ?_
  refine jh_fg (L' := LL i) (by repeat (first | exact trivial | refine ⟨rfl, ?_⟩ | show jg_le _ _)) ?_
  exact K
set_option maxHeartbeats 2000000 in
theorem lc15x0 {Γ : jg_G} {X : Nat × (Nat → Int32)} {Q : jg_Q} {a b : Nat} {g : Nat → jg_C} {f : Nat → Int64} (F i : Nat) (τ : cT) (n : Nat) (c : cS) (s : rs_S) (hI : LI τ n) (hi : i + 9 ≤ X.1) (hX : X.1 ≤ 4608) (ha : 1 ≤ a) (hb : 6 ≤ b) (hn : n < 1000000) {z : cS} {y : Int32 × rs_S} (h1 : o_X11_led F τ n 0 c (X.2 (i + 1)) (X.2 (i + 2)) = some (.inr (0, z))) (hI2 : LI τ (n + 1)) (h2 : o_X12_led F s (X.2 (i + 1)) (X.2 (i + 2)) = some y) (h3 : y.2.1 0 = nI 1) (K : jh Γ mL_law ([], X) 100 (a - 1) (b - 6) 2513 (LL i) [] (lh (gx g n) f τ z y.2 (n + 1)) Q) : jh Γ mL_law ([], X) 100 a b 1251 (LL i) [] (lh g f τ c s n) Q := by
  refine jh_aload_n dL_law_1251 rfl ?_
  refine jh_arg (i := i) (j := 1) dL_law_1252 dL_law_1253 dL_law_1255 (by decide) dL_law_1256 dL_law_1257 rfl rfl (by omega) hX ?_
  refine jh_arg (i := i) (j := 2) dL_law_1258 dL_law_1259 dL_law_1261 (by decide) dL_law_1262 dL_law_1263 rfl rfl (by omega) hX ?_
  refine jh_aload_n dL_law_1264 rfl ?_
  refine jh_wrp (As := [.ref 0, .int (X.2 (i + 1)), .int (X.2 (i + 2)), .ref 191]) (a' := 1) (b' := 6) kL_led dL_law_1265 rfl (by decide) (Nat.le_of_ble_eq_true rfl) rfl (by decide) ha hb (Nat.le_of_ble_eq_true rfl) (w_led_x0 F τ n c (X.2 (i + 1)) (X.2 (i + 2)) hI.1 hn (hI.2.2.1 n (Nat.le_refl _)) h1) ?_
  refine jh_hs (S' := [.int (nI 1)]) (h' := lh (gx g n) f τ z s (n + 1)) rfl (lh_gx (by have := hI.2.1; have := nQ_le (n := n) (q := none); omega)) ?_
  refine jh_istore (L' := LN i (nI 1)) dL_law_1268 (by decide) rfl ?_
  refine jh_aload_n dL_law_1270 rfl ?_
  refine jh_arg (i := i) (j := 1) dL_law_1271 dL_law_1272 dL_law_1274 (by decide) dL_law_1275 dL_law_1276 rfl rfl (by omega) hX ?_
  refine jh_arg (i := i) (j := 2) dL_law_1277 dL_law_1278 dL_law_1280 (by decide) dL_law_1281 dL_law_1282 rfl rfl (by omega) hX ?_
  refine jh_ref (As := [.int (X.2 (i + 1)), .int (X.2 (i + 2))]) hI2 kv_L_189 dL_law_1283 rfl rfl (by decide) (Nat.le_of_ble_eq_true rfl) rfl (by decide) (Nat.le_of_ble_eq_true rfl) (fun g9 => t_X12_led (by have := hI2.2.1; omega) F s (X.2 (i + 1)) (X.2 (i + 2)) h2) ?_
  refine jh_istore (L' := LM i (nI 1) y.1) dL_law_1286 (by decide) rfl ?_
  refine jh_aload_n dL_law_1288 rfl ?_
  refine jh_ref (As := []) hI2 kv_L_141 dL_law_1289 rfl rfl (by decide) (Nat.le_of_ble_eq_true rfl) rfl (by decide) (Nat.le_of_ble_eq_true rfl) (fun g9 => t_X12_thrown (by have := hI2.2.1; omega) y.2 (x := nI 1) (by rw [o_X12_thrown, h3])) ?_
  refine jh_iload dL_law_1292 rfl ?_
  refine jh_icmp_eq (x := nI 1) (y := nI 1) (tgt := 1299) dL_law_1294 (by decide) (fun _ => ?_) (fun e => absurd rfl e)
  refine jh_iload dL_law_1299 rfl ?_
  refine jh_if_ne (x := nI 1) (tgt := 1316) dL_law_1301 (by decide) (fun _ => ?_) (fun e => absurd e (by decide))
  refine jh_goto (tgt := 2513) dL_law_1316 (by decide) ?_
  refine jh_fg (L' := LL i) (by repeat (first | exact trivial | refine ⟨rfl, ?_⟩ | show jg_le _ _)) ?_
  exact K
set_option maxHeartbeats 2000000 in
theorem lc15x4 {Γ : jg_G} {X : Nat × (Nat → Int32)} {Q : jg_Q} {a b : Nat} {g : Nat → jg_C} {f : Nat → Int64} (F i : Nat) (τ : cT) (n : Nat) (c : cS) (s : rs_S) (hI : LI τ n) (hi : i + 9 ≤ X.1) (hX : X.1 ≤ 4608) (ha : 1 ≤ a) (hb : 6 ≤ b) (hn : n < 1000000) {z : cS} {y : Int32 × rs_S} (h1 : o_X11_led F τ n 0 c (X.2 (i + 1)) (X.2 (i + 2)) = some (.inr (4, z))) (hI2 : LI τ (n + 1)) (h2 : o_X12_led F s (X.2 (i + 1)) (X.2 (i + 2)) = some y) (h3 : y.2.1 0 = nI 2) (K : jh Γ mL_law ([], X) 100 (a - 1) (b - 6) 2513 (LL i) [] (lh (gx g n) f τ z y.2 (n + 1)) Q) : jh Γ mL_law ([], X) 100 a b 1251 (LL i) [] (lh g f τ c s n) Q := by
  refine jh_aload_n dL_law_1251 rfl ?_
  refine jh_arg (i := i) (j := 1) dL_law_1252 dL_law_1253 dL_law_1255 (by decide) dL_law_1256 dL_law_1257 rfl rfl (by omega) hX ?_
  refine jh_arg (i := i) (j := 2) dL_law_1258 dL_law_1259 dL_law_1261 (by decide) dL_law_1262 dL_law_1263 rfl rfl (by omega) hX ?_
  refine jh_aload_n dL_law_1264 rfl ?_
  refine jh_wrp (As := [.ref 0, .int (X.2 (i + 1)), .int (X.2 (i + 2)), .ref 191]) (a' := 1) (b' := 6) kL_led dL_law_1265 rfl (by decide) (Nat.le_of_ble_eq_true rfl) rfl (by decide) ha hb (Nat.le_of_ble_eq_true rfl) (w_led_x4 F τ n c (X.2 (i + 1)) (X.2 (i + 2)) hI.1 hn (hI.2.2.1 n (Nat.le_refl _)) h1) ?_
  refine jh_hs (S' := [.int (nI 2)]) (h' := lh (gx g n) f τ z s (n + 1)) rfl (lh_gx (by have := hI.2.1; have := nQ_le (n := n) (q := none); omega)) ?_
  refine jh_istore (L' := LN i (nI 2)) dL_law_1268 (by decide) rfl ?_
  refine jh_aload_n dL_law_1270 rfl ?_
  refine jh_arg (i := i) (j := 1) dL_law_1271 dL_law_1272 dL_law_1274 (by decide) dL_law_1275 dL_law_1276 rfl rfl (by omega) hX ?_
  refine jh_arg (i := i) (j := 2) dL_law_1277 dL_law_1278 dL_law_1280 (by decide) dL_law_1281 dL_law_1282 rfl rfl (by omega) hX ?_
  refine jh_ref (As := [.int (X.2 (i + 1)), .int (X.2 (i + 2))]) hI2 kv_L_189 dL_law_1283 rfl rfl (by decide) (Nat.le_of_ble_eq_true rfl) rfl (by decide) (Nat.le_of_ble_eq_true rfl) (fun g9 => t_X12_led (by have := hI2.2.1; omega) F s (X.2 (i + 1)) (X.2 (i + 2)) h2) ?_
  refine jh_istore (L' := LM i (nI 2) y.1) dL_law_1286 (by decide) rfl ?_
  refine jh_aload_n dL_law_1288 rfl ?_
  refine jh_ref (As := []) hI2 kv_L_141 dL_law_1289 rfl rfl (by decide) (Nat.le_of_ble_eq_true rfl) rfl (by decide) (Nat.le_of_ble_eq_true rfl) (fun g9 => t_X12_thrown (by have := hI2.2.1; omega) y.2 (x := nI 2) (by rw [o_X12_thrown, h3])) ?_
  refine jh_iload dL_law_1292 rfl ?_
  refine jh_icmp_eq (x := nI 2) (y := nI 2) (tgt := 1299) dL_law_1294 (by decide) (fun _ => ?_) (fun e => absurd rfl e)
  refine jh_iload dL_law_1299 rfl ?_
  refine jh_if_ne (x := nI 2) (tgt := 1316) dL_law_1301 (by decide) (fun _ => ?_) (fun e => absurd e (by decide))
  refine jh_goto (tgt := 2513) dL_law_1316 (by decide) ?_
  refine jh_fg (L' := LL i) (by repeat (first | exact trivial | refine ⟨rfl, ?_⟩ | show jg_le _ _)) ?_
  exact K
set_option maxHeartbeats 2000000 in
theorem lc16 {Γ : jg_G} {X : Nat × (Nat → Int32)} {Q : jg_Q} {a b : Nat} {g : Nat → jg_C} {f : Nat → Int64} (F i : Nat) (τ : cT) (n : Nat) (c : cS) (s : rs_S) (hI : LI τ n) (hi : i + 9 ≤ X.1) (hX : X.1 ≤ 4608) (ha : 0 ≤ a) (hb : 0 ≤ b) {x : Int32} {y : Int32 × rs_S} (h1 : o_X11_quay τ n 0 c (X.2 (i + 1)) (X.2 (i + 2)) = some (.inl x)) (h2 : o_X12_quay s (X.2 (i + 1)) (X.2 (i + 2)) = some y) (h3 : y.2.1 0 = nI 0) (h4 : y.1 = x) (K : jh Γ mL_law ([], X) 100 (a - 0) (b - 0) 2513 (LL i) [] (lh g (vp_updL f 0 (x.toInt64)) τ c y.2 n) Q) : jh Γ mL_law ([], X) 100 a b 1319 (LL i) [] (lh g f τ c s n) Q := by
  refine jh_aload_n dL_law_1319 rfl ?_
  refine jh_arg (i := i) (j := 1) dL_law_1320 dL_law_1321 dL_law_1323 (by decide) dL_law_1324 dL_law_1325 rfl rfl (by omega) hX ?_
  refine jh_arg (i := i) (j := 2) dL_law_1326 dL_law_1327 dL_law_1329 (by decide) dL_law_1330 dL_law_1331 rfl rfl (by omega) hX ?_
  refine jh_aload_n dL_law_1332 rfl ?_
  refine jh_wrp (As := [.ref 0, .int (X.2 (i + 1)), .int (X.2 (i + 2)), .ref 191]) (a' := 0) (b' := 0) kL_quay dL_law_1333 rfl (by decide) (Nat.le_of_ble_eq_true rfl) rfl (by decide) ha hb (Nat.le_of_ble_eq_true rfl) (w_quay τ n c (X.2 (i + 1)) (X.2 (i + 2)) hI.1 lh_191 (hI.2.2.2 191 (by decide) (by decide)) (by have := hI.2.1; omega) h1) ?_
  refine jh_hs (S' := [.int (nI 0)]) (h' := lh g (vp_updL f 0 (x.toInt64)) τ c s n) rfl lh_out ?_
  refine jh_istore (L' := LN i (nI 0)) dL_law_1336 (by decide) rfl ?_
  refine jh_aload_n dL_law_1338 rfl ?_
  refine jh_arg (i := i) (j := 1) dL_law_1339 dL_law_1340 dL_law_1342 (by decide) dL_law_1343 dL_law_1344 rfl rfl (by omega) hX ?_
  refine jh_arg (i := i) (j := 2) dL_law_1345 dL_law_1346 dL_law_1348 (by decide) dL_law_1349 dL_law_1350 rfl rfl (by omega) hX ?_
  refine jh_ref (As := [.int (X.2 (i + 1)), .int (X.2 (i + 2))]) hI kv_L_192 dL_law_1351 rfl rfl (by decide) (Nat.le_of_ble_eq_true rfl) rfl (by decide) (Nat.le_of_ble_eq_true rfl) (fun g9 => t_X12_quay (by have := hI.2.1; omega) s (X.2 (i + 1)) (X.2 (i + 2)) h2) ?_
  refine jh_istore (L' := LM i (nI 0) y.1) dL_law_1354 (by decide) rfl ?_
  refine jh_aload_n dL_law_1356 rfl ?_
  refine jh_ref (As := []) hI kv_L_141 dL_law_1357 rfl rfl (by decide) (Nat.le_of_ble_eq_true rfl) rfl (by decide) (Nat.le_of_ble_eq_true rfl) (fun g9 => t_X12_thrown (by have := hI.2.1; omega) y.2 (x := nI 0) (by rw [o_X12_thrown, h3])) ?_
  refine jh_iload dL_law_1360 rfl ?_
  refine jh_icmp_eq (x := nI 0) (y := nI 0) (tgt := 1367) dL_law_1362 (by decide) (fun _ => ?_) (fun e => absurd rfl e)
  refine jh_iload dL_law_1367 rfl ?_
  refine jh_if_ne (x := nI 0) (tgt := 1384) dL_law_1369 (by decide) (fun e => absurd (by decide) e) (fun _ => ?_)
  refine jh_aload_n dL_law_1372 rfl ?_
  refine jh_iconst (v := nI 0) dL_law_1373 (by decide) ?_
  refine jh_lald (q := 191) (n := 1) (f := (vp_updL f 0 (x.toInt64))) (i := nI 0) dL_law_1374 (by show 191 < n; have := hI.2.1; omega) ((ct_base (hI.2.2.2 191 (by decide) (by decide))).trans lh_191) (vp_iL (iL_t (by decide) (by decide))) ?_
  refine jh_iload dL_law_1375 rfl ?_
  refine jh_i2l dL_law_1377 ?_
  refine jh_lcmp dL_law_1378 ?_
  refine jh_if_eq (tgt := 1384) dL_law_1379 (by decide) (fun _ => ?_) (fun e => absurd (by rw [h4]; exact lcmp_self _) e)
  refine jh_goto (tgt := 2513) dL_law_1384 (by decide) ?_
  refine jh_fg (L' := LL i) (by repeat (first | exact trivial | refine ⟨rfl, ?_⟩ | show jg_le _ _)) ?_
  exact K
set_option maxHeartbeats 2000000 in
theorem lc16x0 {Γ : jg_G} {X : Nat × (Nat → Int32)} {Q : jg_Q} {a b : Nat} {g : Nat → jg_C} {f : Nat → Int64} (F i : Nat) (τ : cT) (n : Nat) (c : cS) (s : rs_S) (hI : LI τ n) (hi : i + 9 ≤ X.1) (hX : X.1 ≤ 4608) (ha : 1 ≤ a) (hb : 6 ≤ b) (hn : n < 1000000) {y : Int32 × rs_S} (h1 : o_X11_quay τ n 0 c (X.2 (i + 1)) (X.2 (i + 2)) = some (.inr 0)) (hI2 : LI τ (n + 1)) (h2 : o_X12_quay s (X.2 (i + 1)) (X.2 (i + 2)) = some y) (h3 : y.2.1 0 = nI 1) (K : jh Γ mL_law ([], X) 100 (a - 1) (b - 6) 2513 (LL i) [] (lh (gx g n) f τ c y.2 (n + 1)) Q) : jh Γ mL_law ([], X) 100 a b 1319 (LL i) [] (lh g f τ c s n) Q := by
  refine jh_aload_n dL_law_1319 rfl ?_
  refine jh_arg (i := i) (j := 1) dL_law_1320 dL_law_1321 dL_law_1323 (by decide) dL_law_1324 dL_law_1325 rfl rfl (by omega) hX ?_
  refine jh_arg (i := i) (j := 2) dL_law_1326 dL_law_1327 dL_law_1329 (by decide) dL_law_1330 dL_law_1331 rfl rfl (by omega) hX ?_
  refine jh_aload_n dL_law_1332 rfl ?_
  refine jh_wrp (As := [.ref 0, .int (X.2 (i + 1)), .int (X.2 (i + 2)), .ref 191]) (a' := 1) (b' := 6) kL_quay dL_law_1333 rfl (by decide) (Nat.le_of_ble_eq_true rfl) rfl (by decide) ha hb (Nat.le_of_ble_eq_true rfl) (w_quay_x0 τ n c (X.2 (i + 1)) (X.2 (i + 2)) hI.1 hn (hI.2.2.1 n (Nat.le_refl _)) h1) ?_
  refine jh_hs (S' := [.int (nI 1)]) (h' := lh (gx g n) f τ c s (n + 1)) rfl (lh_gx (by have := hI.2.1; have := nQ_le (n := n) (q := none); omega)) ?_
  refine jh_istore (L' := LN i (nI 1)) dL_law_1336 (by decide) rfl ?_
  refine jh_aload_n dL_law_1338 rfl ?_
  refine jh_arg (i := i) (j := 1) dL_law_1339 dL_law_1340 dL_law_1342 (by decide) dL_law_1343 dL_law_1344 rfl rfl (by omega) hX ?_
  refine jh_arg (i := i) (j := 2) dL_law_1345 dL_law_1346 dL_law_1348 (by decide) dL_law_1349 dL_law_1350 rfl rfl (by omega) hX ?_
  refine jh_ref (As := [.int (X.2 (i + 1)), .int (X.2 (i + 2))]) hI2 kv_L_192 dL_law_1351 rfl rfl (by decide) (Nat.le_of_ble_eq_true rfl) rfl (by decide) (Nat.le_of_ble_eq_true rfl) (fun g9 => t_X12_quay (by have := hI2.2.1; omega) s (X.2 (i + 1)) (X.2 (i + 2)) h2) ?_
  refine jh_istore (L' := LM i (nI 1) y.1) dL_law_1354 (by decide) rfl ?_
  refine jh_aload_n dL_law_1356 rfl ?_
  refine jh_ref (As := []) hI2 kv_L_141 dL_law_1357 rfl rfl (by decide) (Nat.le_of_ble_eq_true rfl) rfl (by decide) (Nat.le_of_ble_eq_true rfl) (fun g9 => t_X12_thrown (by have := hI2.2.1; omega) y.2 (x := nI 1) (by rw [o_X12_thrown, h3])) ?_
  refine jh_iload dL_law_1360 rfl ?_
  refine jh_icmp_eq (x := nI 1) (y := nI 1) (tgt := 1367) dL_law_1362 (by decide) (fun _ => ?_) (fun e => absurd rfl e)
  refine jh_iload dL_law_1367 rfl ?_
  refine jh_if_ne (x := nI 1) (tgt := 1384) dL_law_1369 (by decide) (fun _ => ?_) (fun e => absurd e (by decide))
  refine jh_goto (tgt := 2513) dL_law_1384 (by decide) ?_
  refine jh_fg (L' := LL i) (by repeat (first | exact trivial | refine ⟨rfl, ?_⟩ | show jg_le _ _)) ?_
  exact K
set_option maxHeartbeats 2000000 in
theorem lc16x4 {Γ : jg_G} {X : Nat × (Nat → Int32)} {Q : jg_Q} {a b : Nat} {g : Nat → jg_C} {f : Nat → Int64} (F i : Nat) (τ : cT) (n : Nat) (c : cS) (s : rs_S) (hI : LI τ n) (hi : i + 9 ≤ X.1) (hX : X.1 ≤ 4608) (ha : 1 ≤ a) (hb : 6 ≤ b) (hn : n < 1000000) {y : Int32 × rs_S} (h1 : o_X11_quay τ n 0 c (X.2 (i + 1)) (X.2 (i + 2)) = some (.inr 4)) (hI2 : LI τ (n + 1)) (h2 : o_X12_quay s (X.2 (i + 1)) (X.2 (i + 2)) = some y) (h3 : y.2.1 0 = nI 2) (K : jh Γ mL_law ([], X) 100 (a - 1) (b - 6) 2513 (LL i) [] (lh (gx g n) f τ c y.2 (n + 1)) Q) : jh Γ mL_law ([], X) 100 a b 1319 (LL i) [] (lh g f τ c s n) Q := by
  refine jh_aload_n dL_law_1319 rfl ?_
  refine jh_arg (i := i) (j := 1) dL_law_1320 dL_law_1321 dL_law_1323 (by decide) dL_law_1324 dL_law_1325 rfl rfl (by omega) hX ?_
  refine jh_arg (i := i) (j := 2) dL_law_1326 dL_law_1327 dL_law_1329 (by decide) dL_law_1330 dL_law_1331 rfl rfl (by omega) hX ?_
  refine jh_aload_n dL_law_1332 rfl ?_
  refine jh_wrp (As := [.ref 0, .int (X.2 (i + 1)), .int (X.2 (i + 2)), .ref 191]) (a' := 1) (b' := 6) kL_quay dL_law_1333 rfl (by decide) (Nat.le_of_ble_eq_true rfl) rfl (by decide) ha hb (Nat.le_of_ble_eq_true rfl) (w_quay_x4 τ n c (X.2 (i + 1)) (X.2 (i + 2)) hI.1 hn (hI.2.2.1 n (Nat.le_refl _)) h1) ?_
  refine jh_hs (S' := [.int (nI 2)]) (h' := lh (gx g n) f τ c s (n + 1)) rfl (lh_gx (by have := hI.2.1; have := nQ_le (n := n) (q := none); omega)) ?_
  refine jh_istore (L' := LN i (nI 2)) dL_law_1336 (by decide) rfl ?_
  refine jh_aload_n dL_law_1338 rfl ?_
  refine jh_arg (i := i) (j := 1) dL_law_1339 dL_law_1340 dL_law_1342 (by decide) dL_law_1343 dL_law_1344 rfl rfl (by omega) hX ?_
  refine jh_arg (i := i) (j := 2) dL_law_1345 dL_law_1346 dL_law_1348 (by decide) dL_law_1349 dL_law_1350 rfl rfl (by omega) hX ?_
  refine jh_ref (As := [.int (X.2 (i + 1)), .int (X.2 (i + 2))]) hI2 kv_L_192 dL_law_1351 rfl rfl (by decide) (Nat.le_of_ble_eq_true rfl) rfl (by decide) (Nat.le_of_ble_eq_true rfl) (fun g9 => t_X12_quay (by have := hI2.2.1; omega) s (X.2 (i + 1)) (X.2 (i + 2)) h2) ?_
  refine jh_istore (L' := LM i (nI 2) y.1) dL_law_1354 (by decide) rfl ?_
  refine jh_aload_n dL_law_1356 rfl ?_
  refine jh_ref (As := []) hI2 kv_L_141 dL_law_1357 rfl rfl (by decide) (Nat.le_of_ble_eq_true rfl) rfl (by decide) (Nat.le_of_ble_eq_true rfl) (fun g9 => t_X12_thrown (by have := hI2.2.1; omega) y.2 (x := nI 2) (by rw [o_X12_thrown, h3])) ?_
  refine jh_iload dL_law_1360 rfl ?_
  refine jh_icmp_eq (x := nI 2) (y := nI 2) (tgt := 1367) dL_law_1362 (by decide) (fun _ => ?_) (fun e => absurd rfl e)
  refine jh_iload dL_law_1367 rfl ?_
  refine jh_if_ne (x := nI 2) (tgt := 1384) dL_law_1369 (by decide) (fun _ => ?_) (fun e => absurd e (by decide))
  refine jh_goto (tgt := 2513) dL_law_1384 (by decide) ?_
  refine jh_fg (L' := LL i) (by repeat (first | exact trivial | refine ⟨rfl, ?_⟩ | show jg_le _ _)) ?_
  exact K
set_option maxHeartbeats 2000000 in
theorem lc17 {Γ : jg_G} {X : Nat × (Nat → Int32)} {Q : jg_Q} {a b : Nat} {g : Nat → jg_C} {f : Nat → Int64} (F i : Nat) (τ : cT) (n : Nat) (c : cS) (s : rs_S) (hI : LI τ n) (hi : i + 9 ≤ X.1) (hX : X.1 ≤ 4608) (ha : 0 ≤ a) (hb : 0 ≤ b) {x : Int32 × cS} {y : Int32 × rs_S} (h1 : o_X11_window F τ n 0 c (X.2 (i + 1)) (X.2 (i + 2)) (bz (X.2 (i + 3))) = some (.inl x)) (h2 : o_X12_window F s (X.2 (i + 1)) (X.2 (i + 2)) (bz (X.2 (i + 3))) = some y) (h3 : y.2.1 0 = nI 0) (h4 : y.1 = x.1) (K : jh Γ mL_law ([], X) 100 (a - 0) (b - 0) 2513 (LL i) [] (lh g (vp_updL f 0 (x.1.toInt64)) τ x.2 y.2 n) Q) : jh Γ mL_law ([], X) 100 a b 1387 (LL i) [] (lh g f τ c s n) Q := by
  refine jh_aload_n dL_law_1387 rfl ?_
  refine jh_arg (i := i) (j := 1) dL_law_1388 dL_law_1389 dL_law_1391 (by decide) dL_law_1392 dL_law_1393 rfl rfl (by omega) hX ?_
  refine jh_arg (i := i) (j := 2) dL_law_1394 dL_law_1395 dL_law_1397 (by decide) dL_law_1398 dL_law_1399 rfl rfl (by omega) hX ?_
  refine jh_arg (i := i) (j := 3) dL_law_1400 dL_law_1401 dL_law_1403 (by decide) dL_law_1404 dL_law_1405 rfl rfl (by omega) hX ?_
  refine jh_bz (x := (X.2 (i + 3))) (t := 1413) (j := 1414) dL_law_1406 (by decide) dL_law_1409 dL_law_1410 (by decide) dL_law_1413 rfl ?_
  refine jh_aload_n dL_law_1414 rfl ?_
  refine jh_wrp (As := [.ref 0, .int (X.2 (i + 1)), .int (X.2 (i + 2)), .int (bz (X.2 (i + 3))), .ref 191]) (a' := 0) (b' := 0) kL_window dL_law_1415 rfl (by decide) (Nat.le_of_ble_eq_true rfl) rfl (by decide) ha hb (Nat.le_of_ble_eq_true rfl) (w_window F τ n c (X.2 (i + 1)) (X.2 (i + 2)) (bz (X.2 (i + 3))) hI.1 lh_191 (hI.2.2.2 191 (by decide) (by decide)) (by have := hI.2.1; omega) h1) ?_
  refine jh_hs (S' := [.int (nI 0)]) (h' := lh g (vp_updL f 0 (x.1.toInt64)) τ x.2 s n) rfl lh_out ?_
  refine jh_istore (L' := LN i (nI 0)) dL_law_1418 (by decide) rfl ?_
  refine jh_aload_n dL_law_1420 rfl ?_
  refine jh_arg (i := i) (j := 1) dL_law_1421 dL_law_1422 dL_law_1424 (by decide) dL_law_1425 dL_law_1426 rfl rfl (by omega) hX ?_
  refine jh_arg (i := i) (j := 2) dL_law_1427 dL_law_1428 dL_law_1430 (by decide) dL_law_1431 dL_law_1432 rfl rfl (by omega) hX ?_
  refine jh_arg (i := i) (j := 3) dL_law_1433 dL_law_1434 dL_law_1436 (by decide) dL_law_1437 dL_law_1438 rfl rfl (by omega) hX ?_
  refine jh_bz (x := (X.2 (i + 3))) (t := 1446) (j := 1447) dL_law_1439 (by decide) dL_law_1442 dL_law_1443 (by decide) dL_law_1446 rfl ?_
  refine jh_ref (As := [.int (X.2 (i + 1)), .int (X.2 (i + 2)), .int (bz (X.2 (i + 3)))]) hI kv_L_196 dL_law_1447 rfl rfl (by decide) (Nat.le_of_ble_eq_true rfl) rfl (by decide) (Nat.le_of_ble_eq_true rfl) (fun g9 => t_X12_window (by have := hI.2.1; omega) F s (X.2 (i + 1)) (X.2 (i + 2)) (bz (X.2 (i + 3))) h2) ?_
  refine jh_istore (L' := LM i (nI 0) y.1) dL_law_1450 (by decide) rfl ?_
  refine jh_aload_n dL_law_1452 rfl ?_
  refine jh_ref (As := []) hI kv_L_141 dL_law_1453 rfl rfl (by decide) (Nat.le_of_ble_eq_true rfl) rfl (by decide) (Nat.le_of_ble_eq_true rfl) (fun g9 => t_X12_thrown (by have := hI.2.1; omega) y.2 (x := nI 0) (by rw [o_X12_thrown, h3])) ?_
  refine jh_iload dL_law_1456 rfl ?_
  refine jh_icmp_eq (x := nI 0) (y := nI 0) (tgt := 1463) dL_law_1458 (by decide) (fun _ => ?_) (fun e => absurd rfl e)
  refine jh_iload dL_law_1463 rfl ?_
  refine jh_if_ne (x := nI 0) (tgt := 1480) dL_law_1465 (by decide) (fun e => absurd (by decide) e) (fun _ => ?_)
  refine jh_aload_n dL_law_1468 rfl ?_
  refine jh_iconst (v := nI 0) dL_law_1469 (by decide) ?_
  refine jh_lald (q := 191) (n := 1) (f := (vp_updL f 0 (x.1.toInt64))) (i := nI 0) dL_law_1470 (by show 191 < n; have := hI.2.1; omega) ((ct_base (hI.2.2.2 191 (by decide) (by decide))).trans lh_191) (vp_iL (iL_t (by decide) (by decide))) ?_
  refine jh_iload dL_law_1471 rfl ?_
  refine jh_i2l dL_law_1473 ?_
  refine jh_lcmp dL_law_1474 ?_
  refine jh_if_eq (tgt := 1480) dL_law_1475 (by decide) (fun _ => ?_) (fun e => absurd (by rw [h4]; exact lcmp_self _) e)
  refine jh_goto (tgt := 2513) dL_law_1480 (by decide) ?_
  refine jh_fg (L' := LL i) (by repeat (first | exact trivial | refine ⟨rfl, ?_⟩ | show jg_le _ _)) ?_
  exact K
set_option maxHeartbeats 2000000 in
theorem lc17x0 {Γ : jg_G} {X : Nat × (Nat → Int32)} {Q : jg_Q} {a b : Nat} {g : Nat → jg_C} {f : Nat → Int64} (F i : Nat) (τ : cT) (n : Nat) (c : cS) (s : rs_S) (hI : LI τ n) (hi : i + 9 ≤ X.1) (hX : X.1 ≤ 4608) (ha : 1 ≤ a) (hb : 6 ≤ b) (hn : n < 1000000) {z : cS} {y : Int32 × rs_S} (h1 : o_X11_window F τ n 0 c (X.2 (i + 1)) (X.2 (i + 2)) (bz (X.2 (i + 3))) = some (.inr (0, z))) (hI2 : LI τ (n + 1)) (h2 : o_X12_window F s (X.2 (i + 1)) (X.2 (i + 2)) (bz (X.2 (i + 3))) = some y) (h3 : y.2.1 0 = nI 1) (K : jh Γ mL_law ([], X) 100 (a - 1) (b - 6) 2513 (LL i) [] (lh (gx g n) f τ z y.2 (n + 1)) Q) : jh Γ mL_law ([], X) 100 a b 1387 (LL i) [] (lh g f τ c s n) Q := by
  refine jh_aload_n dL_law_1387 rfl ?_
  refine jh_arg (i := i) (j := 1) dL_law_1388 dL_law_1389 dL_law_1391 (by decide) dL_law_1392 dL_law_1393 rfl rfl (by omega) hX ?_
  refine jh_arg (i := i) (j := 2) dL_law_1394 dL_law_1395 dL_law_1397 (by decide) dL_law_1398 dL_law_1399 rfl rfl (by omega) hX ?_
  refine jh_arg (i := i) (j := 3) dL_law_1400 dL_law_1401 dL_law_1403 (by decide) dL_law_1404 dL_law_1405 rfl rfl (by omega) hX ?_
  refine jh_bz (x := (X.2 (i + 3))) (t := 1413) (j := 1414) dL_law_1406 (by decide) dL_law_1409 dL_law_1410 (by decide) dL_law_1413 rfl ?_
  refine jh_aload_n dL_law_1414 rfl ?_
  refine jh_wrp (As := [.ref 0, .int (X.2 (i + 1)), .int (X.2 (i + 2)), .int (bz (X.2 (i + 3))), .ref 191]) (a' := 1) (b' := 6) kL_window dL_law_1415 rfl (by decide) (Nat.le_of_ble_eq_true rfl) rfl (by decide) ha hb (Nat.le_of_ble_eq_true rfl) (w_window_x0 F τ n c (X.2 (i + 1)) (X.2 (i + 2)) (bz (X.2 (i + 3))) hI.1 hn (hI.2.2.1 n (Nat.le_refl _)) h1) ?_
  refine jh_hs (S' := [.int (nI 1)]) (h' := lh (gx g n) f τ z s (n + 1)) rfl (lh_gx (by have := hI.2.1; have := nQ_le (n := n) (q := none); omega)) ?_
  refine jh_istore (L' := LN i (nI 1)) dL_law_1418 (by decide) rfl ?_
  refine jh_aload_n dL_law_1420 rfl ?_
  refine jh_arg (i := i) (j := 1) dL_law_1421 dL_law_1422 dL_law_1424 (by decide) dL_law_1425 dL_law_1426 rfl rfl (by omega) hX ?_
  refine jh_arg (i := i) (j := 2) dL_law_1427 dL_law_1428 dL_law_1430 (by decide) dL_law_1431 dL_law_1432 rfl rfl (by omega) hX ?_
  refine jh_arg (i := i) (j := 3) dL_law_1433 dL_law_1434 dL_law_1436 (by decide) dL_law_1437 dL_law_1438 rfl rfl (by omega) hX ?_
  refine jh_bz (x := (X.2 (i + 3))) (t := 1446) (j := 1447) dL_law_1439 (by decide) dL_law_1442 dL_law_1443 (by decide) dL_law_1446 rfl ?_
  refine jh_ref (As := [.int (X.2 (i + 1)), .int (X.2 (i + 2)), .int (bz (X.2 (i + 3)))]) hI2 kv_L_196 dL_law_1447 rfl rfl (by decide) (Nat.le_of_ble_eq_true rfl) rfl (by decide) (Nat.le_of_ble_eq_true rfl) (fun g9 => t_X12_window (by have := hI2.2.1; omega) F s (X.2 (i + 1)) (X.2 (i + 2)) (bz (X.2 (i + 3))) h2) ?_
  refine jh_istore (L' := LM i (nI 1) y.1) dL_law_1450 (by decide) rfl ?_
  refine jh_aload_n dL_law_1452 rfl ?_
  refine jh_ref (As := []) hI2 kv_L_141 dL_law_1453 rfl rfl (by decide) (Nat.le_of_ble_eq_true rfl) rfl (by decide) (Nat.le_of_ble_eq_true rfl) (fun g9 => t_X12_thrown (by have := hI2.2.1; omega) y.2 (x := nI 1) (by rw [o_X12_thrown, h3])) ?_
  refine jh_iload dL_law_1456 rfl ?_
  refine jh_icmp_eq (x := nI 1) (y := nI 1) (tgt := 1463) dL_law_1458 (by decide) (fun _ => ?_) (fun e => absurd rfl e)
  refine jh_iload dL_law_1463 rfl ?_
  refine jh_if_ne (x := nI 1) (tgt := 1480) dL_law_1465 (by decide) (fun _ => ?_) (fun e => absurd e (by decide))
  refine jh_goto (tgt := 2513) dL_law_1480 (by decide) ?_
  refine jh_fg (L' := LL i) (by repeat (first | exact trivial | refine ⟨rfl, ?_⟩ | show jg_le _ _)) ?_
  exact K
set_option maxHeartbeats 2000000 in
theorem lc18 {Γ : jg_G} {X : Nat × (Nat → Int32)} {Q : jg_Q} {a b : Nat} {g : Nat → jg_C} {f : Nat → Int64} (F i : Nat) (τ : cT) (n : Nat) (c : cS) (s : rs_S) (hI : LI τ n) (hi : i + 9 ≤ X.1) (hX : X.1 ≤ 4608) (ha : 6 ≤ a) (hb : 866 ≤ b) (hn9 : n + 7 ≤ 1000000) {q : Option (Nat × Nat)} {x : Int32 × cS} {y : Int32 × rs_S} (h1 : o_X11_act F τ n 0 c (X.2 (i + 1)) = some ((q, .inl x))) (hI2 : LI (tQ τ n q) (nQ n q)) (h2 : o_X12_act F s (X.2 (i + 1)) = some y) (h3 : y.2.1 0 = nI 0) (h4 : y.1 = x.1) (K : jh Γ mL_law ([], X) 100 (a - 6) (b - 866) 2513 (LL i) [] (lh g (vp_updL f 0 (x.1.toInt64)) (tQ τ n q) x.2 y.2 (nQ n q)) Q) : jh Γ mL_law ([], X) 100 a b 1483 (LL i) [] (lh g f τ c s n) Q := by
  refine jh_aload_n dL_law_1483 rfl ?_
  refine jh_arg (i := i) (j := 1) dL_law_1484 dL_law_1485 dL_law_1487 (by decide) dL_law_1488 dL_law_1489 rfl rfl (by omega) hX ?_
  refine jh_aload_n dL_law_1490 rfl ?_
  refine jh_wrp (As := [.ref 0, .int (X.2 (i + 1)), .ref 191]) (a' := 6) (b' := 866) kL_act dL_law_1491 rfl (by decide) (Nat.le_of_ble_eq_true rfl) rfl (by decide) ha hb (Nat.le_of_ble_eq_true rfl) (w_act F τ n c (X.2 (i + 1)) hI.1 lh_191 (hI.2.2.2 191 (by decide) (by decide)) (by have := hI.2.1; omega) hn9 h1) ?_
  refine jh_hs (S' := [.int (nI 0)]) (h' := lh g (vp_updL f 0 (x.1.toInt64)) (tQ τ n q) x.2 s (nQ n q)) rfl lh_out ?_
  refine jh_istore (L' := LN i (nI 0)) dL_law_1494 (by decide) rfl ?_
  refine jh_aload_n dL_law_1496 rfl ?_
  refine jh_arg (i := i) (j := 1) dL_law_1497 dL_law_1498 dL_law_1500 (by decide) dL_law_1501 dL_law_1502 rfl rfl (by omega) hX ?_
  refine jh_ref (As := [.int (X.2 (i + 1))]) hI2 kv_L_199 dL_law_1503 rfl rfl (by decide) (Nat.le_of_ble_eq_true rfl) rfl (by decide) (Nat.le_of_ble_eq_true rfl) (fun g9 => t_X12_act (by have := hI2.2.1; omega) F s (X.2 (i + 1)) h2) ?_
  refine jh_istore (L' := LM i (nI 0) y.1) dL_law_1506 (by decide) rfl ?_
  refine jh_aload_n dL_law_1508 rfl ?_
  refine jh_ref (As := []) hI2 kv_L_141 dL_law_1509 rfl rfl (by decide) (Nat.le_of_ble_eq_true rfl) rfl (by decide) (Nat.le_of_ble_eq_true rfl) (fun g9 => t_X12_thrown (by have := hI2.2.1; omega) y.2 (x := nI 0) (by rw [o_X12_thrown, h3])) ?_
  refine jh_iload dL_law_1512 rfl ?_
  refine jh_icmp_eq (x := nI 0) (y := nI 0) (tgt := 1519) dL_law_1514 (by decide) (fun _ => ?_) (fun e => absurd rfl e)
  refine jh_iload dL_law_1519 rfl ?_
  refine jh_if_ne (x := nI 0) (tgt := 1536) dL_law_1521 (by decide) (fun e => absurd (by decide) e) (fun _ => ?_)
  refine jh_aload_n dL_law_1524 rfl ?_
  refine jh_iconst (v := nI 0) dL_law_1525 (by decide) ?_
  refine jh_lald (q := 191) (n := 1) (f := (vp_updL f 0 (x.1.toInt64))) (i := nI 0) dL_law_1526 (by show 191 < (nQ n q); have := hI2.2.1; omega) ((ct_base (hI2.2.2.2 191 (by decide) (by decide))).trans lh_191) (vp_iL (iL_t (by decide) (by decide))) ?_
  refine jh_iload dL_law_1527 rfl ?_
  refine jh_i2l dL_law_1529 ?_
  refine jh_lcmp dL_law_1530 ?_
  refine jh_if_eq (tgt := 1536) dL_law_1531 (by decide) (fun _ => ?_) (fun e => absurd (by rw [h4]; exact lcmp_self _) e)
  refine jh_goto (tgt := 2513) dL_law_1536 (by decide) ?_
  refine jh_fg (L' := LL i) (by repeat (first | exact trivial | refine ⟨rfl, ?_⟩ | show jg_le _ _)) ?_
  exact K
set_option maxHeartbeats 2000000 in
theorem lc18x1 {Γ : jg_G} {X : Nat × (Nat → Int32)} {Q : jg_Q} {a b : Nat} {g : Nat → jg_C} {f : Nat → Int64} (F i : Nat) (τ : cT) (n : Nat) (c : cS) (s : rs_S) (hI : LI τ n) (hi : i + 9 ≤ X.1) (hX : X.1 ≤ 4608) (ha : 7 ≤ a) (hb : 872 ≤ b) (hn9 : n + 7 ≤ 1000000) {q : Option (Nat × Nat)} {z : cS} {y : Int32 × rs_S} (h1 : o_X11_act F τ n 0 c (X.2 (i + 1)) = some ((q, .inr (1, z)))) (hI2 : LI (tQ τ n q) ((nQ n q) + 1)) (h2 : o_X12_act F s (X.2 (i + 1)) = some y) (h3 : y.2.1 0 = nI 1) (K : jh Γ mL_law ([], X) 100 (a - 7) (b - 872) 2513 (LL i) [] (lh (gx g (nQ n q)) f (tQ τ n q) z y.2 ((nQ n q) + 1)) Q) : jh Γ mL_law ([], X) 100 a b 1483 (LL i) [] (lh g f τ c s n) Q := by
  refine jh_aload_n dL_law_1483 rfl ?_
  refine jh_arg (i := i) (j := 1) dL_law_1484 dL_law_1485 dL_law_1487 (by decide) dL_law_1488 dL_law_1489 rfl rfl (by omega) hX ?_
  refine jh_aload_n dL_law_1490 rfl ?_
  refine jh_wrp (As := [.ref 0, .int (X.2 (i + 1)), .ref 191]) (a' := 7) (b' := 872) kL_act dL_law_1491 rfl (by decide) (Nat.le_of_ble_eq_true rfl) rfl (by decide) ha hb (Nat.le_of_ble_eq_true rfl) (w_act_x1 F τ n c (X.2 (i + 1)) hI.1 hn9 hI.2.2.1 h1) ?_
  refine jh_hs (S' := [.int (nI 1)]) (h' := lh (gx g (nQ n q)) f (tQ τ n q) z s ((nQ n q) + 1)) rfl (lh_gx (by have := hI.2.1; have := nQ_le (n := n) (q := q); omega)) ?_
  refine jh_istore (L' := LN i (nI 1)) dL_law_1494 (by decide) rfl ?_
  refine jh_aload_n dL_law_1496 rfl ?_
  refine jh_arg (i := i) (j := 1) dL_law_1497 dL_law_1498 dL_law_1500 (by decide) dL_law_1501 dL_law_1502 rfl rfl (by omega) hX ?_
  refine jh_ref (As := [.int (X.2 (i + 1))]) hI2 kv_L_199 dL_law_1503 rfl rfl (by decide) (Nat.le_of_ble_eq_true rfl) rfl (by decide) (Nat.le_of_ble_eq_true rfl) (fun g9 => t_X12_act (by have := hI2.2.1; omega) F s (X.2 (i + 1)) h2) ?_
  refine jh_istore (L' := LM i (nI 1) y.1) dL_law_1506 (by decide) rfl ?_
  refine jh_aload_n dL_law_1508 rfl ?_
  refine jh_ref (As := []) hI2 kv_L_141 dL_law_1509 rfl rfl (by decide) (Nat.le_of_ble_eq_true rfl) rfl (by decide) (Nat.le_of_ble_eq_true rfl) (fun g9 => t_X12_thrown (by have := hI2.2.1; omega) y.2 (x := nI 1) (by rw [o_X12_thrown, h3])) ?_
  refine jh_iload dL_law_1512 rfl ?_
  refine jh_icmp_eq (x := nI 1) (y := nI 1) (tgt := 1519) dL_law_1514 (by decide) (fun _ => ?_) (fun e => absurd rfl e)
  refine jh_iload dL_law_1519 rfl ?_
  refine jh_if_ne (x := nI 1) (tgt := 1536) dL_law_1521 (by decide) (fun _ => ?_) (fun e => absurd e (by decide))
  refine jh_goto (tgt := 2513) dL_law_1536 (by decide) ?_
  refine jh_fg (L' := LL i) (by repeat (first | exact trivial | refine ⟨rfl, ?_⟩ | show jg_le _ _)) ?_
  exact K
set_option maxHeartbeats 2000000 in
theorem lc18x2 {Γ : jg_G} {X : Nat × (Nat → Int32)} {Q : jg_Q} {a b : Nat} {g : Nat → jg_C} {f : Nat → Int64} (F i : Nat) (τ : cT) (n : Nat) (c : cS) (s : rs_S) (hI : LI τ n) (hi : i + 9 ≤ X.1) (hX : X.1 ≤ 4608) (ha : 7 ≤ a) (hb : 872 ≤ b) (hn9 : n + 7 ≤ 1000000) {q : Option (Nat × Nat)} {z : cS} {y : Int32 × rs_S} (h1 : o_X11_act F τ n 0 c (X.2 (i + 1)) = some ((q, .inr (2, z)))) (hI2 : LI (tQ τ n q) ((nQ n q) + 1)) (h2 : o_X12_act F s (X.2 (i + 1)) = some y) (h3 : y.2.1 0 = nI 2) (K : jh Γ mL_law ([], X) 100 (a - 7) (b - 872) 2513 (LL i) [] (lh (gx g (nQ n q)) f (tQ τ n q) z y.2 ((nQ n q) + 1)) Q) : jh Γ mL_law ([], X) 100 a b 1483 (LL i) [] (lh g f τ c s n) Q := by
  refine jh_aload_n dL_law_1483 rfl ?_
  refine jh_arg (i := i) (j := 1) dL_law_1484 dL_law_1485 dL_law_1487 (by decide) dL_law_1488 dL_law_1489 rfl rfl (by omega) hX ?_
  refine jh_aload_n dL_law_1490 rfl ?_
  refine jh_wrp (As := [.ref 0, .int (X.2 (i + 1)), .ref 191]) (a' := 7) (b' := 872) kL_act dL_law_1491 rfl (by decide) (Nat.le_of_ble_eq_true rfl) rfl (by decide) ha hb (Nat.le_of_ble_eq_true rfl) (w_act_x2 F τ n c (X.2 (i + 1)) hI.1 hn9 hI.2.2.1 h1) ?_
  refine jh_hs (S' := [.int (nI 2)]) (h' := lh (gx g (nQ n q)) f (tQ τ n q) z s ((nQ n q) + 1)) rfl (lh_gx (by have := hI.2.1; have := nQ_le (n := n) (q := q); omega)) ?_
  refine jh_istore (L' := LN i (nI 2)) dL_law_1494 (by decide) rfl ?_
  refine jh_aload_n dL_law_1496 rfl ?_
  refine jh_arg (i := i) (j := 1) dL_law_1497 dL_law_1498 dL_law_1500 (by decide) dL_law_1501 dL_law_1502 rfl rfl (by omega) hX ?_
  refine jh_ref (As := [.int (X.2 (i + 1))]) hI2 kv_L_199 dL_law_1503 rfl rfl (by decide) (Nat.le_of_ble_eq_true rfl) rfl (by decide) (Nat.le_of_ble_eq_true rfl) (fun g9 => t_X12_act (by have := hI2.2.1; omega) F s (X.2 (i + 1)) h2) ?_
  refine jh_istore (L' := LM i (nI 2) y.1) dL_law_1506 (by decide) rfl ?_
  refine jh_aload_n dL_law_1508 rfl ?_
  refine jh_ref (As := []) hI2 kv_L_141 dL_law_1509 rfl rfl (by decide) (Nat.le_of_ble_eq_true rfl) rfl (by decide) (Nat.le_of_ble_eq_true rfl) (fun g9 => t_X12_thrown (by have := hI2.2.1; omega) y.2 (x := nI 2) (by rw [o_X12_thrown, h3])) ?_
  refine jh_iload dL_law_1512 rfl ?_
  refine jh_icmp_eq (x := nI 2) (y := nI 2) (tgt := 1519) dL_law_1514 (by decide) (fun _ => ?_) (fun e => absurd rfl e)
  refine jh_iload dL_law_1519 rfl ?_
  refine jh_if_ne (x := nI 2) (tgt := 1536) dL_law_1521 (by decide) (fun _ => ?_) (fun e => absurd e (by decide))
  refine jh_goto (tgt := 2513) dL_law_1536 (by decide) ?_
  refine jh_fg (L' := LL i) (by repeat (first | exact trivial | refine ⟨rfl, ?_⟩ | show jg_le _ _)) ?_
  exact K
set_option maxHeartbeats 2000000 in
theorem lc18x3 {Γ : jg_G} {X : Nat × (Nat → Int32)} {Q : jg_Q} {a b : Nat} {g : Nat → jg_C} {f : Nat → Int64} (F i : Nat) (τ : cT) (n : Nat) (c : cS) (s : rs_S) (hI : LI τ n) (hi : i + 9 ≤ X.1) (hX : X.1 ≤ 4608) (ha : 7 ≤ a) (hb : 872 ≤ b) (hn9 : n + 7 ≤ 1000000) {q : Option (Nat × Nat)} {z : cS} {y : Int32 × rs_S} (h1 : o_X11_act F τ n 0 c (X.2 (i + 1)) = some ((q, .inr (3, z)))) (hI2 : LI (tQ τ n q) ((nQ n q) + 1)) (h2 : o_X12_act F s (X.2 (i + 1)) = some y) (h3 : y.2.1 0 = nI 3) (K : jh Γ mL_law ([], X) 100 (a - 7) (b - 872) 2513 (LL i) [] (lh (gx g (nQ n q)) f (tQ τ n q) z y.2 ((nQ n q) + 1)) Q) : jh Γ mL_law ([], X) 100 a b 1483 (LL i) [] (lh g f τ c s n) Q := by
  refine jh_aload_n dL_law_1483 rfl ?_
  refine jh_arg (i := i) (j := 1) dL_law_1484 dL_law_1485 dL_law_1487 (by decide) dL_law_1488 dL_law_1489 rfl rfl (by omega) hX ?_
  refine jh_aload_n dL_law_1490 rfl ?_
  refine jh_wrp (As := [.ref 0, .int (X.2 (i + 1)), .ref 191]) (a' := 7) (b' := 872) kL_act dL_law_1491 rfl (by decide) (Nat.le_of_ble_eq_true rfl) rfl (by decide) ha hb (Nat.le_of_ble_eq_true rfl) (w_act_x3 F τ n c (X.2 (i + 1)) hI.1 hn9 hI.2.2.1 h1) ?_
  refine jh_hs (S' := [.int (nI 3)]) (h' := lh (gx g (nQ n q)) f (tQ τ n q) z s ((nQ n q) + 1)) rfl (lh_gx (by have := hI.2.1; have := nQ_le (n := n) (q := q); omega)) ?_
  refine jh_istore (L' := LN i (nI 3)) dL_law_1494 (by decide) rfl ?_
  refine jh_aload_n dL_law_1496 rfl ?_
  refine jh_arg (i := i) (j := 1) dL_law_1497 dL_law_1498 dL_law_1500 (by decide) dL_law_1501 dL_law_1502 rfl rfl (by omega) hX ?_
  refine jh_ref (As := [.int (X.2 (i + 1))]) hI2 kv_L_199 dL_law_1503 rfl rfl (by decide) (Nat.le_of_ble_eq_true rfl) rfl (by decide) (Nat.le_of_ble_eq_true rfl) (fun g9 => t_X12_act (by have := hI2.2.1; omega) F s (X.2 (i + 1)) h2) ?_
  refine jh_istore (L' := LM i (nI 3) y.1) dL_law_1506 (by decide) rfl ?_
  refine jh_aload_n dL_law_1508 rfl ?_
  refine jh_ref (As := []) hI2 kv_L_141 dL_law_1509 rfl rfl (by decide) (Nat.le_of_ble_eq_true rfl) rfl (by decide) (Nat.le_of_ble_eq_true rfl) (fun g9 => t_X12_thrown (by have := hI2.2.1; omega) y.2 (x := nI 3) (by rw [o_X12_thrown, h3])) ?_
  refine jh_iload dL_law_1512 rfl ?_
  refine jh_icmp_eq (x := nI 3) (y := nI 3) (tgt := 1519) dL_law_1514 (by decide) (fun _ => ?_) (fun e => absurd rfl e)
  refine jh_iload dL_law_1519 rfl ?_
  refine jh_if_ne (x := nI 3) (tgt := 1536) dL_law_1521 (by decide) (fun _ => ?_) (fun e => absurd e (by decide))
  refine jh_goto (tgt := 2513) dL_law_1536 (by decide) ?_
  refine jh_fg (L' := LL i) (by repeat (first | exact trivial | refine ⟨rfl, ?_⟩ | show jg_le _ _)) ?_
  exact K
set_option maxHeartbeats 2000000 in
theorem lc19 {Γ : jg_G} {X : Nat × (Nat → Int32)} {Q : jg_Q} {a b : Nat} {g : Nat → jg_C} {f : Nat → Int64} (F i : Nat) (τ : cT) (n : Nat) (c : cS) (s : rs_S) (hI : LI τ n) (hi : i + 9 ≤ X.1) (hX : X.1 ≤ 4608) (ha : 6 ≤ a) (hb : 866 ≤ b) (hn9 : n + 7 ≤ 1000000) {q : Option (Nat × Nat)} {x : Int32 × cS} {y : Int32 × rs_S} (h1 : o_X11_propose F τ n 0 c (X.2 (i + 1)) = some ((q, .inl x))) (hI2 : LI (tQ τ n q) (nQ n q)) (h2 : o_X12_propose F s (X.2 (i + 1)) = some y) (h3 : y.2.1 0 = nI 0) (h4 : y.1 = x.1) (K : jh Γ mL_law ([], X) 100 (a - 6) (b - 866) 2513 (LL i) [] (lh g (vp_updL f 0 (x.1.toInt64)) (tQ τ n q) x.2 y.2 (nQ n q)) Q) : jh Γ mL_law ([], X) 100 a b 1539 (LL i) [] (lh g f τ c s n) Q := by
  refine jh_aload_n dL_law_1539 rfl ?_
  refine jh_arg (i := i) (j := 1) dL_law_1540 dL_law_1541 dL_law_1543 (by decide) dL_law_1544 dL_law_1545 rfl rfl (by omega) hX ?_
  refine jh_aload_n dL_law_1546 rfl ?_
  refine jh_wrp (As := [.ref 0, .int (X.2 (i + 1)), .ref 191]) (a' := 6) (b' := 866) kL_propose dL_law_1547 rfl (by decide) (Nat.le_of_ble_eq_true rfl) rfl (by decide) ha hb (Nat.le_of_ble_eq_true rfl) (w_propose F τ n c (X.2 (i + 1)) hI.1 lh_191 (hI.2.2.2 191 (by decide) (by decide)) (by have := hI.2.1; omega) hn9 h1) ?_
  refine jh_hs (S' := [.int (nI 0)]) (h' := lh g (vp_updL f 0 (x.1.toInt64)) (tQ τ n q) x.2 s (nQ n q)) rfl lh_out ?_
  refine jh_istore (L' := LN i (nI 0)) dL_law_1550 (by decide) rfl ?_
  refine jh_aload_n dL_law_1552 rfl ?_
  refine jh_arg (i := i) (j := 1) dL_law_1553 dL_law_1554 dL_law_1556 (by decide) dL_law_1557 dL_law_1558 rfl rfl (by omega) hX ?_
  refine jh_ref (As := [.int (X.2 (i + 1))]) hI2 kv_L_202 dL_law_1559 rfl rfl (by decide) (Nat.le_of_ble_eq_true rfl) rfl (by decide) (Nat.le_of_ble_eq_true rfl) (fun g9 => t_X12_propose (by have := hI2.2.1; omega) F s (X.2 (i + 1)) h2) ?_
  refine jh_istore (L' := LM i (nI 0) y.1) dL_law_1562 (by decide) rfl ?_
  refine jh_aload_n dL_law_1564 rfl ?_
  refine jh_ref (As := []) hI2 kv_L_141 dL_law_1565 rfl rfl (by decide) (Nat.le_of_ble_eq_true rfl) rfl (by decide) (Nat.le_of_ble_eq_true rfl) (fun g9 => t_X12_thrown (by have := hI2.2.1; omega) y.2 (x := nI 0) (by rw [o_X12_thrown, h3])) ?_
  refine jh_iload dL_law_1568 rfl ?_
  refine jh_icmp_eq (x := nI 0) (y := nI 0) (tgt := 1575) dL_law_1570 (by decide) (fun _ => ?_) (fun e => absurd rfl e)
  refine jh_iload dL_law_1575 rfl ?_
  refine jh_if_ne (x := nI 0) (tgt := 1592) dL_law_1577 (by decide) (fun e => absurd (by decide) e) (fun _ => ?_)
  refine jh_aload_n dL_law_1580 rfl ?_
  refine jh_iconst (v := nI 0) dL_law_1581 (by decide) ?_
  refine jh_lald (q := 191) (n := 1) (f := (vp_updL f 0 (x.1.toInt64))) (i := nI 0) dL_law_1582 (by show 191 < (nQ n q); have := hI2.2.1; omega) ((ct_base (hI2.2.2.2 191 (by decide) (by decide))).trans lh_191) (vp_iL (iL_t (by decide) (by decide))) ?_
  refine jh_iload dL_law_1583 rfl ?_
  refine jh_i2l dL_law_1585 ?_
  refine jh_lcmp dL_law_1586 ?_
  refine jh_if_eq (tgt := 1592) dL_law_1587 (by decide) (fun _ => ?_) (fun e => absurd (by rw [h4]; exact lcmp_self _) e)
  refine jh_goto (tgt := 2513) dL_law_1592 (by decide) ?_
  refine jh_fg (L' := LL i) (by repeat (first | exact trivial | refine ⟨rfl, ?_⟩ | show jg_le _ _)) ?_
  exact K
set_option maxHeartbeats 2000000 in
theorem lc19x1 {Γ : jg_G} {X : Nat × (Nat → Int32)} {Q : jg_Q} {a b : Nat} {g : Nat → jg_C} {f : Nat → Int64} (F i : Nat) (τ : cT) (n : Nat) (c : cS) (s : rs_S) (hI : LI τ n) (hi : i + 9 ≤ X.1) (hX : X.1 ≤ 4608) (ha : 7 ≤ a) (hb : 872 ≤ b) (hn9 : n + 7 ≤ 1000000) {q : Option (Nat × Nat)} {z : cS} {y : Int32 × rs_S} (h1 : o_X11_propose F τ n 0 c (X.2 (i + 1)) = some ((q, .inr (1, z)))) (hI2 : LI (tQ τ n q) ((nQ n q) + 1)) (h2 : o_X12_propose F s (X.2 (i + 1)) = some y) (h3 : y.2.1 0 = nI 1) (K : jh Γ mL_law ([], X) 100 (a - 7) (b - 872) 2513 (LL i) [] (lh (gx g (nQ n q)) f (tQ τ n q) z y.2 ((nQ n q) + 1)) Q) : jh Γ mL_law ([], X) 100 a b 1539 (LL i) [] (lh g f τ c s n) Q := by
  refine jh_aload_n dL_law_1539 rfl ?_
  refine jh_arg (i := i) (j := 1) dL_law_1540 dL_law_1541 dL_law_1543 (by decide) dL_law_1544 dL_law_1545 rfl rfl (by omega) hX ?_
  refine jh_aload_n dL_law_1546 rfl ?_
  refine jh_wrp (As := [.ref 0, .int (X.2 (i + 1)), .ref 191]) (a' := 7) (b' := 872) kL_propose dL_law_1547 rfl (by decide) (Nat.le_of_ble_eq_true rfl) rfl (by decide) ha hb (Nat.le_of_ble_eq_true rfl) (w_propose_x1 F τ n c (X.2 (i + 1)) hI.1 hn9 hI.2.2.1 h1) ?_
  refine jh_hs (S' := [.int (nI 1)]) (h' := lh (gx g (nQ n q)) f (tQ τ n q) z s ((nQ n q) + 1)) rfl (lh_gx (by have := hI.2.1; have := nQ_le (n := n) (q := q); omega)) ?_
  refine jh_istore (L' := LN i (nI 1)) dL_law_1550 (by decide) rfl ?_
  refine jh_aload_n dL_law_1552 rfl ?_
  refine jh_arg (i := i) (j := 1) dL_law_1553 dL_law_1554 dL_law_1556 (by decide) dL_law_1557 dL_law_1558 rfl rfl (by omega) hX ?_
  refine jh_ref (As := [.int (X.2 (i + 1))]) hI2 kv_L_202 dL_law_1559 rfl rfl (by decide) (Nat.le_of_ble_eq_true rfl) rfl (by decide) (Nat.le_of_ble_eq_true rfl) (fun g9 => t_X12_propose (by have := hI2.2.1; omega) F s (X.2 (i + 1)) h2) ?_
  refine jh_istore (L' := LM i (nI 1) y.1) dL_law_1562 (by decide) rfl ?_
  refine jh_aload_n dL_law_1564 rfl ?_
  refine jh_ref (As := []) hI2 kv_L_141 dL_law_1565 rfl rfl (by decide) (Nat.le_of_ble_eq_true rfl) rfl (by decide) (Nat.le_of_ble_eq_true rfl) (fun g9 => t_X12_thrown (by have := hI2.2.1; omega) y.2 (x := nI 1) (by rw [o_X12_thrown, h3])) ?_
  refine jh_iload dL_law_1568 rfl ?_
  refine jh_icmp_eq (x := nI 1) (y := nI 1) (tgt := 1575) dL_law_1570 (by decide) (fun _ => ?_) (fun e => absurd rfl e)
  refine jh_iload dL_law_1575 rfl ?_
  refine jh_if_ne (x := nI 1) (tgt := 1592) dL_law_1577 (by decide) (fun _ => ?_) (fun e => absurd e (by decide))
  refine jh_goto (tgt := 2513) dL_law_1592 (by decide) ?_
  refine jh_fg (L' := LL i) (by repeat (first | exact trivial | refine ⟨rfl, ?_⟩ | show jg_le _ _)) ?_
  exact K
set_option maxHeartbeats 2000000 in
theorem lc19x2 {Γ : jg_G} {X : Nat × (Nat → Int32)} {Q : jg_Q} {a b : Nat} {g : Nat → jg_C} {f : Nat → Int64} (F i : Nat) (τ : cT) (n : Nat) (c : cS) (s : rs_S) (hI : LI τ n) (hi : i + 9 ≤ X.1) (hX : X.1 ≤ 4608) (ha : 7 ≤ a) (hb : 872 ≤ b) (hn9 : n + 7 ≤ 1000000) {q : Option (Nat × Nat)} {z : cS} {y : Int32 × rs_S} (h1 : o_X11_propose F τ n 0 c (X.2 (i + 1)) = some ((q, .inr (2, z)))) (hI2 : LI (tQ τ n q) ((nQ n q) + 1)) (h2 : o_X12_propose F s (X.2 (i + 1)) = some y) (h3 : y.2.1 0 = nI 2) (K : jh Γ mL_law ([], X) 100 (a - 7) (b - 872) 2513 (LL i) [] (lh (gx g (nQ n q)) f (tQ τ n q) z y.2 ((nQ n q) + 1)) Q) : jh Γ mL_law ([], X) 100 a b 1539 (LL i) [] (lh g f τ c s n) Q := by
  refine jh_aload_n dL_law_1539 rfl ?_
  refine jh_arg (i := i) (j := 1) dL_law_1540 dL_law_1541 dL_law_1543 (by decide) dL_law_1544 dL_law_1545 rfl rfl (by omega) hX ?_
  refine jh_aload_n dL_law_1546 rfl ?_
  refine jh_wrp (As := [.ref 0, .int (X.2 (i + 1)), .ref 191]) (a' := 7) (b' := 872) kL_propose dL_law_1547 rfl (by decide) (Nat.le_of_ble_eq_true rfl) rfl (by decide) ha hb (Nat.le_of_ble_eq_true rfl) (w_propose_x2 F τ n c (X.2 (i + 1)) hI.1 hn9 hI.2.2.1 h1) ?_
  refine jh_hs (S' := [.int (nI 2)]) (h' := lh (gx g (nQ n q)) f (tQ τ n q) z s ((nQ n q) + 1)) rfl (lh_gx (by have := hI.2.1; have := nQ_le (n := n) (q := q); omega)) ?_
  refine jh_istore (L' := LN i (nI 2)) dL_law_1550 (by decide) rfl ?_
  refine jh_aload_n dL_law_1552 rfl ?_
  refine jh_arg (i := i) (j := 1) dL_law_1553 dL_law_1554 dL_law_1556 (by decide) dL_law_1557 dL_law_1558 rfl rfl (by omega) hX ?_
  refine jh_ref (As := [.int (X.2 (i + 1))]) hI2 kv_L_202 dL_law_1559 rfl rfl (by decide) (Nat.le_of_ble_eq_true rfl) rfl (by decide) (Nat.le_of_ble_eq_true rfl) (fun g9 => t_X12_propose (by have := hI2.2.1; omega) F s (X.2 (i + 1)) h2) ?_
  refine jh_istore (L' := LM i (nI 2) y.1) dL_law_1562 (by decide) rfl ?_
  refine jh_aload_n dL_law_1564 rfl ?_
  refine jh_ref (As := []) hI2 kv_L_141 dL_law_1565 rfl rfl (by decide) (Nat.le_of_ble_eq_true rfl) rfl (by decide) (Nat.le_of_ble_eq_true rfl) (fun g9 => t_X12_thrown (by have := hI2.2.1; omega) y.2 (x := nI 2) (by rw [o_X12_thrown, h3])) ?_
  refine jh_iload dL_law_1568 rfl ?_
  refine jh_icmp_eq (x := nI 2) (y := nI 2) (tgt := 1575) dL_law_1570 (by decide) (fun _ => ?_) (fun e => absurd rfl e)
  refine jh_iload dL_law_1575 rfl ?_
  refine jh_if_ne (x := nI 2) (tgt := 1592) dL_law_1577 (by decide) (fun _ => ?_) (fun e => absurd e (by decide))
  refine jh_goto (tgt := 2513) dL_law_1592 (by decide) ?_
  refine jh_fg (L' := LL i) (by repeat (first | exact trivial | refine ⟨rfl, ?_⟩ | show jg_le _ _)) ?_
  exact K
set_option maxHeartbeats 2000000 in
theorem lc19x3 {Γ : jg_G} {X : Nat × (Nat → Int32)} {Q : jg_Q} {a b : Nat} {g : Nat → jg_C} {f : Nat → Int64} (F i : Nat) (τ : cT) (n : Nat) (c : cS) (s : rs_S) (hI : LI τ n) (hi : i + 9 ≤ X.1) (hX : X.1 ≤ 4608) (ha : 7 ≤ a) (hb : 872 ≤ b) (hn9 : n + 7 ≤ 1000000) {q : Option (Nat × Nat)} {z : cS} {y : Int32 × rs_S} (h1 : o_X11_propose F τ n 0 c (X.2 (i + 1)) = some ((q, .inr (3, z)))) (hI2 : LI (tQ τ n q) ((nQ n q) + 1)) (h2 : o_X12_propose F s (X.2 (i + 1)) = some y) (h3 : y.2.1 0 = nI 3) (K : jh Γ mL_law ([], X) 100 (a - 7) (b - 872) 2513 (LL i) [] (lh (gx g (nQ n q)) f (tQ τ n q) z y.2 ((nQ n q) + 1)) Q) : jh Γ mL_law ([], X) 100 a b 1539 (LL i) [] (lh g f τ c s n) Q := by
  refine jh_aload_n dL_law_1539 rfl ?_
  refine jh_arg (i := i) (j := 1) dL_law_1540 dL_law_1541 dL_law_1543 (by decide) dL_law_1544 dL_law_1545 rfl rfl (by omega) hX ?_
  refine jh_aload_n dL_law_1546 rfl ?_
  refine jh_wrp (As := [.ref 0, .int (X.2 (i + 1)), .ref 191]) (a' := 7) (b' := 872) kL_propose dL_law_1547 rfl (by decide) (Nat.le_of_ble_eq_true rfl) rfl (by decide) ha hb (Nat.le_of_ble_eq_true rfl) (w_propose_x3 F τ n c (X.2 (i + 1)) hI.1 hn9 hI.2.2.1 h1) ?_
  refine jh_hs (S' := [.int (nI 3)]) (h' := lh (gx g (nQ n q)) f (tQ τ n q) z s ((nQ n q) + 1)) rfl (lh_gx (by have := hI.2.1; have := nQ_le (n := n) (q := q); omega)) ?_
  refine jh_istore (L' := LN i (nI 3)) dL_law_1550 (by decide) rfl ?_
  refine jh_aload_n dL_law_1552 rfl ?_
  refine jh_arg (i := i) (j := 1) dL_law_1553 dL_law_1554 dL_law_1556 (by decide) dL_law_1557 dL_law_1558 rfl rfl (by omega) hX ?_
  refine jh_ref (As := [.int (X.2 (i + 1))]) hI2 kv_L_202 dL_law_1559 rfl rfl (by decide) (Nat.le_of_ble_eq_true rfl) rfl (by decide) (Nat.le_of_ble_eq_true rfl) (fun g9 => t_X12_propose (by have := hI2.2.1; omega) F s (X.2 (i + 1)) h2) ?_
  refine jh_istore (L' := LM i (nI 3) y.1) dL_law_1562 (by decide) rfl ?_
  refine jh_aload_n dL_law_1564 rfl ?_
  refine jh_ref (As := []) hI2 kv_L_141 dL_law_1565 rfl rfl (by decide) (Nat.le_of_ble_eq_true rfl) rfl (by decide) (Nat.le_of_ble_eq_true rfl) (fun g9 => t_X12_thrown (by have := hI2.2.1; omega) y.2 (x := nI 3) (by rw [o_X12_thrown, h3])) ?_
  refine jh_iload dL_law_1568 rfl ?_
  refine jh_icmp_eq (x := nI 3) (y := nI 3) (tgt := 1575) dL_law_1570 (by decide) (fun _ => ?_) (fun e => absurd rfl e)
  refine jh_iload dL_law_1575 rfl ?_
  refine jh_if_ne (x := nI 3) (tgt := 1592) dL_law_1577 (by decide) (fun _ => ?_) (fun e => absurd e (by decide))
  refine jh_goto (tgt := 2513) dL_law_1592 (by decide) ?_
  refine jh_fg (L' := LL i) (by repeat (first | exact trivial | refine ⟨rfl, ?_⟩ | show jg_le _ _)) ?_
  exact K
set_option maxHeartbeats 1000000 in
theorem lc20 {Γ : jg_G} {X : Nat × (Nat → Int32)} {Q : jg_Q} {a b : Nat} {g : Nat → jg_C} {f : Nat → Int64} (F i : Nat) (τ : cT) (n : Nat) (c : cS) (s : rs_S) (hI : LI τ n) (hi : i + 9 ≤ X.1) (hX : X.1 ≤ 4608) {x : Int32} {y : Int32 × rs_S} (h1 : o_X11_fault τ n 0 c = some x) (h2 : o_X12_fault s = some y) (h4 : y.1 = x) (K : jh Γ mL_law ([], X) 100 a b 2513 (LL i) [] (lh g f τ c y.2 n) Q) : jh Γ mL_law ([], X) 100 a b 1595 (LL i) [] (lh g f τ c s n) Q := by
  refine jh_aload_n dL_law_1595 rfl ?_
  refine jh_cls (As := []) (a' := 0) (b' := 0) hI kv_L_203 dL_law_1596 rfl rfl (by decide) (Nat.le_of_ble_eq_true rfl) rfl (by decide) (Nat.zero_le _) (Nat.zero_le _) (Nat.le_of_ble_eq_true rfl) (fun g9 => t_X11_fault τ n 0 c hI.1 h1) ?_
  refine jh_aload_n dL_law_1599 rfl ?_
  refine jh_ref (As := []) hI kv_L_206 dL_law_1600 rfl rfl (by decide) (Nat.le_of_ble_eq_true rfl) rfl (by decide) (Nat.le_of_ble_eq_true rfl) (fun g9 => t_X12_fault (by have := hI.2.1; omega) s h2) ?_
  refine jh_icmp_eq (x := x) (y := y.1) (tgt := 2513) dL_law_1603 (by decide) (fun _ => ?_) (fun e => absurd h4.symm e)
  exact K
set_option maxHeartbeats 2000000 in
theorem lc21 {Γ : jg_G} {X : Nat × (Nat → Int32)} {Q : jg_Q} {a b : Nat} {g : Nat → jg_C} {f : Nat → Int64} (F i : Nat) (τ : cT) (n : Nat) (c : cS) (s : rs_S) (hI : LI τ n) (hi : i + 9 ≤ X.1) (hX : X.1 ≤ 4608) (ha : 0 ≤ a) (hb : 0 ≤ b) {x : Int32 × cS} {y : Int32 × rs_S} (h1 : o_X11_vote F τ n 0 c (X.2 (i + 1)) (bz (X.2 (i + 2))) = some (.inl x)) (h2 : o_X12_vote F s (X.2 (i + 1)) (bz (X.2 (i + 2))) = some y) (h3 : y.2.1 0 = nI 0) (h4 : y.1 = x.1) (K : jh Γ mL_law ([], X) 100 (a - 0) (b - 0) 2513 (LL i) [] (lh g (vp_updL f 0 (x.1.toInt64)) τ x.2 y.2 n) Q) : jh Γ mL_law ([], X) 100 a b 1608 (LL i) [] (lh g f τ c s n) Q := by
  refine jh_aload_n dL_law_1608 rfl ?_
  refine jh_arg (i := i) (j := 1) dL_law_1609 dL_law_1610 dL_law_1612 (by decide) dL_law_1613 dL_law_1614 rfl rfl (by omega) hX ?_
  refine jh_arg (i := i) (j := 2) dL_law_1615 dL_law_1616 dL_law_1618 (by decide) dL_law_1619 dL_law_1620 rfl rfl (by omega) hX ?_
  refine jh_bz (x := (X.2 (i + 2))) (t := 1628) (j := 1629) dL_law_1621 (by decide) dL_law_1624 dL_law_1625 (by decide) dL_law_1628 rfl ?_
  refine jh_aload_n dL_law_1629 rfl ?_
  refine jh_wrp (As := [.ref 0, .int (X.2 (i + 1)), .int (bz (X.2 (i + 2))), .ref 191]) (a' := 0) (b' := 0) kL_vote dL_law_1630 rfl (by decide) (Nat.le_of_ble_eq_true rfl) rfl (by decide) ha hb (Nat.le_of_ble_eq_true rfl) (w_vote F τ n c (X.2 (i + 1)) (bz (X.2 (i + 2))) hI.1 lh_191 (hI.2.2.2 191 (by decide) (by decide)) (by have := hI.2.1; omega) h1) ?_
  refine jh_hs (S' := [.int (nI 0)]) (h' := lh g (vp_updL f 0 (x.1.toInt64)) τ x.2 s n) rfl lh_out ?_
  refine jh_istore (L' := LN i (nI 0)) dL_law_1633 (by decide) rfl ?_
  refine jh_aload_n dL_law_1635 rfl ?_
  refine jh_arg (i := i) (j := 1) dL_law_1636 dL_law_1637 dL_law_1639 (by decide) dL_law_1640 dL_law_1641 rfl rfl (by omega) hX ?_
  refine jh_arg (i := i) (j := 2) dL_law_1642 dL_law_1643 dL_law_1645 (by decide) dL_law_1646 dL_law_1647 rfl rfl (by omega) hX ?_
  refine jh_bz (x := (X.2 (i + 2))) (t := 1655) (j := 1656) dL_law_1648 (by decide) dL_law_1651 dL_law_1652 (by decide) dL_law_1655 rfl ?_
  refine jh_ref (As := [.int (X.2 (i + 1)), .int (bz (X.2 (i + 2)))]) hI kv_L_210 dL_law_1656 rfl rfl (by decide) (Nat.le_of_ble_eq_true rfl) rfl (by decide) (Nat.le_of_ble_eq_true rfl) (fun g9 => t_X12_vote (by have := hI.2.1; omega) F s (X.2 (i + 1)) (bz (X.2 (i + 2))) h2) ?_
  refine jh_istore (L' := LM i (nI 0) y.1) dL_law_1659 (by decide) rfl ?_
  refine jh_aload_n dL_law_1661 rfl ?_
  refine jh_ref (As := []) hI kv_L_141 dL_law_1662 rfl rfl (by decide) (Nat.le_of_ble_eq_true rfl) rfl (by decide) (Nat.le_of_ble_eq_true rfl) (fun g9 => t_X12_thrown (by have := hI.2.1; omega) y.2 (x := nI 0) (by rw [o_X12_thrown, h3])) ?_
  refine jh_iload dL_law_1665 rfl ?_
  refine jh_icmp_eq (x := nI 0) (y := nI 0) (tgt := 1672) dL_law_1667 (by decide) (fun _ => ?_) (fun e => absurd rfl e)
  refine jh_iload dL_law_1672 rfl ?_
  refine jh_if_ne (x := nI 0) (tgt := 1689) dL_law_1674 (by decide) (fun e => absurd (by decide) e) (fun _ => ?_)
  refine jh_aload_n dL_law_1677 rfl ?_
  refine jh_iconst (v := nI 0) dL_law_1678 (by decide) ?_
  refine jh_lald (q := 191) (n := 1) (f := (vp_updL f 0 (x.1.toInt64))) (i := nI 0) dL_law_1679 (by show 191 < n; have := hI.2.1; omega) ((ct_base (hI.2.2.2 191 (by decide) (by decide))).trans lh_191) (vp_iL (iL_t (by decide) (by decide))) ?_
  refine jh_iload dL_law_1680 rfl ?_
  refine jh_i2l dL_law_1682 ?_
  refine jh_lcmp dL_law_1683 ?_
  refine jh_if_eq (tgt := 1689) dL_law_1684 (by decide) (fun _ => ?_) (fun e => absurd (by rw [h4]; exact lcmp_self _) e)
  refine jh_goto (tgt := 2513) dL_law_1689 (by decide) ?_
  refine jh_fg (L' := LL i) (by repeat (first | exact trivial | refine ⟨rfl, ?_⟩ | show jg_le _ _)) ?_
  exact K
set_option maxHeartbeats 2000000 in
theorem lc21x0 {Γ : jg_G} {X : Nat × (Nat → Int32)} {Q : jg_Q} {a b : Nat} {g : Nat → jg_C} {f : Nat → Int64} (F i : Nat) (τ : cT) (n : Nat) (c : cS) (s : rs_S) (hI : LI τ n) (hi : i + 9 ≤ X.1) (hX : X.1 ≤ 4608) (ha : 1 ≤ a) (hb : 6 ≤ b) (hn : n < 1000000) {z : cS} {y : Int32 × rs_S} (h1 : o_X11_vote F τ n 0 c (X.2 (i + 1)) (bz (X.2 (i + 2))) = some (.inr (0, z))) (hI2 : LI τ (n + 1)) (h2 : o_X12_vote F s (X.2 (i + 1)) (bz (X.2 (i + 2))) = some y) (h3 : y.2.1 0 = nI 1) (K : jh Γ mL_law ([], X) 100 (a - 1) (b - 6) 2513 (LL i) [] (lh (gx g n) f τ z y.2 (n + 1)) Q) : jh Γ mL_law ([], X) 100 a b 1608 (LL i) [] (lh g f τ c s n) Q := by
  refine jh_aload_n dL_law_1608 rfl ?_
  refine jh_arg (i := i) (j := 1) dL_law_1609 dL_law_1610 dL_law_1612 (by decide) dL_law_1613 dL_law_1614 rfl rfl (by omega) hX ?_
  refine jh_arg (i := i) (j := 2) dL_law_1615 dL_law_1616 dL_law_1618 (by decide) dL_law_1619 dL_law_1620 rfl rfl (by omega) hX ?_
  refine jh_bz (x := (X.2 (i + 2))) (t := 1628) (j := 1629) dL_law_1621 (by decide) dL_law_1624 dL_law_1625 (by decide) dL_law_1628 rfl ?_
  refine jh_aload_n dL_law_1629 rfl ?_
  refine jh_wrp (As := [.ref 0, .int (X.2 (i + 1)), .int (bz (X.2 (i + 2))), .ref 191]) (a' := 1) (b' := 6) kL_vote dL_law_1630 rfl (by decide) (Nat.le_of_ble_eq_true rfl) rfl (by decide) ha hb (Nat.le_of_ble_eq_true rfl) (w_vote_x0 F τ n c (X.2 (i + 1)) (bz (X.2 (i + 2))) hI.1 hn (hI.2.2.1 n (Nat.le_refl _)) h1) ?_
  refine jh_hs (S' := [.int (nI 1)]) (h' := lh (gx g n) f τ z s (n + 1)) rfl (lh_gx (by have := hI.2.1; have := nQ_le (n := n) (q := none); omega)) ?_
  refine jh_istore (L' := LN i (nI 1)) dL_law_1633 (by decide) rfl ?_
  refine jh_aload_n dL_law_1635 rfl ?_
  refine jh_arg (i := i) (j := 1) dL_law_1636 dL_law_1637 dL_law_1639 (by decide) dL_law_1640 dL_law_1641 rfl rfl (by omega) hX ?_
  refine jh_arg (i := i) (j := 2) dL_law_1642 dL_law_1643 dL_law_1645 (by decide) dL_law_1646 dL_law_1647 rfl rfl (by omega) hX ?_
  refine jh_bz (x := (X.2 (i + 2))) (t := 1655) (j := 1656) dL_law_1648 (by decide) dL_law_1651 dL_law_1652 (by decide) dL_law_1655 rfl ?_
  refine jh_ref (As := [.int (X.2 (i + 1)), .int (bz (X.2 (i + 2)))]) hI2 kv_L_210 dL_law_1656 rfl rfl (by decide) (Nat.le_of_ble_eq_true rfl) rfl (by decide) (Nat.le_of_ble_eq_true rfl) (fun g9 => t_X12_vote (by have := hI2.2.1; omega) F s (X.2 (i + 1)) (bz (X.2 (i + 2))) h2) ?_
  refine jh_istore (L' := LM i (nI 1) y.1) dL_law_1659 (by decide) rfl ?_
  refine jh_aload_n dL_law_1661 rfl ?_
  refine jh_ref (As := []) hI2 kv_L_141 dL_law_1662 rfl rfl (by decide) (Nat.le_of_ble_eq_true rfl) rfl (by decide) (Nat.le_of_ble_eq_true rfl) (fun g9 => t_X12_thrown (by have := hI2.2.1; omega) y.2 (x := nI 1) (by rw [o_X12_thrown, h3])) ?_
  refine jh_iload dL_law_1665 rfl ?_
  refine jh_icmp_eq (x := nI 1) (y := nI 1) (tgt := 1672) dL_law_1667 (by decide) (fun _ => ?_) (fun e => absurd rfl e)
  refine jh_iload dL_law_1672 rfl ?_
  refine jh_if_ne (x := nI 1) (tgt := 1689) dL_law_1674 (by decide) (fun _ => ?_) (fun e => absurd e (by decide))
  refine jh_goto (tgt := 2513) dL_law_1689 (by decide) ?_
  refine jh_fg (L' := LL i) (by repeat (first | exact trivial | refine ⟨rfl, ?_⟩ | show jg_le _ _)) ?_
  exact K
set_option maxHeartbeats 2000000 in
theorem lc21x2 {Γ : jg_G} {X : Nat × (Nat → Int32)} {Q : jg_Q} {a b : Nat} {g : Nat → jg_C} {f : Nat → Int64} (F i : Nat) (τ : cT) (n : Nat) (c : cS) (s : rs_S) (hI : LI τ n) (hi : i + 9 ≤ X.1) (hX : X.1 ≤ 4608) (ha : 1 ≤ a) (hb : 6 ≤ b) (hn : n < 1000000) {z : cS} {y : Int32 × rs_S} (h1 : o_X11_vote F τ n 0 c (X.2 (i + 1)) (bz (X.2 (i + 2))) = some (.inr (2, z))) (hI2 : LI τ (n + 1)) (h2 : o_X12_vote F s (X.2 (i + 1)) (bz (X.2 (i + 2))) = some y) (h3 : y.2.1 0 = nI 2) (K : jh Γ mL_law ([], X) 100 (a - 1) (b - 6) 2513 (LL i) [] (lh (gx g n) f τ z y.2 (n + 1)) Q) : jh Γ mL_law ([], X) 100 a b 1608 (LL i) [] (lh g f τ c s n) Q := by
  refine jh_aload_n dL_law_1608 rfl ?_
  refine jh_arg (i := i) (j := 1) dL_law_1609 dL_law_1610 dL_law_1612 (by decide) dL_law_1613 dL_law_1614 rfl rfl (by omega) hX ?_
  refine jh_arg (i := i) (j := 2) dL_law_1615 dL_law_1616 dL_law_1618 (by decide) dL_law_1619 dL_law_1620 rfl rfl (by omega) hX ?_
  refine jh_bz (x := (X.2 (i + 2))) (t := 1628) (j := 1629) dL_law_1621 (by decide) dL_law_1624 dL_law_1625 (by decide) dL_law_1628 rfl ?_
  refine jh_aload_n dL_law_1629 rfl ?_
  refine jh_wrp (As := [.ref 0, .int (X.2 (i + 1)), .int (bz (X.2 (i + 2))), .ref 191]) (a' := 1) (b' := 6) kL_vote dL_law_1630 rfl (by decide) (Nat.le_of_ble_eq_true rfl) rfl (by decide) ha hb (Nat.le_of_ble_eq_true rfl) (w_vote_x2 F τ n c (X.2 (i + 1)) (bz (X.2 (i + 2))) hI.1 hn (hI.2.2.1 n (Nat.le_refl _)) h1) ?_
  refine jh_hs (S' := [.int (nI 2)]) (h' := lh (gx g n) f τ z s (n + 1)) rfl (lh_gx (by have := hI.2.1; have := nQ_le (n := n) (q := none); omega)) ?_
  refine jh_istore (L' := LN i (nI 2)) dL_law_1633 (by decide) rfl ?_
  refine jh_aload_n dL_law_1635 rfl ?_
  refine jh_arg (i := i) (j := 1) dL_law_1636 dL_law_1637 dL_law_1639 (by decide) dL_law_1640 dL_law_1641 rfl rfl (by omega) hX ?_
  refine jh_arg (i := i) (j := 2) dL_law_1642 dL_law_1643 dL_law_1645 (by decide) dL_law_1646 dL_law_1647 rfl rfl (by omega) hX ?_
  refine jh_bz (x := (X.2 (i + 2))) (t := 1655) (j := 1656) dL_law_1648 (by decide) dL_law_1651 dL_law_1652 (by decide) dL_law_1655 rfl ?_
  refine jh_ref (As := [.int (X.2 (i + 1)), .int (bz (X.2 (i + 2)))]) hI2 kv_L_210 dL_law_1656 rfl rfl (by decide) (Nat.le_of_ble_eq_true rfl) rfl (by decide) (Nat.le_of_ble_eq_true rfl) (fun g9 => t_X12_vote (by have := hI2.2.1; omega) F s (X.2 (i + 1)) (bz (X.2 (i + 2))) h2) ?_
  refine jh_istore (L' := LM i (nI 2) y.1) dL_law_1659 (by decide) rfl ?_
  refine jh_aload_n dL_law_1661 rfl ?_
  refine jh_ref (As := []) hI2 kv_L_141 dL_law_1662 rfl rfl (by decide) (Nat.le_of_ble_eq_true rfl) rfl (by decide) (Nat.le_of_ble_eq_true rfl) (fun g9 => t_X12_thrown (by have := hI2.2.1; omega) y.2 (x := nI 2) (by rw [o_X12_thrown, h3])) ?_
  refine jh_iload dL_law_1665 rfl ?_
  refine jh_icmp_eq (x := nI 2) (y := nI 2) (tgt := 1672) dL_law_1667 (by decide) (fun _ => ?_) (fun e => absurd rfl e)
  refine jh_iload dL_law_1672 rfl ?_
  refine jh_if_ne (x := nI 2) (tgt := 1689) dL_law_1674 (by decide) (fun _ => ?_) (fun e => absurd e (by decide))
  refine jh_goto (tgt := 2513) dL_law_1689 (by decide) ?_
  refine jh_fg (L' := LL i) (by repeat (first | exact trivial | refine ⟨rfl, ?_⟩ | show jg_le _ _)) ?_
  exact K
set_option maxHeartbeats 2000000 in
theorem lc22 {Γ : jg_G} {X : Nat × (Nat → Int32)} {Q : jg_Q} {a b : Nat} {g : Nat → jg_C} {f : Nat → Int64} (F i : Nat) (τ : cT) (n : Nat) (c : cS) (s : rs_S) (hI : LI τ n) (hi : i + 9 ≤ X.1) (hX : X.1 ≤ 4608) (ha : 0 ≤ a) (hb : 0 ≤ b) {x : Int32 × cS} {y : Int32 × rs_S} (h1 : o_X11_close F τ n 0 c = some (.inl x)) (h2 : o_X12_close F s = some y) (h3 : y.2.1 0 = nI 0) (h4 : y.1 = x.1) (K : jh Γ mL_law ([], X) 100 (a - 0) (b - 0) 2513 (LL i) [] (lh g (vp_updL f 0 (if x.1 = 0 then 0 else 1)) τ x.2 y.2 n) Q) : jh Γ mL_law ([], X) 100 a b 1692 (LL i) [] (lh g f τ c s n) Q := by
  refine jh_aload_n dL_law_1692 rfl ?_
  refine jh_aload_n dL_law_1693 rfl ?_
  refine jh_wrp (As := [.ref 0, .ref 191]) (a' := 0) (b' := 0) kL_close dL_law_1694 rfl (by decide) (Nat.le_of_ble_eq_true rfl) rfl (by decide) ha hb (Nat.le_of_ble_eq_true rfl) (w_close F τ n c hI.1 lh_191 (hI.2.2.2 191 (by decide) (by decide)) (by have := hI.2.1; omega) h1) ?_
  refine jh_hs (S' := [.int (nI 0)]) (h' := lh g (vp_updL f 0 (if x.1 = 0 then 0 else 1)) τ x.2 s n) rfl lh_out ?_
  refine jh_istore (L' := LN i (nI 0)) dL_law_1697 (by decide) rfl ?_
  refine jh_aload_n dL_law_1699 rfl ?_
  refine jh_ref (As := []) hI kv_L_213 dL_law_1700 rfl rfl (by decide) (Nat.le_of_ble_eq_true rfl) rfl (by decide) (Nat.le_of_ble_eq_true rfl) (fun g9 => t_X12_close (by have := hI.2.1; omega) F s h2) ?_
  refine jh_istore (L' := LM i (nI 0) y.1) dL_law_1703 (by decide) rfl ?_
  refine jh_aload_n dL_law_1705 rfl ?_
  refine jh_ref (As := []) hI kv_L_141 dL_law_1706 rfl rfl (by decide) (Nat.le_of_ble_eq_true rfl) rfl (by decide) (Nat.le_of_ble_eq_true rfl) (fun g9 => t_X12_thrown (by have := hI.2.1; omega) y.2 (x := nI 0) (by rw [o_X12_thrown, h3])) ?_
  refine jh_iload dL_law_1709 rfl ?_
  refine jh_icmp_eq (x := nI 0) (y := nI 0) (tgt := 1716) dL_law_1711 (by decide) (fun _ => ?_) (fun e => absurd rfl e)
  refine jh_iload dL_law_1716 rfl ?_
  refine jh_if_ne (x := nI 0) (tgt := 1740) dL_law_1718 (by decide) (fun e => absurd (by decide) e) (fun _ => ?_)
  refine jh_aload_n dL_law_1721 rfl ?_
  refine jh_iconst (v := nI 0) dL_law_1722 (by decide) ?_
  refine jh_lald (q := 191) (n := 1) (f := (vp_updL f 0 (if x.1 = 0 then 0 else 1))) (i := nI 0) dL_law_1723 (by show 191 < n; have := hI.2.1; omega) ((ct_base (hI.2.2.2 191 (by decide) (by decide))).trans lh_191) (vp_iL (iL_t (by decide) (by decide))) ?_
  refine jh_iload dL_law_1724 rfl ?_
  refine jh_if_eq (x := y.1) (tgt := 1733) dL_law_1726 (by decide) (fun e0 => ?_) (fun e0 => ?_)
  · refine jh_lconst (v := 0) dL_law_1733 (by decide) ?_
    refine jh_lcmp dL_law_1734 ?_
    refine jh_if_eq (tgt := 1740) dL_law_1735 (by decide) (fun _ => ?_) (fun e => absurd (by show lg_cmp (if x.1 = 0 then 0 else 1) _ = 0; rw [if_pos (h4 ▸ e0)]; exact lcmp_self _) e)
    refine jh_goto (tgt := 2513) dL_law_1740 (by decide) ?_
    refine jh_fg (L' := LL i) (by repeat (first | exact trivial | refine ⟨rfl, ?_⟩ | show jg_le _ _)) ?_
    exact K
  · refine jh_lconst (v := 1) dL_law_1729 (by decide) ?_
    refine jh_goto (tgt := 1734) dL_law_1730 (by decide) ?_
    refine jh_lcmp dL_law_1734 ?_
    refine jh_if_eq (tgt := 1740) dL_law_1735 (by decide) (fun _ => ?_) (fun e => absurd (by show lg_cmp (if x.1 = 0 then 0 else 1) _ = 0; rw [if_neg (h4 ▸ e0)]; exact lcmp_self _) e)
    refine jh_goto (tgt := 2513) dL_law_1740 (by decide) ?_
    refine jh_fg (L' := LL i) (by repeat (first | exact trivial | refine ⟨rfl, ?_⟩ | show jg_le _ _)) ?_
    exact K
set_option maxHeartbeats 2000000 in
theorem lc22x2 {Γ : jg_G} {X : Nat × (Nat → Int32)} {Q : jg_Q} {a b : Nat} {g : Nat → jg_C} {f : Nat → Int64} (F i : Nat) (τ : cT) (n : Nat) (c : cS) (s : rs_S) (hI : LI τ n) (hi : i + 9 ≤ X.1) (hX : X.1 ≤ 4608) (ha : 1 ≤ a) (hb : 6 ≤ b) (hn : n < 1000000) {z : cS} {y : Int32 × rs_S} (h1 : o_X11_close F τ n 0 c = some (.inr (2, z))) (hI2 : LI τ (n + 1)) (h2 : o_X12_close F s = some y) (h3 : y.2.1 0 = nI 1) (K : jh Γ mL_law ([], X) 100 (a - 1) (b - 6) 2513 (LL i) [] (lh (gx g n) f τ z y.2 (n + 1)) Q) : jh Γ mL_law ([], X) 100 a b 1692 (LL i) [] (lh g f τ c s n) Q := by
  refine jh_aload_n dL_law_1692 rfl ?_
  refine jh_aload_n dL_law_1693 rfl ?_
  refine jh_wrp (As := [.ref 0, .ref 191]) (a' := 1) (b' := 6) kL_close dL_law_1694 rfl (by decide) (Nat.le_of_ble_eq_true rfl) rfl (by decide) ha hb (Nat.le_of_ble_eq_true rfl) (w_close_x2 F τ n c hI.1 hn (hI.2.2.1 n (Nat.le_refl _)) h1) ?_
  refine jh_hs (S' := [.int (nI 1)]) (h' := lh (gx g n) f τ z s (n + 1)) rfl (lh_gx (by have := hI.2.1; have := nQ_le (n := n) (q := none); omega)) ?_
  refine jh_istore (L' := LN i (nI 1)) dL_law_1697 (by decide) rfl ?_
  refine jh_aload_n dL_law_1699 rfl ?_
  refine jh_ref (As := []) hI2 kv_L_213 dL_law_1700 rfl rfl (by decide) (Nat.le_of_ble_eq_true rfl) rfl (by decide) (Nat.le_of_ble_eq_true rfl) (fun g9 => t_X12_close (by have := hI2.2.1; omega) F s h2) ?_
  refine jh_istore (L' := LM i (nI 1) y.1) dL_law_1703 (by decide) rfl ?_
  refine jh_aload_n dL_law_1705 rfl ?_
  refine jh_ref (As := []) hI2 kv_L_141 dL_law_1706 rfl rfl (by decide) (Nat.le_of_ble_eq_true rfl) rfl (by decide) (Nat.le_of_ble_eq_true rfl) (fun g9 => t_X12_thrown (by have := hI2.2.1; omega) y.2 (x := nI 1) (by rw [o_X12_thrown, h3])) ?_
  refine jh_iload dL_law_1709 rfl ?_
  refine jh_icmp_eq (x := nI 1) (y := nI 1) (tgt := 1716) dL_law_1711 (by decide) (fun _ => ?_) (fun e => absurd rfl e)
  refine jh_iload dL_law_1716 rfl ?_
  refine jh_if_ne (x := nI 1) (tgt := 1740) dL_law_1718 (by decide) (fun _ => ?_) (fun e => absurd e (by decide))
  refine jh_goto (tgt := 2513) dL_law_1740 (by decide) ?_
  refine jh_fg (L' := LL i) (by repeat (first | exact trivial | refine ⟨rfl, ?_⟩ | show jg_le _ _)) ?_
  exact K
set_option maxHeartbeats 2000000 in
theorem lc23 {Γ : jg_G} {X : Nat × (Nat → Int32)} {Q : jg_Q} {a b : Nat} {g : Nat → jg_C} {f : Nat → Int64} (F i : Nat) (τ : cT) (n : Nat) (c : cS) (s : rs_S) (hI : LI τ n) (hi : i + 9 ≤ X.1) (hX : X.1 ≤ 4608) (ha : 0 ≤ a) (hb : 0 ≤ b) {x : Int32 × cS} {y : Int32 × rs_S} (h1 : o_X11_judge F τ n 0 c (X.2 (i + 1)) (X.2 (i + 2)) = some (.inl x)) (h2 : o_X12_judge F s (X.2 (i + 1)) (X.2 (i + 2)) = some y) (h3 : y.2.1 0 = nI 0) (h4 : y.1 = x.1) (K : jh Γ mL_law ([], X) 100 (a - 0) (b - 0) 2513 (LL i) [] (lh g (vp_updL f 0 (x.1.toInt64)) τ x.2 y.2 n) Q) : jh Γ mL_law ([], X) 100 a b 1743 (LL i) [] (lh g f τ c s n) Q := by
  refine jh_aload_n dL_law_1743 rfl ?_
  refine jh_arg (i := i) (j := 1) dL_law_1744 dL_law_1745 dL_law_1747 (by decide) dL_law_1748 dL_law_1749 rfl rfl (by omega) hX ?_
  refine jh_arg (i := i) (j := 2) dL_law_1750 dL_law_1751 dL_law_1753 (by decide) dL_law_1754 dL_law_1755 rfl rfl (by omega) hX ?_
  refine jh_aload_n dL_law_1756 rfl ?_
  refine jh_wrp (As := [.ref 0, .int (X.2 (i + 1)), .int (X.2 (i + 2)), .ref 191]) (a' := 0) (b' := 0) kL_judge dL_law_1757 rfl (by decide) (Nat.le_of_ble_eq_true rfl) rfl (by decide) ha hb (Nat.le_of_ble_eq_true rfl) (w_judge F τ n c (X.2 (i + 1)) (X.2 (i + 2)) hI.1 lh_191 (hI.2.2.2 191 (by decide) (by decide)) (by have := hI.2.1; omega) h1) ?_
  refine jh_hs (S' := [.int (nI 0)]) (h' := lh g (vp_updL f 0 (x.1.toInt64)) τ x.2 s n) rfl lh_out ?_
  refine jh_istore (L' := LN i (nI 0)) dL_law_1760 (by decide) rfl ?_
  refine jh_aload_n dL_law_1762 rfl ?_
  refine jh_arg (i := i) (j := 1) dL_law_1763 dL_law_1764 dL_law_1766 (by decide) dL_law_1767 dL_law_1768 rfl rfl (by omega) hX ?_
  refine jh_arg (i := i) (j := 2) dL_law_1769 dL_law_1770 dL_law_1772 (by decide) dL_law_1773 dL_law_1774 rfl rfl (by omega) hX ?_
  refine jh_ref (As := [.int (X.2 (i + 1)), .int (X.2 (i + 2))]) hI kv_L_216 dL_law_1775 rfl rfl (by decide) (Nat.le_of_ble_eq_true rfl) rfl (by decide) (Nat.le_of_ble_eq_true rfl) (fun g9 => t_X12_judge (by have := hI.2.1; omega) F s (X.2 (i + 1)) (X.2 (i + 2)) h2) ?_
  refine jh_istore (L' := LM i (nI 0) y.1) dL_law_1778 (by decide) rfl ?_
  refine jh_aload_n dL_law_1780 rfl ?_
  refine jh_ref (As := []) hI kv_L_141 dL_law_1781 rfl rfl (by decide) (Nat.le_of_ble_eq_true rfl) rfl (by decide) (Nat.le_of_ble_eq_true rfl) (fun g9 => t_X12_thrown (by have := hI.2.1; omega) y.2 (x := nI 0) (by rw [o_X12_thrown, h3])) ?_
  refine jh_iload dL_law_1784 rfl ?_
  refine jh_icmp_eq (x := nI 0) (y := nI 0) (tgt := 1791) dL_law_1786 (by decide) (fun _ => ?_) (fun e => absurd rfl e)
  refine jh_iload dL_law_1791 rfl ?_
  refine jh_if_ne (x := nI 0) (tgt := 1808) dL_law_1793 (by decide) (fun e => absurd (by decide) e) (fun _ => ?_)
  refine jh_aload_n dL_law_1796 rfl ?_
  refine jh_iconst (v := nI 0) dL_law_1797 (by decide) ?_
  refine jh_lald (q := 191) (n := 1) (f := (vp_updL f 0 (x.1.toInt64))) (i := nI 0) dL_law_1798 (by show 191 < n; have := hI.2.1; omega) ((ct_base (hI.2.2.2 191 (by decide) (by decide))).trans lh_191) (vp_iL (iL_t (by decide) (by decide))) ?_
  refine jh_iload dL_law_1799 rfl ?_
  refine jh_i2l dL_law_1801 ?_
  refine jh_lcmp dL_law_1802 ?_
  refine jh_if_eq (tgt := 1808) dL_law_1803 (by decide) (fun _ => ?_) (fun e => absurd (by rw [h4]; exact lcmp_self _) e)
  refine jh_goto (tgt := 2513) dL_law_1808 (by decide) ?_
  refine jh_fg (L' := LL i) (by repeat (first | exact trivial | refine ⟨rfl, ?_⟩ | show jg_le _ _)) ?_
  exact K
set_option maxHeartbeats 2000000 in
theorem lc23x0 {Γ : jg_G} {X : Nat × (Nat → Int32)} {Q : jg_Q} {a b : Nat} {g : Nat → jg_C} {f : Nat → Int64} (F i : Nat) (τ : cT) (n : Nat) (c : cS) (s : rs_S) (hI : LI τ n) (hi : i + 9 ≤ X.1) (hX : X.1 ≤ 4608) (ha : 1 ≤ a) (hb : 6 ≤ b) (hn : n < 1000000) {z : cS} {y : Int32 × rs_S} (h1 : o_X11_judge F τ n 0 c (X.2 (i + 1)) (X.2 (i + 2)) = some (.inr (0, z))) (hI2 : LI τ (n + 1)) (h2 : o_X12_judge F s (X.2 (i + 1)) (X.2 (i + 2)) = some y) (h3 : y.2.1 0 = nI 1) (K : jh Γ mL_law ([], X) 100 (a - 1) (b - 6) 2513 (LL i) [] (lh (gx g n) f τ z y.2 (n + 1)) Q) : jh Γ mL_law ([], X) 100 a b 1743 (LL i) [] (lh g f τ c s n) Q := by
  refine jh_aload_n dL_law_1743 rfl ?_
  refine jh_arg (i := i) (j := 1) dL_law_1744 dL_law_1745 dL_law_1747 (by decide) dL_law_1748 dL_law_1749 rfl rfl (by omega) hX ?_
  refine jh_arg (i := i) (j := 2) dL_law_1750 dL_law_1751 dL_law_1753 (by decide) dL_law_1754 dL_law_1755 rfl rfl (by omega) hX ?_
  refine jh_aload_n dL_law_1756 rfl ?_
  refine jh_wrp (As := [.ref 0, .int (X.2 (i + 1)), .int (X.2 (i + 2)), .ref 191]) (a' := 1) (b' := 6) kL_judge dL_law_1757 rfl (by decide) (Nat.le_of_ble_eq_true rfl) rfl (by decide) ha hb (Nat.le_of_ble_eq_true rfl) (w_judge_x0 F τ n c (X.2 (i + 1)) (X.2 (i + 2)) hI.1 hn (hI.2.2.1 n (Nat.le_refl _)) h1) ?_
  refine jh_hs (S' := [.int (nI 1)]) (h' := lh (gx g n) f τ z s (n + 1)) rfl (lh_gx (by have := hI.2.1; have := nQ_le (n := n) (q := none); omega)) ?_
  refine jh_istore (L' := LN i (nI 1)) dL_law_1760 (by decide) rfl ?_
  refine jh_aload_n dL_law_1762 rfl ?_
  refine jh_arg (i := i) (j := 1) dL_law_1763 dL_law_1764 dL_law_1766 (by decide) dL_law_1767 dL_law_1768 rfl rfl (by omega) hX ?_
  refine jh_arg (i := i) (j := 2) dL_law_1769 dL_law_1770 dL_law_1772 (by decide) dL_law_1773 dL_law_1774 rfl rfl (by omega) hX ?_
  refine jh_ref (As := [.int (X.2 (i + 1)), .int (X.2 (i + 2))]) hI2 kv_L_216 dL_law_1775 rfl rfl (by decide) (Nat.le_of_ble_eq_true rfl) rfl (by decide) (Nat.le_of_ble_eq_true rfl) (fun g9 => t_X12_judge (by have := hI2.2.1; omega) F s (X.2 (i + 1)) (X.2 (i + 2)) h2) ?_
  refine jh_istore (L' := LM i (nI 1) y.1) dL_law_1778 (by decide) rfl ?_
  refine jh_aload_n dL_law_1780 rfl ?_
  refine jh_ref (As := []) hI2 kv_L_141 dL_law_1781 rfl rfl (by decide) (Nat.le_of_ble_eq_true rfl) rfl (by decide) (Nat.le_of_ble_eq_true rfl) (fun g9 => t_X12_thrown (by have := hI2.2.1; omega) y.2 (x := nI 1) (by rw [o_X12_thrown, h3])) ?_
  refine jh_iload dL_law_1784 rfl ?_
  refine jh_icmp_eq (x := nI 1) (y := nI 1) (tgt := 1791) dL_law_1786 (by decide) (fun _ => ?_) (fun e => absurd rfl e)
  refine jh_iload dL_law_1791 rfl ?_
  refine jh_if_ne (x := nI 1) (tgt := 1808) dL_law_1793 (by decide) (fun _ => ?_) (fun e => absurd e (by decide))
  refine jh_goto (tgt := 2513) dL_law_1808 (by decide) ?_
  refine jh_fg (L' := LL i) (by repeat (first | exact trivial | refine ⟨rfl, ?_⟩ | show jg_le _ _)) ?_
  exact K
set_option maxHeartbeats 2000000 in
theorem lc23x4 {Γ : jg_G} {X : Nat × (Nat → Int32)} {Q : jg_Q} {a b : Nat} {g : Nat → jg_C} {f : Nat → Int64} (F i : Nat) (τ : cT) (n : Nat) (c : cS) (s : rs_S) (hI : LI τ n) (hi : i + 9 ≤ X.1) (hX : X.1 ≤ 4608) (ha : 1 ≤ a) (hb : 6 ≤ b) (hn : n < 1000000) {z : cS} {y : Int32 × rs_S} (h1 : o_X11_judge F τ n 0 c (X.2 (i + 1)) (X.2 (i + 2)) = some (.inr (4, z))) (hI2 : LI τ (n + 1)) (h2 : o_X12_judge F s (X.2 (i + 1)) (X.2 (i + 2)) = some y) (h3 : y.2.1 0 = nI 2) (K : jh Γ mL_law ([], X) 100 (a - 1) (b - 6) 2513 (LL i) [] (lh (gx g n) f τ z y.2 (n + 1)) Q) : jh Γ mL_law ([], X) 100 a b 1743 (LL i) [] (lh g f τ c s n) Q := by
  refine jh_aload_n dL_law_1743 rfl ?_
  refine jh_arg (i := i) (j := 1) dL_law_1744 dL_law_1745 dL_law_1747 (by decide) dL_law_1748 dL_law_1749 rfl rfl (by omega) hX ?_
  refine jh_arg (i := i) (j := 2) dL_law_1750 dL_law_1751 dL_law_1753 (by decide) dL_law_1754 dL_law_1755 rfl rfl (by omega) hX ?_
  refine jh_aload_n dL_law_1756 rfl ?_
  refine jh_wrp (As := [.ref 0, .int (X.2 (i + 1)), .int (X.2 (i + 2)), .ref 191]) (a' := 1) (b' := 6) kL_judge dL_law_1757 rfl (by decide) (Nat.le_of_ble_eq_true rfl) rfl (by decide) ha hb (Nat.le_of_ble_eq_true rfl) (w_judge_x4 F τ n c (X.2 (i + 1)) (X.2 (i + 2)) hI.1 hn (hI.2.2.1 n (Nat.le_refl _)) h1) ?_
  refine jh_hs (S' := [.int (nI 2)]) (h' := lh (gx g n) f τ z s (n + 1)) rfl (lh_gx (by have := hI.2.1; have := nQ_le (n := n) (q := none); omega)) ?_
  refine jh_istore (L' := LN i (nI 2)) dL_law_1760 (by decide) rfl ?_
  refine jh_aload_n dL_law_1762 rfl ?_
  refine jh_arg (i := i) (j := 1) dL_law_1763 dL_law_1764 dL_law_1766 (by decide) dL_law_1767 dL_law_1768 rfl rfl (by omega) hX ?_
  refine jh_arg (i := i) (j := 2) dL_law_1769 dL_law_1770 dL_law_1772 (by decide) dL_law_1773 dL_law_1774 rfl rfl (by omega) hX ?_
  refine jh_ref (As := [.int (X.2 (i + 1)), .int (X.2 (i + 2))]) hI2 kv_L_216 dL_law_1775 rfl rfl (by decide) (Nat.le_of_ble_eq_true rfl) rfl (by decide) (Nat.le_of_ble_eq_true rfl) (fun g9 => t_X12_judge (by have := hI2.2.1; omega) F s (X.2 (i + 1)) (X.2 (i + 2)) h2) ?_
  refine jh_istore (L' := LM i (nI 2) y.1) dL_law_1778 (by decide) rfl ?_
  refine jh_aload_n dL_law_1780 rfl ?_
  refine jh_ref (As := []) hI2 kv_L_141 dL_law_1781 rfl rfl (by decide) (Nat.le_of_ble_eq_true rfl) rfl (by decide) (Nat.le_of_ble_eq_true rfl) (fun g9 => t_X12_thrown (by have := hI2.2.1; omega) y.2 (x := nI 2) (by rw [o_X12_thrown, h3])) ?_
  refine jh_iload dL_law_1784 rfl ?_
  refine jh_icmp_eq (x := nI 2) (y := nI 2) (tgt := 1791) dL_law_1786 (by decide) (fun _ => ?_) (fun e => absurd rfl e)
  refine jh_iload dL_law_1791 rfl ?_
  refine jh_if_ne (x := nI 2) (tgt := 1808) dL_law_1793 (by decide) (fun _ => ?_) (fun e => absurd e (by decide))
  refine jh_goto (tgt := 2513) dL_law_1808 (by decide) ?_
  refine jh_fg (L' := LL i) (by repeat (first | exact trivial | refine ⟨rfl, ?_⟩ | show jg_le _ _)) ?_
  exact K
set_option maxHeartbeats 2000000 in
theorem lc24 {Γ : jg_G} {X : Nat × (Nat → Int32)} {Q : jg_Q} {a b : Nat} {g : Nat → jg_C} {f : Nat → Int64} (F i : Nat) (τ : cT) (n : Nat) (c : cS) (s : rs_S) (hI : LI τ n) (hi : i + 9 ≤ X.1) (hX : X.1 ≤ 4608) (ha : 0 ≤ a) (hb : 0 ≤ b) {x : Int32 × cS} {y : Int32 × rs_S} (h1 : o_X11_back F τ n 0 c (X.2 (i + 1)) = some (.inl x)) (h2 : o_X12_back F s (X.2 (i + 1)) = some y) (h3 : y.2.1 0 = nI 0) (h4 : y.1 = x.1) (K : jh Γ mL_law ([], X) 100 (a - 0) (b - 0) 2513 (LL i) [] (lh g (vp_updL f 0 (x.1.toInt64)) τ x.2 y.2 n) Q) : jh Γ mL_law ([], X) 100 a b 1811 (LL i) [] (lh g f τ c s n) Q := by
  refine jh_aload_n dL_law_1811 rfl ?_
  refine jh_arg (i := i) (j := 1) dL_law_1812 dL_law_1813 dL_law_1815 (by decide) dL_law_1816 dL_law_1817 rfl rfl (by omega) hX ?_
  refine jh_aload_n dL_law_1818 rfl ?_
  refine jh_wrp (As := [.ref 0, .int (X.2 (i + 1)), .ref 191]) (a' := 0) (b' := 0) kL_back dL_law_1819 rfl (by decide) (Nat.le_of_ble_eq_true rfl) rfl (by decide) ha hb (Nat.le_of_ble_eq_true rfl) (w_back F τ n c (X.2 (i + 1)) hI.1 lh_191 (hI.2.2.2 191 (by decide) (by decide)) (by have := hI.2.1; omega) h1) ?_
  refine jh_hs (S' := [.int (nI 0)]) (h' := lh g (vp_updL f 0 (x.1.toInt64)) τ x.2 s n) rfl lh_out ?_
  refine jh_istore (L' := LN i (nI 0)) dL_law_1822 (by decide) rfl ?_
  refine jh_aload_n dL_law_1824 rfl ?_
  refine jh_arg (i := i) (j := 1) dL_law_1825 dL_law_1826 dL_law_1828 (by decide) dL_law_1829 dL_law_1830 rfl rfl (by omega) hX ?_
  refine jh_ref (As := [.int (X.2 (i + 1))]) hI kv_L_219 dL_law_1831 rfl rfl (by decide) (Nat.le_of_ble_eq_true rfl) rfl (by decide) (Nat.le_of_ble_eq_true rfl) (fun g9 => t_X12_back (by have := hI.2.1; omega) F s (X.2 (i + 1)) h2) ?_
  refine jh_istore (L' := LM i (nI 0) y.1) dL_law_1834 (by decide) rfl ?_
  refine jh_aload_n dL_law_1836 rfl ?_
  refine jh_ref (As := []) hI kv_L_141 dL_law_1837 rfl rfl (by decide) (Nat.le_of_ble_eq_true rfl) rfl (by decide) (Nat.le_of_ble_eq_true rfl) (fun g9 => t_X12_thrown (by have := hI.2.1; omega) y.2 (x := nI 0) (by rw [o_X12_thrown, h3])) ?_
  refine jh_iload dL_law_1840 rfl ?_
  refine jh_icmp_eq (x := nI 0) (y := nI 0) (tgt := 1847) dL_law_1842 (by decide) (fun _ => ?_) (fun e => absurd rfl e)
  refine jh_iload dL_law_1847 rfl ?_
  refine jh_if_ne (x := nI 0) (tgt := 1864) dL_law_1849 (by decide) (fun e => absurd (by decide) e) (fun _ => ?_)
  refine jh_aload_n dL_law_1852 rfl ?_
  refine jh_iconst (v := nI 0) dL_law_1853 (by decide) ?_
  refine jh_lald (q := 191) (n := 1) (f := (vp_updL f 0 (x.1.toInt64))) (i := nI 0) dL_law_1854 (by show 191 < n; have := hI.2.1; omega) ((ct_base (hI.2.2.2 191 (by decide) (by decide))).trans lh_191) (vp_iL (iL_t (by decide) (by decide))) ?_
  refine jh_iload dL_law_1855 rfl ?_
  refine jh_i2l dL_law_1857 ?_
  refine jh_lcmp dL_law_1858 ?_
  refine jh_if_eq (tgt := 1864) dL_law_1859 (by decide) (fun _ => ?_) (fun e => absurd (by rw [h4]; exact lcmp_self _) e)
  refine jh_goto (tgt := 2513) dL_law_1864 (by decide) ?_
  refine jh_fg (L' := LL i) (by repeat (first | exact trivial | refine ⟨rfl, ?_⟩ | show jg_le _ _)) ?_
  exact K
set_option maxHeartbeats 2000000 in
theorem lc24x0 {Γ : jg_G} {X : Nat × (Nat → Int32)} {Q : jg_Q} {a b : Nat} {g : Nat → jg_C} {f : Nat → Int64} (F i : Nat) (τ : cT) (n : Nat) (c : cS) (s : rs_S) (hI : LI τ n) (hi : i + 9 ≤ X.1) (hX : X.1 ≤ 4608) (ha : 1 ≤ a) (hb : 6 ≤ b) (hn : n < 1000000) {z : cS} {y : Int32 × rs_S} (h1 : o_X11_back F τ n 0 c (X.2 (i + 1)) = some (.inr (0, z))) (hI2 : LI τ (n + 1)) (h2 : o_X12_back F s (X.2 (i + 1)) = some y) (h3 : y.2.1 0 = nI 1) (K : jh Γ mL_law ([], X) 100 (a - 1) (b - 6) 2513 (LL i) [] (lh (gx g n) f τ z y.2 (n + 1)) Q) : jh Γ mL_law ([], X) 100 a b 1811 (LL i) [] (lh g f τ c s n) Q := by
  refine jh_aload_n dL_law_1811 rfl ?_
  refine jh_arg (i := i) (j := 1) dL_law_1812 dL_law_1813 dL_law_1815 (by decide) dL_law_1816 dL_law_1817 rfl rfl (by omega) hX ?_
  refine jh_aload_n dL_law_1818 rfl ?_
  refine jh_wrp (As := [.ref 0, .int (X.2 (i + 1)), .ref 191]) (a' := 1) (b' := 6) kL_back dL_law_1819 rfl (by decide) (Nat.le_of_ble_eq_true rfl) rfl (by decide) ha hb (Nat.le_of_ble_eq_true rfl) (w_back_x0 F τ n c (X.2 (i + 1)) hI.1 hn (hI.2.2.1 n (Nat.le_refl _)) h1) ?_
  refine jh_hs (S' := [.int (nI 1)]) (h' := lh (gx g n) f τ z s (n + 1)) rfl (lh_gx (by have := hI.2.1; have := nQ_le (n := n) (q := none); omega)) ?_
  refine jh_istore (L' := LN i (nI 1)) dL_law_1822 (by decide) rfl ?_
  refine jh_aload_n dL_law_1824 rfl ?_
  refine jh_arg (i := i) (j := 1) dL_law_1825 dL_law_1826 dL_law_1828 (by decide) dL_law_1829 dL_law_1830 rfl rfl (by omega) hX ?_
  refine jh_ref (As := [.int (X.2 (i + 1))]) hI2 kv_L_219 dL_law_1831 rfl rfl (by decide) (Nat.le_of_ble_eq_true rfl) rfl (by decide) (Nat.le_of_ble_eq_true rfl) (fun g9 => t_X12_back (by have := hI2.2.1; omega) F s (X.2 (i + 1)) h2) ?_
  refine jh_istore (L' := LM i (nI 1) y.1) dL_law_1834 (by decide) rfl ?_
  refine jh_aload_n dL_law_1836 rfl ?_
  refine jh_ref (As := []) hI2 kv_L_141 dL_law_1837 rfl rfl (by decide) (Nat.le_of_ble_eq_true rfl) rfl (by decide) (Nat.le_of_ble_eq_true rfl) (fun g9 => t_X12_thrown (by have := hI2.2.1; omega) y.2 (x := nI 1) (by rw [o_X12_thrown, h3])) ?_
  refine jh_iload dL_law_1840 rfl ?_
  refine jh_icmp_eq (x := nI 1) (y := nI 1) (tgt := 1847) dL_law_1842 (by decide) (fun _ => ?_) (fun e => absurd rfl e)
  refine jh_iload dL_law_1847 rfl ?_
  refine jh_if_ne (x := nI 1) (tgt := 1864) dL_law_1849 (by decide) (fun _ => ?_) (fun e => absurd e (by decide))
  refine jh_goto (tgt := 2513) dL_law_1864 (by decide) ?_
  refine jh_fg (L' := LL i) (by repeat (first | exact trivial | refine ⟨rfl, ?_⟩ | show jg_le _ _)) ?_
  exact K
set_option maxHeartbeats 2000000 in
theorem lc25 {Γ : jg_G} {X : Nat × (Nat → Int32)} {Q : jg_Q} {a b : Nat} {g : Nat → jg_C} {f : Nat → Int64} (F i : Nat) (τ : cT) (n : Nat) (c : cS) (s : rs_S) (hI : LI τ n) (hi : i + 9 ≤ X.1) (hX : X.1 ≤ 4608) (ha : 0 ≤ a) (hb : 0 ≤ b) {x : Int32 × cS} {y : Int32 × rs_S} (h1 : o_X11_pays F τ n 0 c (X.2 (i + 1)) (X.2 (i + 2)) = some (.inl x)) (h2 : o_X12_pays F s (X.2 (i + 1)) (X.2 (i + 2)) = some y) (h3 : y.2.1 0 = nI 0) (h4 : y.1 = x.1) (K : jh Γ mL_law ([], X) 100 (a - 0) (b - 0) 2513 (LL i) [] (lh g (vp_updL f 0 (x.1.toInt64)) τ x.2 y.2 n) Q) : jh Γ mL_law ([], X) 100 a b 1867 (LL i) [] (lh g f τ c s n) Q := by
  refine jh_aload_n dL_law_1867 rfl ?_
  refine jh_arg (i := i) (j := 1) dL_law_1868 dL_law_1869 dL_law_1871 (by decide) dL_law_1872 dL_law_1873 rfl rfl (by omega) hX ?_
  refine jh_arg (i := i) (j := 2) dL_law_1874 dL_law_1875 dL_law_1877 (by decide) dL_law_1878 dL_law_1879 rfl rfl (by omega) hX ?_
  refine jh_aload_n dL_law_1880 rfl ?_
  refine jh_wrp (As := [.ref 0, .int (X.2 (i + 1)), .int (X.2 (i + 2)), .ref 191]) (a' := 0) (b' := 0) kL_pays dL_law_1881 rfl (by decide) (Nat.le_of_ble_eq_true rfl) rfl (by decide) ha hb (Nat.le_of_ble_eq_true rfl) (w_pays F τ n c (X.2 (i + 1)) (X.2 (i + 2)) hI.1 lh_191 (hI.2.2.2 191 (by decide) (by decide)) (by have := hI.2.1; omega) h1) ?_
  refine jh_hs (S' := [.int (nI 0)]) (h' := lh g (vp_updL f 0 (x.1.toInt64)) τ x.2 s n) rfl lh_out ?_
  refine jh_istore (L' := LN i (nI 0)) dL_law_1884 (by decide) rfl ?_
  refine jh_aload_n dL_law_1886 rfl ?_
  refine jh_arg (i := i) (j := 1) dL_law_1887 dL_law_1888 dL_law_1890 (by decide) dL_law_1891 dL_law_1892 rfl rfl (by omega) hX ?_
  refine jh_arg (i := i) (j := 2) dL_law_1893 dL_law_1894 dL_law_1896 (by decide) dL_law_1897 dL_law_1898 rfl rfl (by omega) hX ?_
  refine jh_ref (As := [.int (X.2 (i + 1)), .int (X.2 (i + 2))]) hI kv_L_222 dL_law_1899 rfl rfl (by decide) (Nat.le_of_ble_eq_true rfl) rfl (by decide) (Nat.le_of_ble_eq_true rfl) (fun g9 => t_X12_pays (by have := hI.2.1; omega) F s (X.2 (i + 1)) (X.2 (i + 2)) h2) ?_
  refine jh_istore (L' := LM i (nI 0) y.1) dL_law_1902 (by decide) rfl ?_
  refine jh_aload_n dL_law_1904 rfl ?_
  refine jh_ref (As := []) hI kv_L_141 dL_law_1905 rfl rfl (by decide) (Nat.le_of_ble_eq_true rfl) rfl (by decide) (Nat.le_of_ble_eq_true rfl) (fun g9 => t_X12_thrown (by have := hI.2.1; omega) y.2 (x := nI 0) (by rw [o_X12_thrown, h3])) ?_
  refine jh_iload dL_law_1908 rfl ?_
  refine jh_icmp_eq (x := nI 0) (y := nI 0) (tgt := 1915) dL_law_1910 (by decide) (fun _ => ?_) (fun e => absurd rfl e)
  refine jh_iload dL_law_1915 rfl ?_
  refine jh_if_ne (x := nI 0) (tgt := 1932) dL_law_1917 (by decide) (fun e => absurd (by decide) e) (fun _ => ?_)
  refine jh_aload_n dL_law_1920 rfl ?_
  refine jh_iconst (v := nI 0) dL_law_1921 (by decide) ?_
  refine jh_lald (q := 191) (n := 1) (f := (vp_updL f 0 (x.1.toInt64))) (i := nI 0) dL_law_1922 (by show 191 < n; have := hI.2.1; omega) ((ct_base (hI.2.2.2 191 (by decide) (by decide))).trans lh_191) (vp_iL (iL_t (by decide) (by decide))) ?_
  refine jh_iload dL_law_1923 rfl ?_
  refine jh_i2l dL_law_1925 ?_
  refine jh_lcmp dL_law_1926 ?_
  refine jh_if_eq (tgt := 1932) dL_law_1927 (by decide) (fun _ => ?_) (fun e => absurd (by rw [h4]; exact lcmp_self _) e)
  refine jh_goto (tgt := 2513) dL_law_1932 (by decide) ?_
  refine jh_fg (L' := LL i) (by repeat (first | exact trivial | refine ⟨rfl, ?_⟩ | show jg_le _ _)) ?_
  exact K
set_option maxHeartbeats 2000000 in
theorem lc25x0 {Γ : jg_G} {X : Nat × (Nat → Int32)} {Q : jg_Q} {a b : Nat} {g : Nat → jg_C} {f : Nat → Int64} (F i : Nat) (τ : cT) (n : Nat) (c : cS) (s : rs_S) (hI : LI τ n) (hi : i + 9 ≤ X.1) (hX : X.1 ≤ 4608) (ha : 1 ≤ a) (hb : 6 ≤ b) (hn : n < 1000000) {z : cS} {y : Int32 × rs_S} (h1 : o_X11_pays F τ n 0 c (X.2 (i + 1)) (X.2 (i + 2)) = some (.inr (0, z))) (hI2 : LI τ (n + 1)) (h2 : o_X12_pays F s (X.2 (i + 1)) (X.2 (i + 2)) = some y) (h3 : y.2.1 0 = nI 1) (K : jh Γ mL_law ([], X) 100 (a - 1) (b - 6) 2513 (LL i) [] (lh (gx g n) f τ z y.2 (n + 1)) Q) : jh Γ mL_law ([], X) 100 a b 1867 (LL i) [] (lh g f τ c s n) Q := by
  refine jh_aload_n dL_law_1867 rfl ?_
  refine jh_arg (i := i) (j := 1) dL_law_1868 dL_law_1869 dL_law_1871 (by decide) dL_law_1872 dL_law_1873 rfl rfl (by omega) hX ?_
  refine jh_arg (i := i) (j := 2) dL_law_1874 dL_law_1875 dL_law_1877 (by decide) dL_law_1878 dL_law_1879 rfl rfl (by omega) hX ?_
  refine jh_aload_n dL_law_1880 rfl ?_
  refine jh_wrp (As := [.ref 0, .int (X.2 (i + 1)), .int (X.2 (i + 2)), .ref 191]) (a' := 1) (b' := 6) kL_pays dL_law_1881 rfl (by decide) (Nat.le_of_ble_eq_true rfl) rfl (by decide) ha hb (Nat.le_of_ble_eq_true rfl) (w_pays_x0 F τ n c (X.2 (i + 1)) (X.2 (i + 2)) hI.1 hn (hI.2.2.1 n (Nat.le_refl _)) h1) ?_
  refine jh_hs (S' := [.int (nI 1)]) (h' := lh (gx g n) f τ z s (n + 1)) rfl (lh_gx (by have := hI.2.1; have := nQ_le (n := n) (q := none); omega)) ?_
  refine jh_istore (L' := LN i (nI 1)) dL_law_1884 (by decide) rfl ?_
  refine jh_aload_n dL_law_1886 rfl ?_
  refine jh_arg (i := i) (j := 1) dL_law_1887 dL_law_1888 dL_law_1890 (by decide) dL_law_1891 dL_law_1892 rfl rfl (by omega) hX ?_
  refine jh_arg (i := i) (j := 2) dL_law_1893 dL_law_1894 dL_law_1896 (by decide) dL_law_1897 dL_law_1898 rfl rfl (by omega) hX ?_
  refine jh_ref (As := [.int (X.2 (i + 1)), .int (X.2 (i + 2))]) hI2 kv_L_222 dL_law_1899 rfl rfl (by decide) (Nat.le_of_ble_eq_true rfl) rfl (by decide) (Nat.le_of_ble_eq_true rfl) (fun g9 => t_X12_pays (by have := hI2.2.1; omega) F s (X.2 (i + 1)) (X.2 (i + 2)) h2) ?_
  refine jh_istore (L' := LM i (nI 1) y.1) dL_law_1902 (by decide) rfl ?_
  refine jh_aload_n dL_law_1904 rfl ?_
  refine jh_ref (As := []) hI2 kv_L_141 dL_law_1905 rfl rfl (by decide) (Nat.le_of_ble_eq_true rfl) rfl (by decide) (Nat.le_of_ble_eq_true rfl) (fun g9 => t_X12_thrown (by have := hI2.2.1; omega) y.2 (x := nI 1) (by rw [o_X12_thrown, h3])) ?_
  refine jh_iload dL_law_1908 rfl ?_
  refine jh_icmp_eq (x := nI 1) (y := nI 1) (tgt := 1915) dL_law_1910 (by decide) (fun _ => ?_) (fun e => absurd rfl e)
  refine jh_iload dL_law_1915 rfl ?_
  refine jh_if_ne (x := nI 1) (tgt := 1932) dL_law_1917 (by decide) (fun _ => ?_) (fun e => absurd e (by decide))
  refine jh_goto (tgt := 2513) dL_law_1932 (by decide) ?_
  refine jh_fg (L' := LL i) (by repeat (first | exact trivial | refine ⟨rfl, ?_⟩ | show jg_le _ _)) ?_
  exact K
set_option maxHeartbeats 2000000 in
theorem lc25x4 {Γ : jg_G} {X : Nat × (Nat → Int32)} {Q : jg_Q} {a b : Nat} {g : Nat → jg_C} {f : Nat → Int64} (F i : Nat) (τ : cT) (n : Nat) (c : cS) (s : rs_S) (hI : LI τ n) (hi : i + 9 ≤ X.1) (hX : X.1 ≤ 4608) (ha : 1 ≤ a) (hb : 6 ≤ b) (hn : n < 1000000) {z : cS} {y : Int32 × rs_S} (h1 : o_X11_pays F τ n 0 c (X.2 (i + 1)) (X.2 (i + 2)) = some (.inr (4, z))) (hI2 : LI τ (n + 1)) (h2 : o_X12_pays F s (X.2 (i + 1)) (X.2 (i + 2)) = some y) (h3 : y.2.1 0 = nI 2) (K : jh Γ mL_law ([], X) 100 (a - 1) (b - 6) 2513 (LL i) [] (lh (gx g n) f τ z y.2 (n + 1)) Q) : jh Γ mL_law ([], X) 100 a b 1867 (LL i) [] (lh g f τ c s n) Q := by
  refine jh_aload_n dL_law_1867 rfl ?_
  refine jh_arg (i := i) (j := 1) dL_law_1868 dL_law_1869 dL_law_1871 (by decide) dL_law_1872 dL_law_1873 rfl rfl (by omega) hX ?_
  refine jh_arg (i := i) (j := 2) dL_law_1874 dL_law_1875 dL_law_1877 (by decide) dL_law_1878 dL_law_1879 rfl rfl (by omega) hX ?_
  refine jh_aload_n dL_law_1880 rfl ?_
  refine jh_wrp (As := [.ref 0, .int (X.2 (i + 1)), .int (X.2 (i + 2)), .ref 191]) (a' := 1) (b' := 6) kL_pays dL_law_1881 rfl (by decide) (Nat.le_of_ble_eq_true rfl) rfl (by decide) ha hb (Nat.le_of_ble_eq_true rfl) (w_pays_x4 F τ n c (X.2 (i + 1)) (X.2 (i + 2)) hI.1 hn (hI.2.2.1 n (Nat.le_refl _)) h1) ?_
  refine jh_hs (S' := [.int (nI 2)]) (h' := lh (gx g n) f τ z s (n + 1)) rfl (lh_gx (by have := hI.2.1; have := nQ_le (n := n) (q := none); omega)) ?_
  refine jh_istore (L' := LN i (nI 2)) dL_law_1884 (by decide) rfl ?_
  refine jh_aload_n dL_law_1886 rfl ?_
  refine jh_arg (i := i) (j := 1) dL_law_1887 dL_law_1888 dL_law_1890 (by decide) dL_law_1891 dL_law_1892 rfl rfl (by omega) hX ?_
  refine jh_arg (i := i) (j := 2) dL_law_1893 dL_law_1894 dL_law_1896 (by decide) dL_law_1897 dL_law_1898 rfl rfl (by omega) hX ?_
  refine jh_ref (As := [.int (X.2 (i + 1)), .int (X.2 (i + 2))]) hI2 kv_L_222 dL_law_1899 rfl rfl (by decide) (Nat.le_of_ble_eq_true rfl) rfl (by decide) (Nat.le_of_ble_eq_true rfl) (fun g9 => t_X12_pays (by have := hI2.2.1; omega) F s (X.2 (i + 1)) (X.2 (i + 2)) h2) ?_
  refine jh_istore (L' := LM i (nI 2) y.1) dL_law_1902 (by decide) rfl ?_
  refine jh_aload_n dL_law_1904 rfl ?_
  refine jh_ref (As := []) hI2 kv_L_141 dL_law_1905 rfl rfl (by decide) (Nat.le_of_ble_eq_true rfl) rfl (by decide) (Nat.le_of_ble_eq_true rfl) (fun g9 => t_X12_thrown (by have := hI2.2.1; omega) y.2 (x := nI 2) (by rw [o_X12_thrown, h3])) ?_
  refine jh_iload dL_law_1908 rfl ?_
  refine jh_icmp_eq (x := nI 2) (y := nI 2) (tgt := 1915) dL_law_1910 (by decide) (fun _ => ?_) (fun e => absurd rfl e)
  refine jh_iload dL_law_1915 rfl ?_
  refine jh_if_ne (x := nI 2) (tgt := 1932) dL_law_1917 (by decide) (fun _ => ?_) (fun e => absurd e (by decide))
  refine jh_goto (tgt := 2513) dL_law_1932 (by decide) ?_
  refine jh_fg (L' := LL i) (by repeat (first | exact trivial | refine ⟨rfl, ?_⟩ | show jg_le _ _)) ?_
  exact K
set_option maxHeartbeats 2000000 in
theorem lc26 {Γ : jg_G} {X : Nat × (Nat → Int32)} {Q : jg_Q} {a b : Nat} {g : Nat → jg_C} {f : Nat → Int64} (F i : Nat) (τ : cT) (n : Nat) (c : cS) (s : rs_S) (hI : LI τ n) (hi : i + 9 ≤ X.1) (hX : X.1 ≤ 4608) (ha : 0 ≤ a) (hb : 0 ≤ b) {x : Int32 × cS} {y : Int32 × rs_S} (h1 : o_X11_cash τ n 0 c (X.2 (i + 1)) = some (.inl x)) (h2 : o_X12_cash s (X.2 (i + 1)) = some y) (h3 : y.2.1 0 = nI 0) (h4 : y.1 = x.1) (K : jh Γ mL_law ([], X) 100 (a - 0) (b - 0) 2513 (LL i) [] (lh g (vp_updL f 0 (x.1.toInt64)) τ x.2 y.2 n) Q) : jh Γ mL_law ([], X) 100 a b 1935 (LL i) [] (lh g f τ c s n) Q := by
  refine jh_aload_n dL_law_1935 rfl ?_
  refine jh_arg (i := i) (j := 1) dL_law_1936 dL_law_1937 dL_law_1939 (by decide) dL_law_1940 dL_law_1941 rfl rfl (by omega) hX ?_
  refine jh_aload_n dL_law_1942 rfl ?_
  refine jh_wrp (As := [.ref 0, .int (X.2 (i + 1)), .ref 191]) (a' := 0) (b' := 0) kL_cash dL_law_1943 rfl (by decide) (Nat.le_of_ble_eq_true rfl) rfl (by decide) ha hb (Nat.le_of_ble_eq_true rfl) (w_cash τ n c (X.2 (i + 1)) hI.1 lh_191 (hI.2.2.2 191 (by decide) (by decide)) (by have := hI.2.1; omega) h1) ?_
  refine jh_hs (S' := [.int (nI 0)]) (h' := lh g (vp_updL f 0 (x.1.toInt64)) τ x.2 s n) rfl lh_out ?_
  refine jh_istore (L' := LN i (nI 0)) dL_law_1946 (by decide) rfl ?_
  refine jh_aload_n dL_law_1948 rfl ?_
  refine jh_arg (i := i) (j := 1) dL_law_1949 dL_law_1950 dL_law_1952 (by decide) dL_law_1953 dL_law_1954 rfl rfl (by omega) hX ?_
  refine jh_ref (As := [.int (X.2 (i + 1))]) hI kv_L_225 dL_law_1955 rfl rfl (by decide) (Nat.le_of_ble_eq_true rfl) rfl (by decide) (Nat.le_of_ble_eq_true rfl) (fun g9 => t_X12_cash (by have := hI.2.1; omega) s (X.2 (i + 1)) h2) ?_
  refine jh_istore (L' := LM i (nI 0) y.1) dL_law_1958 (by decide) rfl ?_
  refine jh_aload_n dL_law_1960 rfl ?_
  refine jh_ref (As := []) hI kv_L_141 dL_law_1961 rfl rfl (by decide) (Nat.le_of_ble_eq_true rfl) rfl (by decide) (Nat.le_of_ble_eq_true rfl) (fun g9 => t_X12_thrown (by have := hI.2.1; omega) y.2 (x := nI 0) (by rw [o_X12_thrown, h3])) ?_
  refine jh_iload dL_law_1964 rfl ?_
  refine jh_icmp_eq (x := nI 0) (y := nI 0) (tgt := 1971) dL_law_1966 (by decide) (fun _ => ?_) (fun e => absurd rfl e)
  refine jh_iload dL_law_1971 rfl ?_
  refine jh_if_ne (x := nI 0) (tgt := 1988) dL_law_1973 (by decide) (fun e => absurd (by decide) e) (fun _ => ?_)
  refine jh_aload_n dL_law_1976 rfl ?_
  refine jh_iconst (v := nI 0) dL_law_1977 (by decide) ?_
  refine jh_lald (q := 191) (n := 1) (f := (vp_updL f 0 (x.1.toInt64))) (i := nI 0) dL_law_1978 (by show 191 < n; have := hI.2.1; omega) ((ct_base (hI.2.2.2 191 (by decide) (by decide))).trans lh_191) (vp_iL (iL_t (by decide) (by decide))) ?_
  refine jh_iload dL_law_1979 rfl ?_
  refine jh_i2l dL_law_1981 ?_
  refine jh_lcmp dL_law_1982 ?_
  refine jh_if_eq (tgt := 1988) dL_law_1983 (by decide) (fun _ => ?_) (fun e => absurd (by rw [h4]; exact lcmp_self _) e)
  refine jh_goto (tgt := 2513) dL_law_1988 (by decide) ?_
  refine jh_fg (L' := LL i) (by repeat (first | exact trivial | refine ⟨rfl, ?_⟩ | show jg_le _ _)) ?_
  exact K
set_option maxHeartbeats 2000000 in
theorem lc26x1 {Γ : jg_G} {X : Nat × (Nat → Int32)} {Q : jg_Q} {a b : Nat} {g : Nat → jg_C} {f : Nat → Int64} (F i : Nat) (τ : cT) (n : Nat) (c : cS) (s : rs_S) (hI : LI τ n) (hi : i + 9 ≤ X.1) (hX : X.1 ≤ 4608) (ha : 1 ≤ a) (hb : 6 ≤ b) (hn : n < 1000000) {z : cS} {y : Int32 × rs_S} (h1 : o_X11_cash τ n 0 c (X.2 (i + 1)) = some (.inr (1, z))) (hI2 : LI τ (n + 1)) (h2 : o_X12_cash s (X.2 (i + 1)) = some y) (h3 : y.2.1 0 = nI 1) (K : jh Γ mL_law ([], X) 100 (a - 1) (b - 6) 2513 (LL i) [] (lh (gx g n) f τ z y.2 (n + 1)) Q) : jh Γ mL_law ([], X) 100 a b 1935 (LL i) [] (lh g f τ c s n) Q := by
  refine jh_aload_n dL_law_1935 rfl ?_
  refine jh_arg (i := i) (j := 1) dL_law_1936 dL_law_1937 dL_law_1939 (by decide) dL_law_1940 dL_law_1941 rfl rfl (by omega) hX ?_
  refine jh_aload_n dL_law_1942 rfl ?_
  refine jh_wrp (As := [.ref 0, .int (X.2 (i + 1)), .ref 191]) (a' := 1) (b' := 6) kL_cash dL_law_1943 rfl (by decide) (Nat.le_of_ble_eq_true rfl) rfl (by decide) ha hb (Nat.le_of_ble_eq_true rfl) (w_cash_x1 τ n c (X.2 (i + 1)) hI.1 hn (hI.2.2.1 n (Nat.le_refl _)) h1) ?_
  refine jh_hs (S' := [.int (nI 1)]) (h' := lh (gx g n) f τ z s (n + 1)) rfl (lh_gx (by have := hI.2.1; have := nQ_le (n := n) (q := none); omega)) ?_
  refine jh_istore (L' := LN i (nI 1)) dL_law_1946 (by decide) rfl ?_
  refine jh_aload_n dL_law_1948 rfl ?_
  refine jh_arg (i := i) (j := 1) dL_law_1949 dL_law_1950 dL_law_1952 (by decide) dL_law_1953 dL_law_1954 rfl rfl (by omega) hX ?_
  refine jh_ref (As := [.int (X.2 (i + 1))]) hI2 kv_L_225 dL_law_1955 rfl rfl (by decide) (Nat.le_of_ble_eq_true rfl) rfl (by decide) (Nat.le_of_ble_eq_true rfl) (fun g9 => t_X12_cash (by have := hI2.2.1; omega) s (X.2 (i + 1)) h2) ?_
  refine jh_istore (L' := LM i (nI 1) y.1) dL_law_1958 (by decide) rfl ?_
  refine jh_aload_n dL_law_1960 rfl ?_
  refine jh_ref (As := []) hI2 kv_L_141 dL_law_1961 rfl rfl (by decide) (Nat.le_of_ble_eq_true rfl) rfl (by decide) (Nat.le_of_ble_eq_true rfl) (fun g9 => t_X12_thrown (by have := hI2.2.1; omega) y.2 (x := nI 1) (by rw [o_X12_thrown, h3])) ?_
  refine jh_iload dL_law_1964 rfl ?_
  refine jh_icmp_eq (x := nI 1) (y := nI 1) (tgt := 1971) dL_law_1966 (by decide) (fun _ => ?_) (fun e => absurd rfl e)
  refine jh_iload dL_law_1971 rfl ?_
  refine jh_if_ne (x := nI 1) (tgt := 1988) dL_law_1973 (by decide) (fun _ => ?_) (fun e => absurd e (by decide))
  refine jh_goto (tgt := 2513) dL_law_1988 (by decide) ?_
  refine jh_fg (L' := LL i) (by repeat (first | exact trivial | refine ⟨rfl, ?_⟩ | show jg_le _ _)) ?_
  exact K
set_option maxHeartbeats 2000000 in
theorem lc27 {Γ : jg_G} {X : Nat × (Nat → Int32)} {Q : jg_Q} {a b : Nat} {g : Nat → jg_C} {f : Nat → Int64} (F i : Nat) (τ : cT) (n : Nat) (c : cS) (s : rs_S) (hI : LI τ n) (hi : i + 9 ≤ X.1) (hX : X.1 ≤ 4608) (ha : 0 ≤ a) (hb : 0 ≤ b) {x : Int32 × cS} {y : Int32 × rs_S} (h1 : o_X11_bond F τ n 0 c (X.2 (i + 1)) (X.2 (i + 2)) (X.2 (i + 3)) (X.2 (i + 4)) = some (.inl x)) (h2 : o_X12_bond F s (X.2 (i + 1)) (X.2 (i + 2)) (X.2 (i + 3)) (X.2 (i + 4)) = some y) (h3 : y.2.1 0 = nI 0) (h4 : y.1 = x.1) (K : jh Γ mL_law ([], X) 100 (a - 0) (b - 0) 2513 (LL i) [] (lh g (vp_updL f 0 (x.1.toInt64)) τ x.2 y.2 n) Q) : jh Γ mL_law ([], X) 100 a b 1991 (LL i) [] (lh g f τ c s n) Q := by
  refine jh_aload_n dL_law_1991 rfl ?_
  refine jh_arg (i := i) (j := 1) dL_law_1992 dL_law_1993 dL_law_1995 (by decide) dL_law_1996 dL_law_1997 rfl rfl (by omega) hX ?_
  refine jh_arg (i := i) (j := 2) dL_law_1998 dL_law_1999 dL_law_2001 (by decide) dL_law_2002 dL_law_2003 rfl rfl (by omega) hX ?_
  refine jh_arg (i := i) (j := 3) dL_law_2004 dL_law_2005 dL_law_2007 (by decide) dL_law_2008 dL_law_2009 rfl rfl (by omega) hX ?_
  refine jh_arg (i := i) (j := 4) dL_law_2010 dL_law_2011 dL_law_2013 (by decide) dL_law_2014 dL_law_2015 rfl rfl (by omega) hX ?_
  refine jh_aload_n dL_law_2016 rfl ?_
  refine jh_wrp (As := [.ref 0, .int (X.2 (i + 1)), .int (X.2 (i + 2)), .int (X.2 (i + 3)), .int (X.2 (i + 4)), .ref 191]) (a' := 0) (b' := 0) kL_bond dL_law_2017 rfl (by decide) (Nat.le_of_ble_eq_true rfl) rfl (by decide) ha hb (Nat.le_of_ble_eq_true rfl) (w_bond F τ n c (X.2 (i + 1)) (X.2 (i + 2)) (X.2 (i + 3)) (X.2 (i + 4)) hI.1 lh_191 (hI.2.2.2 191 (by decide) (by decide)) (by have := hI.2.1; omega) h1) ?_
  refine jh_hs (S' := [.int (nI 0)]) (h' := lh g (vp_updL f 0 (x.1.toInt64)) τ x.2 s n) rfl lh_out ?_
  refine jh_istore (L' := LN i (nI 0)) dL_law_2020 (by decide) rfl ?_
  refine jh_aload_n dL_law_2022 rfl ?_
  refine jh_arg (i := i) (j := 1) dL_law_2023 dL_law_2024 dL_law_2026 (by decide) dL_law_2027 dL_law_2028 rfl rfl (by omega) hX ?_
  refine jh_arg (i := i) (j := 2) dL_law_2029 dL_law_2030 dL_law_2032 (by decide) dL_law_2033 dL_law_2034 rfl rfl (by omega) hX ?_
  refine jh_arg (i := i) (j := 3) dL_law_2035 dL_law_2036 dL_law_2038 (by decide) dL_law_2039 dL_law_2040 rfl rfl (by omega) hX ?_
  refine jh_arg (i := i) (j := 4) dL_law_2041 dL_law_2042 dL_law_2044 (by decide) dL_law_2045 dL_law_2046 rfl rfl (by omega) hX ?_
  refine jh_ref (As := [.int (X.2 (i + 1)), .int (X.2 (i + 2)), .int (X.2 (i + 3)), .int (X.2 (i + 4))]) hI kv_L_228 dL_law_2047 rfl rfl (by decide) (Nat.le_of_ble_eq_true rfl) rfl (by decide) (Nat.le_of_ble_eq_true rfl) (fun g9 => t_X12_bond (by have := hI.2.1; omega) F s (X.2 (i + 1)) (X.2 (i + 2)) (X.2 (i + 3)) (X.2 (i + 4)) h2) ?_
  refine jh_istore (L' := LM i (nI 0) y.1) dL_law_2050 (by decide) rfl ?_
  refine jh_aload_n dL_law_2052 rfl ?_
  refine jh_ref (As := []) hI kv_L_141 dL_law_2053 rfl rfl (by decide) (Nat.le_of_ble_eq_true rfl) rfl (by decide) (Nat.le_of_ble_eq_true rfl) (fun g9 => t_X12_thrown (by have := hI.2.1; omega) y.2 (x := nI 0) (by rw [o_X12_thrown, h3])) ?_
  refine jh_iload dL_law_2056 rfl ?_
  refine jh_icmp_eq (x := nI 0) (y := nI 0) (tgt := 2063) dL_law_2058 (by decide) (fun _ => ?_) (fun e => absurd rfl e)
  refine jh_iload dL_law_2063 rfl ?_
  refine jh_if_ne (x := nI 0) (tgt := 2080) dL_law_2065 (by decide) (fun e => absurd (by decide) e) (fun _ => ?_)
  refine jh_aload_n dL_law_2068 rfl ?_
  refine jh_iconst (v := nI 0) dL_law_2069 (by decide) ?_
  refine jh_lald (q := 191) (n := 1) (f := (vp_updL f 0 (x.1.toInt64))) (i := nI 0) dL_law_2070 (by show 191 < n; have := hI.2.1; omega) ((ct_base (hI.2.2.2 191 (by decide) (by decide))).trans lh_191) (vp_iL (iL_t (by decide) (by decide))) ?_
  refine jh_iload dL_law_2071 rfl ?_
  refine jh_i2l dL_law_2073 ?_
  refine jh_lcmp dL_law_2074 ?_
  refine jh_if_eq (tgt := 2080) dL_law_2075 (by decide) (fun _ => ?_) (fun e => absurd (by rw [h4]; exact lcmp_self _) e)
  refine jh_goto (tgt := 2513) dL_law_2080 (by decide) ?_
  refine jh_fg (L' := LL i) (by repeat (first | exact trivial | refine ⟨rfl, ?_⟩ | show jg_le _ _)) ?_
  exact K
set_option maxHeartbeats 2000000 in
theorem lc27x1 {Γ : jg_G} {X : Nat × (Nat → Int32)} {Q : jg_Q} {a b : Nat} {g : Nat → jg_C} {f : Nat → Int64} (F i : Nat) (τ : cT) (n : Nat) (c : cS) (s : rs_S) (hI : LI τ n) (hi : i + 9 ≤ X.1) (hX : X.1 ≤ 4608) (ha : 1 ≤ a) (hb : 6 ≤ b) (hn : n < 1000000) {z : cS} {y : Int32 × rs_S} (h1 : o_X11_bond F τ n 0 c (X.2 (i + 1)) (X.2 (i + 2)) (X.2 (i + 3)) (X.2 (i + 4)) = some (.inr (1, z))) (hI2 : LI τ (n + 1)) (h2 : o_X12_bond F s (X.2 (i + 1)) (X.2 (i + 2)) (X.2 (i + 3)) (X.2 (i + 4)) = some y) (h3 : y.2.1 0 = nI 1) (K : jh Γ mL_law ([], X) 100 (a - 1) (b - 6) 2513 (LL i) [] (lh (gx g n) f τ z y.2 (n + 1)) Q) : jh Γ mL_law ([], X) 100 a b 1991 (LL i) [] (lh g f τ c s n) Q := by
  refine jh_aload_n dL_law_1991 rfl ?_
  refine jh_arg (i := i) (j := 1) dL_law_1992 dL_law_1993 dL_law_1995 (by decide) dL_law_1996 dL_law_1997 rfl rfl (by omega) hX ?_
  refine jh_arg (i := i) (j := 2) dL_law_1998 dL_law_1999 dL_law_2001 (by decide) dL_law_2002 dL_law_2003 rfl rfl (by omega) hX ?_
  refine jh_arg (i := i) (j := 3) dL_law_2004 dL_law_2005 dL_law_2007 (by decide) dL_law_2008 dL_law_2009 rfl rfl (by omega) hX ?_
  refine jh_arg (i := i) (j := 4) dL_law_2010 dL_law_2011 dL_law_2013 (by decide) dL_law_2014 dL_law_2015 rfl rfl (by omega) hX ?_
  refine jh_aload_n dL_law_2016 rfl ?_
  refine jh_wrp (As := [.ref 0, .int (X.2 (i + 1)), .int (X.2 (i + 2)), .int (X.2 (i + 3)), .int (X.2 (i + 4)), .ref 191]) (a' := 1) (b' := 6) kL_bond dL_law_2017 rfl (by decide) (Nat.le_of_ble_eq_true rfl) rfl (by decide) ha hb (Nat.le_of_ble_eq_true rfl) (w_bond_x1 F τ n c (X.2 (i + 1)) (X.2 (i + 2)) (X.2 (i + 3)) (X.2 (i + 4)) hI.1 hn (hI.2.2.1 n (Nat.le_refl _)) h1) ?_
  refine jh_hs (S' := [.int (nI 1)]) (h' := lh (gx g n) f τ z s (n + 1)) rfl (lh_gx (by have := hI.2.1; have := nQ_le (n := n) (q := none); omega)) ?_
  refine jh_istore (L' := LN i (nI 1)) dL_law_2020 (by decide) rfl ?_
  refine jh_aload_n dL_law_2022 rfl ?_
  refine jh_arg (i := i) (j := 1) dL_law_2023 dL_law_2024 dL_law_2026 (by decide) dL_law_2027 dL_law_2028 rfl rfl (by omega) hX ?_
  refine jh_arg (i := i) (j := 2) dL_law_2029 dL_law_2030 dL_law_2032 (by decide) dL_law_2033 dL_law_2034 rfl rfl (by omega) hX ?_
  refine jh_arg (i := i) (j := 3) dL_law_2035 dL_law_2036 dL_law_2038 (by decide) dL_law_2039 dL_law_2040 rfl rfl (by omega) hX ?_
  refine jh_arg (i := i) (j := 4) dL_law_2041 dL_law_2042 dL_law_2044 (by decide) dL_law_2045 dL_law_2046 rfl rfl (by omega) hX ?_
  refine jh_ref (As := [.int (X.2 (i + 1)), .int (X.2 (i + 2)), .int (X.2 (i + 3)), .int (X.2 (i + 4))]) hI2 kv_L_228 dL_law_2047 rfl rfl (by decide) (Nat.le_of_ble_eq_true rfl) rfl (by decide) (Nat.le_of_ble_eq_true rfl) (fun g9 => t_X12_bond (by have := hI2.2.1; omega) F s (X.2 (i + 1)) (X.2 (i + 2)) (X.2 (i + 3)) (X.2 (i + 4)) h2) ?_
  refine jh_istore (L' := LM i (nI 1) y.1) dL_law_2050 (by decide) rfl ?_
  refine jh_aload_n dL_law_2052 rfl ?_
  refine jh_ref (As := []) hI2 kv_L_141 dL_law_2053 rfl rfl (by decide) (Nat.le_of_ble_eq_true rfl) rfl (by decide) (Nat.le_of_ble_eq_true rfl) (fun g9 => t_X12_thrown (by have := hI2.2.1; omega) y.2 (x := nI 1) (by rw [o_X12_thrown, h3])) ?_
  refine jh_iload dL_law_2056 rfl ?_
  refine jh_icmp_eq (x := nI 1) (y := nI 1) (tgt := 2063) dL_law_2058 (by decide) (fun _ => ?_) (fun e => absurd rfl e)
  refine jh_iload dL_law_2063 rfl ?_
  refine jh_if_ne (x := nI 1) (tgt := 2080) dL_law_2065 (by decide) (fun _ => ?_) (fun e => absurd e (by decide))
  refine jh_goto (tgt := 2513) dL_law_2080 (by decide) ?_
  refine jh_fg (L' := LL i) (by repeat (first | exact trivial | refine ⟨rfl, ?_⟩ | show jg_le _ _)) ?_
  exact K
set_option maxHeartbeats 2000000 in
theorem lc27x3 {Γ : jg_G} {X : Nat × (Nat → Int32)} {Q : jg_Q} {a b : Nat} {g : Nat → jg_C} {f : Nat → Int64} (F i : Nat) (τ : cT) (n : Nat) (c : cS) (s : rs_S) (hI : LI τ n) (hi : i + 9 ≤ X.1) (hX : X.1 ≤ 4608) (ha : 1 ≤ a) (hb : 6 ≤ b) (hn : n < 1000000) {z : cS} {y : Int32 × rs_S} (h1 : o_X11_bond F τ n 0 c (X.2 (i + 1)) (X.2 (i + 2)) (X.2 (i + 3)) (X.2 (i + 4)) = some (.inr (3, z))) (hI2 : LI τ (n + 1)) (h2 : o_X12_bond F s (X.2 (i + 1)) (X.2 (i + 2)) (X.2 (i + 3)) (X.2 (i + 4)) = some y) (h3 : y.2.1 0 = nI 2) (K : jh Γ mL_law ([], X) 100 (a - 1) (b - 6) 2513 (LL i) [] (lh (gx g n) f τ z y.2 (n + 1)) Q) : jh Γ mL_law ([], X) 100 a b 1991 (LL i) [] (lh g f τ c s n) Q := by
  refine jh_aload_n dL_law_1991 rfl ?_
  refine jh_arg (i := i) (j := 1) dL_law_1992 dL_law_1993 dL_law_1995 (by decide) dL_law_1996 dL_law_1997 rfl rfl (by omega) hX ?_
  refine jh_arg (i := i) (j := 2) dL_law_1998 dL_law_1999 dL_law_2001 (by decide) dL_law_2002 dL_law_2003 rfl rfl (by omega) hX ?_
  refine jh_arg (i := i) (j := 3) dL_law_2004 dL_law_2005 dL_law_2007 (by decide) dL_law_2008 dL_law_2009 rfl rfl (by omega) hX ?_
  refine jh_arg (i := i) (j := 4) dL_law_2010 dL_law_2011 dL_law_2013 (by decide) dL_law_2014 dL_law_2015 rfl rfl (by omega) hX ?_
  refine jh_aload_n dL_law_2016 rfl ?_
  refine jh_wrp (As := [.ref 0, .int (X.2 (i + 1)), .int (X.2 (i + 2)), .int (X.2 (i + 3)), .int (X.2 (i + 4)), .ref 191]) (a' := 1) (b' := 6) kL_bond dL_law_2017 rfl (by decide) (Nat.le_of_ble_eq_true rfl) rfl (by decide) ha hb (Nat.le_of_ble_eq_true rfl) (w_bond_x3 F τ n c (X.2 (i + 1)) (X.2 (i + 2)) (X.2 (i + 3)) (X.2 (i + 4)) hI.1 hn (hI.2.2.1 n (Nat.le_refl _)) h1) ?_
  refine jh_hs (S' := [.int (nI 2)]) (h' := lh (gx g n) f τ z s (n + 1)) rfl (lh_gx (by have := hI.2.1; have := nQ_le (n := n) (q := none); omega)) ?_
  refine jh_istore (L' := LN i (nI 2)) dL_law_2020 (by decide) rfl ?_
  refine jh_aload_n dL_law_2022 rfl ?_
  refine jh_arg (i := i) (j := 1) dL_law_2023 dL_law_2024 dL_law_2026 (by decide) dL_law_2027 dL_law_2028 rfl rfl (by omega) hX ?_
  refine jh_arg (i := i) (j := 2) dL_law_2029 dL_law_2030 dL_law_2032 (by decide) dL_law_2033 dL_law_2034 rfl rfl (by omega) hX ?_
  refine jh_arg (i := i) (j := 3) dL_law_2035 dL_law_2036 dL_law_2038 (by decide) dL_law_2039 dL_law_2040 rfl rfl (by omega) hX ?_
  refine jh_arg (i := i) (j := 4) dL_law_2041 dL_law_2042 dL_law_2044 (by decide) dL_law_2045 dL_law_2046 rfl rfl (by omega) hX ?_
  refine jh_ref (As := [.int (X.2 (i + 1)), .int (X.2 (i + 2)), .int (X.2 (i + 3)), .int (X.2 (i + 4))]) hI2 kv_L_228 dL_law_2047 rfl rfl (by decide) (Nat.le_of_ble_eq_true rfl) rfl (by decide) (Nat.le_of_ble_eq_true rfl) (fun g9 => t_X12_bond (by have := hI2.2.1; omega) F s (X.2 (i + 1)) (X.2 (i + 2)) (X.2 (i + 3)) (X.2 (i + 4)) h2) ?_
  refine jh_istore (L' := LM i (nI 2) y.1) dL_law_2050 (by decide) rfl ?_
  refine jh_aload_n dL_law_2052 rfl ?_
  refine jh_ref (As := []) hI2 kv_L_141 dL_law_2053 rfl rfl (by decide) (Nat.le_of_ble_eq_true rfl) rfl (by decide) (Nat.le_of_ble_eq_true rfl) (fun g9 => t_X12_thrown (by have := hI2.2.1; omega) y.2 (x := nI 2) (by rw [o_X12_thrown, h3])) ?_
  refine jh_iload dL_law_2056 rfl ?_
  refine jh_icmp_eq (x := nI 2) (y := nI 2) (tgt := 2063) dL_law_2058 (by decide) (fun _ => ?_) (fun e => absurd rfl e)
  refine jh_iload dL_law_2063 rfl ?_
  refine jh_if_ne (x := nI 2) (tgt := 2080) dL_law_2065 (by decide) (fun _ => ?_) (fun e => absurd e (by decide))
  refine jh_goto (tgt := 2513) dL_law_2080 (by decide) ?_
  refine jh_fg (L' := LL i) (by repeat (first | exact trivial | refine ⟨rfl, ?_⟩ | show jg_le _ _)) ?_
  exact K
set_option maxHeartbeats 2000000 in
theorem lc28 {Γ : jg_G} {X : Nat × (Nat → Int32)} {Q : jg_Q} {a b : Nat} {g : Nat → jg_C} {f : Nat → Int64} (F i : Nat) (τ : cT) (n : Nat) (c : cS) (s : rs_S) (hI : LI τ n) (hi : i + 9 ≤ X.1) (hX : X.1 ≤ 4608) (ha : 0 ≤ a) (hb : 0 ≤ b) {x : Int32} {y : Int32 × rs_S} (h1 : o_X11_owes τ n 0 c (X.2 (i + 1)) (X.2 (i + 2)) = some (.inl x)) (h2 : o_X12_owes s (X.2 (i + 1)) (X.2 (i + 2)) = some y) (h3 : y.2.1 0 = nI 0) (h4 : y.1 = x) (K : jh Γ mL_law ([], X) 100 (a - 0) (b - 0) 2513 (LL i) [] (lh g (vp_updL f 0 (x.toInt64)) τ c y.2 n) Q) : jh Γ mL_law ([], X) 100 a b 2083 (LL i) [] (lh g f τ c s n) Q := by
  refine jh_aload_n dL_law_2083 rfl ?_
  refine jh_arg (i := i) (j := 1) dL_law_2084 dL_law_2085 dL_law_2087 (by decide) dL_law_2088 dL_law_2089 rfl rfl (by omega) hX ?_
  refine jh_arg (i := i) (j := 2) dL_law_2090 dL_law_2091 dL_law_2093 (by decide) dL_law_2094 dL_law_2095 rfl rfl (by omega) hX ?_
  refine jh_aload_n dL_law_2096 rfl ?_
  refine jh_wrp (As := [.ref 0, .int (X.2 (i + 1)), .int (X.2 (i + 2)), .ref 191]) (a' := 0) (b' := 0) kL_owes dL_law_2097 rfl (by decide) (Nat.le_of_ble_eq_true rfl) rfl (by decide) ha hb (Nat.le_of_ble_eq_true rfl) (w_owes τ n c (X.2 (i + 1)) (X.2 (i + 2)) hI.1 lh_191 (hI.2.2.2 191 (by decide) (by decide)) (by have := hI.2.1; omega) h1) ?_
  refine jh_hs (S' := [.int (nI 0)]) (h' := lh g (vp_updL f 0 (x.toInt64)) τ c s n) rfl lh_out ?_
  refine jh_istore (L' := LN i (nI 0)) dL_law_2100 (by decide) rfl ?_
  refine jh_aload_n dL_law_2102 rfl ?_
  refine jh_arg (i := i) (j := 1) dL_law_2103 dL_law_2104 dL_law_2106 (by decide) dL_law_2107 dL_law_2108 rfl rfl (by omega) hX ?_
  refine jh_arg (i := i) (j := 2) dL_law_2109 dL_law_2110 dL_law_2112 (by decide) dL_law_2113 dL_law_2114 rfl rfl (by omega) hX ?_
  refine jh_ref (As := [.int (X.2 (i + 1)), .int (X.2 (i + 2))]) hI kv_L_231 dL_law_2115 rfl rfl (by decide) (Nat.le_of_ble_eq_true rfl) rfl (by decide) (Nat.le_of_ble_eq_true rfl) (fun g9 => t_X12_owes (by have := hI.2.1; omega) s (X.2 (i + 1)) (X.2 (i + 2)) h2) ?_
  refine jh_istore (L' := LM i (nI 0) y.1) dL_law_2118 (by decide) rfl ?_
  refine jh_aload_n dL_law_2120 rfl ?_
  refine jh_ref (As := []) hI kv_L_141 dL_law_2121 rfl rfl (by decide) (Nat.le_of_ble_eq_true rfl) rfl (by decide) (Nat.le_of_ble_eq_true rfl) (fun g9 => t_X12_thrown (by have := hI.2.1; omega) y.2 (x := nI 0) (by rw [o_X12_thrown, h3])) ?_
  refine jh_iload dL_law_2124 rfl ?_
  refine jh_icmp_eq (x := nI 0) (y := nI 0) (tgt := 2131) dL_law_2126 (by decide) (fun _ => ?_) (fun e => absurd rfl e)
  refine jh_iload dL_law_2131 rfl ?_
  refine jh_if_ne (x := nI 0) (tgt := 2148) dL_law_2133 (by decide) (fun e => absurd (by decide) e) (fun _ => ?_)
  refine jh_aload_n dL_law_2136 rfl ?_
  refine jh_iconst (v := nI 0) dL_law_2137 (by decide) ?_
  refine jh_lald (q := 191) (n := 1) (f := (vp_updL f 0 (x.toInt64))) (i := nI 0) dL_law_2138 (by show 191 < n; have := hI.2.1; omega) ((ct_base (hI.2.2.2 191 (by decide) (by decide))).trans lh_191) (vp_iL (iL_t (by decide) (by decide))) ?_
  refine jh_iload dL_law_2139 rfl ?_
  refine jh_i2l dL_law_2141 ?_
  refine jh_lcmp dL_law_2142 ?_
  refine jh_if_eq (tgt := 2148) dL_law_2143 (by decide) (fun _ => ?_) (fun e => absurd (by rw [h4]; exact lcmp_self _) e)
  refine jh_goto (tgt := 2513) dL_law_2148 (by decide) ?_
  refine jh_fg (L' := LL i) (by repeat (first | exact trivial | refine ⟨rfl, ?_⟩ | show jg_le _ _)) ?_
  exact K
set_option maxHeartbeats 2000000 in
theorem lc28x0 {Γ : jg_G} {X : Nat × (Nat → Int32)} {Q : jg_Q} {a b : Nat} {g : Nat → jg_C} {f : Nat → Int64} (F i : Nat) (τ : cT) (n : Nat) (c : cS) (s : rs_S) (hI : LI τ n) (hi : i + 9 ≤ X.1) (hX : X.1 ≤ 4608) (ha : 1 ≤ a) (hb : 6 ≤ b) (hn : n < 1000000) {y : Int32 × rs_S} (h1 : o_X11_owes τ n 0 c (X.2 (i + 1)) (X.2 (i + 2)) = some (.inr 0)) (hI2 : LI τ (n + 1)) (h2 : o_X12_owes s (X.2 (i + 1)) (X.2 (i + 2)) = some y) (h3 : y.2.1 0 = nI 1) (K : jh Γ mL_law ([], X) 100 (a - 1) (b - 6) 2513 (LL i) [] (lh (gx g n) f τ c y.2 (n + 1)) Q) : jh Γ mL_law ([], X) 100 a b 2083 (LL i) [] (lh g f τ c s n) Q := by
  refine jh_aload_n dL_law_2083 rfl ?_
  refine jh_arg (i := i) (j := 1) dL_law_2084 dL_law_2085 dL_law_2087 (by decide) dL_law_2088 dL_law_2089 rfl rfl (by omega) hX ?_
  refine jh_arg (i := i) (j := 2) dL_law_2090 dL_law_2091 dL_law_2093 (by decide) dL_law_2094 dL_law_2095 rfl rfl (by omega) hX ?_
  refine jh_aload_n dL_law_2096 rfl ?_
  refine jh_wrp (As := [.ref 0, .int (X.2 (i + 1)), .int (X.2 (i + 2)), .ref 191]) (a' := 1) (b' := 6) kL_owes dL_law_2097 rfl (by decide) (Nat.le_of_ble_eq_true rfl) rfl (by decide) ha hb (Nat.le_of_ble_eq_true rfl) (w_owes_x0 τ n c (X.2 (i + 1)) (X.2 (i + 2)) hI.1 hn (hI.2.2.1 n (Nat.le_refl _)) h1) ?_
  refine jh_hs (S' := [.int (nI 1)]) (h' := lh (gx g n) f τ c s (n + 1)) rfl (lh_gx (by have := hI.2.1; have := nQ_le (n := n) (q := none); omega)) ?_
  refine jh_istore (L' := LN i (nI 1)) dL_law_2100 (by decide) rfl ?_
  refine jh_aload_n dL_law_2102 rfl ?_
  refine jh_arg (i := i) (j := 1) dL_law_2103 dL_law_2104 dL_law_2106 (by decide) dL_law_2107 dL_law_2108 rfl rfl (by omega) hX ?_
  refine jh_arg (i := i) (j := 2) dL_law_2109 dL_law_2110 dL_law_2112 (by decide) dL_law_2113 dL_law_2114 rfl rfl (by omega) hX ?_
  refine jh_ref (As := [.int (X.2 (i + 1)), .int (X.2 (i + 2))]) hI2 kv_L_231 dL_law_2115 rfl rfl (by decide) (Nat.le_of_ble_eq_true rfl) rfl (by decide) (Nat.le_of_ble_eq_true rfl) (fun g9 => t_X12_owes (by have := hI2.2.1; omega) s (X.2 (i + 1)) (X.2 (i + 2)) h2) ?_
  refine jh_istore (L' := LM i (nI 1) y.1) dL_law_2118 (by decide) rfl ?_
  refine jh_aload_n dL_law_2120 rfl ?_
  refine jh_ref (As := []) hI2 kv_L_141 dL_law_2121 rfl rfl (by decide) (Nat.le_of_ble_eq_true rfl) rfl (by decide) (Nat.le_of_ble_eq_true rfl) (fun g9 => t_X12_thrown (by have := hI2.2.1; omega) y.2 (x := nI 1) (by rw [o_X12_thrown, h3])) ?_
  refine jh_iload dL_law_2124 rfl ?_
  refine jh_icmp_eq (x := nI 1) (y := nI 1) (tgt := 2131) dL_law_2126 (by decide) (fun _ => ?_) (fun e => absurd rfl e)
  refine jh_iload dL_law_2131 rfl ?_
  refine jh_if_ne (x := nI 1) (tgt := 2148) dL_law_2133 (by decide) (fun _ => ?_) (fun e => absurd e (by decide))
  refine jh_goto (tgt := 2513) dL_law_2148 (by decide) ?_
  refine jh_fg (L' := LL i) (by repeat (first | exact trivial | refine ⟨rfl, ?_⟩ | show jg_le _ _)) ?_
  exact K
set_option maxHeartbeats 2000000 in
theorem lc28x4 {Γ : jg_G} {X : Nat × (Nat → Int32)} {Q : jg_Q} {a b : Nat} {g : Nat → jg_C} {f : Nat → Int64} (F i : Nat) (τ : cT) (n : Nat) (c : cS) (s : rs_S) (hI : LI τ n) (hi : i + 9 ≤ X.1) (hX : X.1 ≤ 4608) (ha : 1 ≤ a) (hb : 6 ≤ b) (hn : n < 1000000) {y : Int32 × rs_S} (h1 : o_X11_owes τ n 0 c (X.2 (i + 1)) (X.2 (i + 2)) = some (.inr 4)) (hI2 : LI τ (n + 1)) (h2 : o_X12_owes s (X.2 (i + 1)) (X.2 (i + 2)) = some y) (h3 : y.2.1 0 = nI 2) (K : jh Γ mL_law ([], X) 100 (a - 1) (b - 6) 2513 (LL i) [] (lh (gx g n) f τ c y.2 (n + 1)) Q) : jh Γ mL_law ([], X) 100 a b 2083 (LL i) [] (lh g f τ c s n) Q := by
  refine jh_aload_n dL_law_2083 rfl ?_
  refine jh_arg (i := i) (j := 1) dL_law_2084 dL_law_2085 dL_law_2087 (by decide) dL_law_2088 dL_law_2089 rfl rfl (by omega) hX ?_
  refine jh_arg (i := i) (j := 2) dL_law_2090 dL_law_2091 dL_law_2093 (by decide) dL_law_2094 dL_law_2095 rfl rfl (by omega) hX ?_
  refine jh_aload_n dL_law_2096 rfl ?_
  refine jh_wrp (As := [.ref 0, .int (X.2 (i + 1)), .int (X.2 (i + 2)), .ref 191]) (a' := 1) (b' := 6) kL_owes dL_law_2097 rfl (by decide) (Nat.le_of_ble_eq_true rfl) rfl (by decide) ha hb (Nat.le_of_ble_eq_true rfl) (w_owes_x4 τ n c (X.2 (i + 1)) (X.2 (i + 2)) hI.1 hn (hI.2.2.1 n (Nat.le_refl _)) h1) ?_
  refine jh_hs (S' := [.int (nI 2)]) (h' := lh (gx g n) f τ c s (n + 1)) rfl (lh_gx (by have := hI.2.1; have := nQ_le (n := n) (q := none); omega)) ?_
  refine jh_istore (L' := LN i (nI 2)) dL_law_2100 (by decide) rfl ?_
  refine jh_aload_n dL_law_2102 rfl ?_
  refine jh_arg (i := i) (j := 1) dL_law_2103 dL_law_2104 dL_law_2106 (by decide) dL_law_2107 dL_law_2108 rfl rfl (by omega) hX ?_
  refine jh_arg (i := i) (j := 2) dL_law_2109 dL_law_2110 dL_law_2112 (by decide) dL_law_2113 dL_law_2114 rfl rfl (by omega) hX ?_
  refine jh_ref (As := [.int (X.2 (i + 1)), .int (X.2 (i + 2))]) hI2 kv_L_231 dL_law_2115 rfl rfl (by decide) (Nat.le_of_ble_eq_true rfl) rfl (by decide) (Nat.le_of_ble_eq_true rfl) (fun g9 => t_X12_owes (by have := hI2.2.1; omega) s (X.2 (i + 1)) (X.2 (i + 2)) h2) ?_
  refine jh_istore (L' := LM i (nI 2) y.1) dL_law_2118 (by decide) rfl ?_
  refine jh_aload_n dL_law_2120 rfl ?_
  refine jh_ref (As := []) hI2 kv_L_141 dL_law_2121 rfl rfl (by decide) (Nat.le_of_ble_eq_true rfl) rfl (by decide) (Nat.le_of_ble_eq_true rfl) (fun g9 => t_X12_thrown (by have := hI2.2.1; omega) y.2 (x := nI 2) (by rw [o_X12_thrown, h3])) ?_
  refine jh_iload dL_law_2124 rfl ?_
  refine jh_icmp_eq (x := nI 2) (y := nI 2) (tgt := 2131) dL_law_2126 (by decide) (fun _ => ?_) (fun e => absurd rfl e)
  refine jh_iload dL_law_2131 rfl ?_
  refine jh_if_ne (x := nI 2) (tgt := 2148) dL_law_2133 (by decide) (fun _ => ?_) (fun e => absurd e (by decide))
  refine jh_goto (tgt := 2513) dL_law_2148 (by decide) ?_
  refine jh_fg (L' := LL i) (by repeat (first | exact trivial | refine ⟨rfl, ?_⟩ | show jg_le _ _)) ?_
  exact K
set_option maxHeartbeats 1000000 in
theorem lc29 {Γ : jg_G} {X : Nat × (Nat → Int32)} {Q : jg_Q} {a b : Nat} {g : Nat → jg_C} {f : Nat → Int64} (F i : Nat) (τ : cT) (n : Nat) (c : cS) (s : rs_S) (hI : LI τ n) (hi : i + 9 ≤ X.1) (hX : X.1 ≤ 4608) {x : Int32 × cS} {y : Int32 × rs_S} (h1 : o_X11_bring F τ n 0 c = some x) (h2 : o_X12_bring F s = some y) (h4 : y.1 = x.1) (K : jh Γ mL_law ([], X) 100 a b 2513 (LL i) [] (lh g f τ x.2 y.2 n) Q) : jh Γ mL_law ([], X) 100 a b 2151 (LL i) [] (lh g f τ c s n) Q := by
  refine jh_aload_n dL_law_2151 rfl ?_
  refine jh_cls (As := []) (a' := 0) (b' := 0) hI kv_L_232 dL_law_2152 rfl rfl (by decide) (Nat.le_of_ble_eq_true rfl) rfl (by decide) (Nat.zero_le _) (Nat.zero_le _) (Nat.le_of_ble_eq_true rfl) (fun g9 => t_X11_bring F τ n 0 c hI.1 h1) ?_
  refine jh_aload_n dL_law_2155 rfl ?_
  refine jh_ref (As := []) hI kv_L_235 dL_law_2156 rfl rfl (by decide) (Nat.le_of_ble_eq_true rfl) rfl (by decide) (Nat.le_of_ble_eq_true rfl) (fun g9 => t_X12_bring (by have := hI.2.1; omega) F s h2) ?_
  refine jh_icmp_eq (x := x.1) (y := y.1) (tgt := 2513) dL_law_2159 (by decide) (fun _ => ?_) (fun e => absurd h4.symm e)
  exact K
set_option maxHeartbeats 2000000 in
theorem lc30 {Γ : jg_G} {X : Nat × (Nat → Int32)} {Q : jg_Q} {a b : Nat} {g : Nat → jg_C} {f : Nat → Int64} (F i : Nat) (τ : cT) (n : Nat) (c : cS) (s : rs_S) (hI : LI τ n) (hi : i + 9 ≤ X.1) (hX : X.1 ≤ 4608) (ha : 0 ≤ a) (hb : 0 ≤ b) {x : Int32 × cS} {y : Int32 × rs_S} (h1 : o_X11_work τ n 0 c (X.2 (i + 1)) (X.2 (i + 2)) (X.2 (i + 3)) (X.2 (i + 4)) = some (.inl x)) (h2 : o_X12_work s (X.2 (i + 1)) (X.2 (i + 2)) (X.2 (i + 3)) (X.2 (i + 4)) = some y) (h3 : y.2.1 0 = nI 0) (h4 : y.1 = x.1) (K : jh Γ mL_law ([], X) 100 (a - 0) (b - 0) 2513 (LL i) [] (lh g (vp_updL f 0 (x.1.toInt64)) τ x.2 y.2 n) Q) : jh Γ mL_law ([], X) 100 a b 2164 (LL i) [] (lh g f τ c s n) Q := by
  refine jh_aload_n dL_law_2164 rfl ?_
  refine jh_arg (i := i) (j := 1) dL_law_2165 dL_law_2166 dL_law_2168 (by decide) dL_law_2169 dL_law_2170 rfl rfl (by omega) hX ?_
  refine jh_arg (i := i) (j := 2) dL_law_2171 dL_law_2172 dL_law_2174 (by decide) dL_law_2175 dL_law_2176 rfl rfl (by omega) hX ?_
  refine jh_arg (i := i) (j := 3) dL_law_2177 dL_law_2178 dL_law_2180 (by decide) dL_law_2181 dL_law_2182 rfl rfl (by omega) hX ?_
  refine jh_arg (i := i) (j := 4) dL_law_2183 dL_law_2184 dL_law_2186 (by decide) dL_law_2187 dL_law_2188 rfl rfl (by omega) hX ?_
  refine jh_aload_n dL_law_2189 rfl ?_
  refine jh_wrp (As := [.ref 0, .int (X.2 (i + 1)), .int (X.2 (i + 2)), .int (X.2 (i + 3)), .int (X.2 (i + 4)), .ref 191]) (a' := 0) (b' := 0) kL_work dL_law_2190 rfl (by decide) (Nat.le_of_ble_eq_true rfl) rfl (by decide) ha hb (Nat.le_of_ble_eq_true rfl) (w_work τ n c (X.2 (i + 1)) (X.2 (i + 2)) (X.2 (i + 3)) (X.2 (i + 4)) hI.1 lh_191 (hI.2.2.2 191 (by decide) (by decide)) (by have := hI.2.1; omega) h1) ?_
  refine jh_hs (S' := [.int (nI 0)]) (h' := lh g (vp_updL f 0 (x.1.toInt64)) τ x.2 s n) rfl lh_out ?_
  refine jh_istore (L' := LN i (nI 0)) dL_law_2193 (by decide) rfl ?_
  refine jh_aload_n dL_law_2195 rfl ?_
  refine jh_arg (i := i) (j := 1) dL_law_2196 dL_law_2197 dL_law_2199 (by decide) dL_law_2200 dL_law_2201 rfl rfl (by omega) hX ?_
  refine jh_arg (i := i) (j := 2) dL_law_2202 dL_law_2203 dL_law_2205 (by decide) dL_law_2206 dL_law_2207 rfl rfl (by omega) hX ?_
  refine jh_arg (i := i) (j := 3) dL_law_2208 dL_law_2209 dL_law_2211 (by decide) dL_law_2212 dL_law_2213 rfl rfl (by omega) hX ?_
  refine jh_arg (i := i) (j := 4) dL_law_2214 dL_law_2215 dL_law_2217 (by decide) dL_law_2218 dL_law_2219 rfl rfl (by omega) hX ?_
  refine jh_ref (As := [.int (X.2 (i + 1)), .int (X.2 (i + 2)), .int (X.2 (i + 3)), .int (X.2 (i + 4))]) hI kv_L_238 dL_law_2220 rfl rfl (by decide) (Nat.le_of_ble_eq_true rfl) rfl (by decide) (Nat.le_of_ble_eq_true rfl) (fun g9 => t_X12_work (by have := hI.2.1; omega) s (X.2 (i + 1)) (X.2 (i + 2)) (X.2 (i + 3)) (X.2 (i + 4)) h2) ?_
  refine jh_istore (L' := LM i (nI 0) y.1) dL_law_2223 (by decide) rfl ?_
  refine jh_aload_n dL_law_2225 rfl ?_
  refine jh_ref (As := []) hI kv_L_141 dL_law_2226 rfl rfl (by decide) (Nat.le_of_ble_eq_true rfl) rfl (by decide) (Nat.le_of_ble_eq_true rfl) (fun g9 => t_X12_thrown (by have := hI.2.1; omega) y.2 (x := nI 0) (by rw [o_X12_thrown, h3])) ?_
  refine jh_iload dL_law_2229 rfl ?_
  refine jh_icmp_eq (x := nI 0) (y := nI 0) (tgt := 2236) dL_law_2231 (by decide) (fun _ => ?_) (fun e => absurd rfl e)
  refine jh_iload dL_law_2236 rfl ?_
  refine jh_if_ne (x := nI 0) (tgt := 2253) dL_law_2238 (by decide) (fun e => absurd (by decide) e) (fun _ => ?_)
  refine jh_aload_n dL_law_2241 rfl ?_
  refine jh_iconst (v := nI 0) dL_law_2242 (by decide) ?_
  refine jh_lald (q := 191) (n := 1) (f := (vp_updL f 0 (x.1.toInt64))) (i := nI 0) dL_law_2243 (by show 191 < n; have := hI.2.1; omega) ((ct_base (hI.2.2.2 191 (by decide) (by decide))).trans lh_191) (vp_iL (iL_t (by decide) (by decide))) ?_
  refine jh_iload dL_law_2244 rfl ?_
  refine jh_i2l dL_law_2246 ?_
  refine jh_lcmp dL_law_2247 ?_
  refine jh_if_eq (tgt := 2253) dL_law_2248 (by decide) (fun _ => ?_) (fun e => absurd (by rw [h4]; exact lcmp_self _) e)
  refine jh_goto (tgt := 2513) dL_law_2253 (by decide) ?_
  refine jh_fg (L' := LL i) (by repeat (first | exact trivial | refine ⟨rfl, ?_⟩ | show jg_le _ _)) ?_
  exact K
set_option maxHeartbeats 2000000 in
theorem lc30x1 {Γ : jg_G} {X : Nat × (Nat → Int32)} {Q : jg_Q} {a b : Nat} {g : Nat → jg_C} {f : Nat → Int64} (F i : Nat) (τ : cT) (n : Nat) (c : cS) (s : rs_S) (hI : LI τ n) (hi : i + 9 ≤ X.1) (hX : X.1 ≤ 4608) (ha : 1 ≤ a) (hb : 6 ≤ b) (hn : n < 1000000) {z : cS} {y : Int32 × rs_S} (h1 : o_X11_work τ n 0 c (X.2 (i + 1)) (X.2 (i + 2)) (X.2 (i + 3)) (X.2 (i + 4)) = some (.inr (1, z))) (hI2 : LI τ (n + 1)) (h2 : o_X12_work s (X.2 (i + 1)) (X.2 (i + 2)) (X.2 (i + 3)) (X.2 (i + 4)) = some y) (h3 : y.2.1 0 = nI 1) (K : jh Γ mL_law ([], X) 100 (a - 1) (b - 6) 2513 (LL i) [] (lh (gx g n) f τ z y.2 (n + 1)) Q) : jh Γ mL_law ([], X) 100 a b 2164 (LL i) [] (lh g f τ c s n) Q := by
  refine jh_aload_n dL_law_2164 rfl ?_
  refine jh_arg (i := i) (j := 1) dL_law_2165 dL_law_2166 dL_law_2168 (by decide) dL_law_2169 dL_law_2170 rfl rfl (by omega) hX ?_
  refine jh_arg (i := i) (j := 2) dL_law_2171 dL_law_2172 dL_law_2174 (by decide) dL_law_2175 dL_law_2176 rfl rfl (by omega) hX ?_
  refine jh_arg (i := i) (j := 3) dL_law_2177 dL_law_2178 dL_law_2180 (by decide) dL_law_2181 dL_law_2182 rfl rfl (by omega) hX ?_
  refine jh_arg (i := i) (j := 4) dL_law_2183 dL_law_2184 dL_law_2186 (by decide) dL_law_2187 dL_law_2188 rfl rfl (by omega) hX ?_
  refine jh_aload_n dL_law_2189 rfl ?_
  refine jh_wrp (As := [.ref 0, .int (X.2 (i + 1)), .int (X.2 (i + 2)), .int (X.2 (i + 3)), .int (X.2 (i + 4)), .ref 191]) (a' := 1) (b' := 6) kL_work dL_law_2190 rfl (by decide) (Nat.le_of_ble_eq_true rfl) rfl (by decide) ha hb (Nat.le_of_ble_eq_true rfl) (w_work_x1 τ n c (X.2 (i + 1)) (X.2 (i + 2)) (X.2 (i + 3)) (X.2 (i + 4)) hI.1 hn (hI.2.2.1 n (Nat.le_refl _)) h1) ?_
  refine jh_hs (S' := [.int (nI 1)]) (h' := lh (gx g n) f τ z s (n + 1)) rfl (lh_gx (by have := hI.2.1; have := nQ_le (n := n) (q := none); omega)) ?_
  refine jh_istore (L' := LN i (nI 1)) dL_law_2193 (by decide) rfl ?_
  refine jh_aload_n dL_law_2195 rfl ?_
  refine jh_arg (i := i) (j := 1) dL_law_2196 dL_law_2197 dL_law_2199 (by decide) dL_law_2200 dL_law_2201 rfl rfl (by omega) hX ?_
  refine jh_arg (i := i) (j := 2) dL_law_2202 dL_law_2203 dL_law_2205 (by decide) dL_law_2206 dL_law_2207 rfl rfl (by omega) hX ?_
  refine jh_arg (i := i) (j := 3) dL_law_2208 dL_law_2209 dL_law_2211 (by decide) dL_law_2212 dL_law_2213 rfl rfl (by omega) hX ?_
  refine jh_arg (i := i) (j := 4) dL_law_2214 dL_law_2215 dL_law_2217 (by decide) dL_law_2218 dL_law_2219 rfl rfl (by omega) hX ?_
  refine jh_ref (As := [.int (X.2 (i + 1)), .int (X.2 (i + 2)), .int (X.2 (i + 3)), .int (X.2 (i + 4))]) hI2 kv_L_238 dL_law_2220 rfl rfl (by decide) (Nat.le_of_ble_eq_true rfl) rfl (by decide) (Nat.le_of_ble_eq_true rfl) (fun g9 => t_X12_work (by have := hI2.2.1; omega) s (X.2 (i + 1)) (X.2 (i + 2)) (X.2 (i + 3)) (X.2 (i + 4)) h2) ?_
  refine jh_istore (L' := LM i (nI 1) y.1) dL_law_2223 (by decide) rfl ?_
  refine jh_aload_n dL_law_2225 rfl ?_
  refine jh_ref (As := []) hI2 kv_L_141 dL_law_2226 rfl rfl (by decide) (Nat.le_of_ble_eq_true rfl) rfl (by decide) (Nat.le_of_ble_eq_true rfl) (fun g9 => t_X12_thrown (by have := hI2.2.1; omega) y.2 (x := nI 1) (by rw [o_X12_thrown, h3])) ?_
  refine jh_iload dL_law_2229 rfl ?_
  refine jh_icmp_eq (x := nI 1) (y := nI 1) (tgt := 2236) dL_law_2231 (by decide) (fun _ => ?_) (fun e => absurd rfl e)
  refine jh_iload dL_law_2236 rfl ?_
  refine jh_if_ne (x := nI 1) (tgt := 2253) dL_law_2238 (by decide) (fun _ => ?_) (fun e => absurd e (by decide))
  refine jh_goto (tgt := 2513) dL_law_2253 (by decide) ?_
  refine jh_fg (L' := LL i) (by repeat (first | exact trivial | refine ⟨rfl, ?_⟩ | show jg_le _ _)) ?_
  exact K
set_option maxHeartbeats 2000000 in
theorem lc31 {Γ : jg_G} {X : Nat × (Nat → Int32)} {Q : jg_Q} {a b : Nat} {g : Nat → jg_C} {f : Nat → Int64} (F i : Nat) (τ : cT) (n : Nat) (c : cS) (s : rs_S) (hI : LI τ n) (hi : i + 9 ≤ X.1) (hX : X.1 ≤ 4608) (ha : 0 ≤ a) (hb : 0 ≤ b) {x : Int32} {y : Int32 × rs_S} (h1 : o_X11_worth F τ n 0 c (X.2 (i + 1)) (X.2 (i + 2)) = some (.inl x)) (h2 : o_X12_worth F s (X.2 (i + 1)) (X.2 (i + 2)) = some y) (h3 : y.2.1 0 = nI 0) (h4 : y.1 = x) (K : jh Γ mL_law ([], X) 100 (a - 0) (b - 0) 2513 (LL i) [] (lh g (vp_updL f 0 (x.toInt64)) τ c y.2 n) Q) : jh Γ mL_law ([], X) 100 a b 2256 (LL i) [] (lh g f τ c s n) Q := by
  refine jh_aload_n dL_law_2256 rfl ?_
  refine jh_arg (i := i) (j := 1) dL_law_2257 dL_law_2258 dL_law_2260 (by decide) dL_law_2261 dL_law_2262 rfl rfl (by omega) hX ?_
  refine jh_arg (i := i) (j := 2) dL_law_2263 dL_law_2264 dL_law_2266 (by decide) dL_law_2267 dL_law_2268 rfl rfl (by omega) hX ?_
  refine jh_aload_n dL_law_2269 rfl ?_
  refine jh_wrp (As := [.ref 0, .int (X.2 (i + 1)), .int (X.2 (i + 2)), .ref 191]) (a' := 0) (b' := 0) kL_worth dL_law_2270 rfl (by decide) (Nat.le_of_ble_eq_true rfl) rfl (by decide) ha hb (Nat.le_of_ble_eq_true rfl) (w_worth F τ n c (X.2 (i + 1)) (X.2 (i + 2)) hI.1 lh_191 (hI.2.2.2 191 (by decide) (by decide)) (by have := hI.2.1; omega) h1) ?_
  refine jh_hs (S' := [.int (nI 0)]) (h' := lh g (vp_updL f 0 (x.toInt64)) τ c s n) rfl lh_out ?_
  refine jh_istore (L' := LN i (nI 0)) dL_law_2273 (by decide) rfl ?_
  refine jh_aload_n dL_law_2275 rfl ?_
  refine jh_arg (i := i) (j := 1) dL_law_2276 dL_law_2277 dL_law_2279 (by decide) dL_law_2280 dL_law_2281 rfl rfl (by omega) hX ?_
  refine jh_arg (i := i) (j := 2) dL_law_2282 dL_law_2283 dL_law_2285 (by decide) dL_law_2286 dL_law_2287 rfl rfl (by omega) hX ?_
  refine jh_ref (As := [.int (X.2 (i + 1)), .int (X.2 (i + 2))]) hI kv_L_241 dL_law_2288 rfl rfl (by decide) (Nat.le_of_ble_eq_true rfl) rfl (by decide) (Nat.le_of_ble_eq_true rfl) (fun g9 => t_X12_worth (by have := hI.2.1; omega) F s (X.2 (i + 1)) (X.2 (i + 2)) h2) ?_
  refine jh_istore (L' := LM i (nI 0) y.1) dL_law_2291 (by decide) rfl ?_
  refine jh_aload_n dL_law_2293 rfl ?_
  refine jh_ref (As := []) hI kv_L_141 dL_law_2294 rfl rfl (by decide) (Nat.le_of_ble_eq_true rfl) rfl (by decide) (Nat.le_of_ble_eq_true rfl) (fun g9 => t_X12_thrown (by have := hI.2.1; omega) y.2 (x := nI 0) (by rw [o_X12_thrown, h3])) ?_
  refine jh_iload dL_law_2297 rfl ?_
  refine jh_icmp_eq (x := nI 0) (y := nI 0) (tgt := 2304) dL_law_2299 (by decide) (fun _ => ?_) (fun e => absurd rfl e)
  refine jh_iload dL_law_2304 rfl ?_
  refine jh_if_ne (x := nI 0) (tgt := 2321) dL_law_2306 (by decide) (fun e => absurd (by decide) e) (fun _ => ?_)
  refine jh_aload_n dL_law_2309 rfl ?_
  refine jh_iconst (v := nI 0) dL_law_2310 (by decide) ?_
  refine jh_lald (q := 191) (n := 1) (f := (vp_updL f 0 (x.toInt64))) (i := nI 0) dL_law_2311 (by show 191 < n; have := hI.2.1; omega) ((ct_base (hI.2.2.2 191 (by decide) (by decide))).trans lh_191) (vp_iL (iL_t (by decide) (by decide))) ?_
  refine jh_iload dL_law_2312 rfl ?_
  refine jh_i2l dL_law_2314 ?_
  refine jh_lcmp dL_law_2315 ?_
  refine jh_if_eq (tgt := 2321) dL_law_2316 (by decide) (fun _ => ?_) (fun e => absurd (by rw [h4]; exact lcmp_self _) e)
  refine jh_goto (tgt := 2513) dL_law_2321 (by decide) ?_
  refine jh_fg (L' := LL i) (by repeat (first | exact trivial | refine ⟨rfl, ?_⟩ | show jg_le _ _)) ?_
  exact K
set_option maxHeartbeats 2000000 in
theorem lc31x1 {Γ : jg_G} {X : Nat × (Nat → Int32)} {Q : jg_Q} {a b : Nat} {g : Nat → jg_C} {f : Nat → Int64} (F i : Nat) (τ : cT) (n : Nat) (c : cS) (s : rs_S) (hI : LI τ n) (hi : i + 9 ≤ X.1) (hX : X.1 ≤ 4608) (ha : 1 ≤ a) (hb : 6 ≤ b) (hn : n < 1000000) {y : Int32 × rs_S} (h1 : o_X11_worth F τ n 0 c (X.2 (i + 1)) (X.2 (i + 2)) = some (.inr 1)) (hI2 : LI τ (n + 1)) (h2 : o_X12_worth F s (X.2 (i + 1)) (X.2 (i + 2)) = some y) (h3 : y.2.1 0 = nI 1) (K : jh Γ mL_law ([], X) 100 (a - 1) (b - 6) 2513 (LL i) [] (lh (gx g n) f τ c y.2 (n + 1)) Q) : jh Γ mL_law ([], X) 100 a b 2256 (LL i) [] (lh g f τ c s n) Q := by
  refine jh_aload_n dL_law_2256 rfl ?_
  refine jh_arg (i := i) (j := 1) dL_law_2257 dL_law_2258 dL_law_2260 (by decide) dL_law_2261 dL_law_2262 rfl rfl (by omega) hX ?_
  refine jh_arg (i := i) (j := 2) dL_law_2263 dL_law_2264 dL_law_2266 (by decide) dL_law_2267 dL_law_2268 rfl rfl (by omega) hX ?_
  refine jh_aload_n dL_law_2269 rfl ?_
  refine jh_wrp (As := [.ref 0, .int (X.2 (i + 1)), .int (X.2 (i + 2)), .ref 191]) (a' := 1) (b' := 6) kL_worth dL_law_2270 rfl (by decide) (Nat.le_of_ble_eq_true rfl) rfl (by decide) ha hb (Nat.le_of_ble_eq_true rfl) (w_worth_x1 F τ n c (X.2 (i + 1)) (X.2 (i + 2)) hI.1 hn (hI.2.2.1 n (Nat.le_refl _)) h1) ?_
  refine jh_hs (S' := [.int (nI 1)]) (h' := lh (gx g n) f τ c s (n + 1)) rfl (lh_gx (by have := hI.2.1; have := nQ_le (n := n) (q := none); omega)) ?_
  refine jh_istore (L' := LN i (nI 1)) dL_law_2273 (by decide) rfl ?_
  refine jh_aload_n dL_law_2275 rfl ?_
  refine jh_arg (i := i) (j := 1) dL_law_2276 dL_law_2277 dL_law_2279 (by decide) dL_law_2280 dL_law_2281 rfl rfl (by omega) hX ?_
  refine jh_arg (i := i) (j := 2) dL_law_2282 dL_law_2283 dL_law_2285 (by decide) dL_law_2286 dL_law_2287 rfl rfl (by omega) hX ?_
  refine jh_ref (As := [.int (X.2 (i + 1)), .int (X.2 (i + 2))]) hI2 kv_L_241 dL_law_2288 rfl rfl (by decide) (Nat.le_of_ble_eq_true rfl) rfl (by decide) (Nat.le_of_ble_eq_true rfl) (fun g9 => t_X12_worth (by have := hI2.2.1; omega) F s (X.2 (i + 1)) (X.2 (i + 2)) h2) ?_
  refine jh_istore (L' := LM i (nI 1) y.1) dL_law_2291 (by decide) rfl ?_
  refine jh_aload_n dL_law_2293 rfl ?_
  refine jh_ref (As := []) hI2 kv_L_141 dL_law_2294 rfl rfl (by decide) (Nat.le_of_ble_eq_true rfl) rfl (by decide) (Nat.le_of_ble_eq_true rfl) (fun g9 => t_X12_thrown (by have := hI2.2.1; omega) y.2 (x := nI 1) (by rw [o_X12_thrown, h3])) ?_
  refine jh_iload dL_law_2297 rfl ?_
  refine jh_icmp_eq (x := nI 1) (y := nI 1) (tgt := 2304) dL_law_2299 (by decide) (fun _ => ?_) (fun e => absurd rfl e)
  refine jh_iload dL_law_2304 rfl ?_
  refine jh_if_ne (x := nI 1) (tgt := 2321) dL_law_2306 (by decide) (fun _ => ?_) (fun e => absurd e (by decide))
  refine jh_goto (tgt := 2513) dL_law_2321 (by decide) ?_
  refine jh_fg (L' := LL i) (by repeat (first | exact trivial | refine ⟨rfl, ?_⟩ | show jg_le _ _)) ?_
  exact K
set_option maxHeartbeats 2000000 in
theorem lc32 {Γ : jg_G} {X : Nat × (Nat → Int32)} {Q : jg_Q} {a b : Nat} {g : Nat → jg_C} {f : Nat → Int64} (F i : Nat) (τ : cT) (n : Nat) (c : cS) (s : rs_S) (hI : LI τ n) (hi : i + 9 ≤ X.1) (hX : X.1 ≤ 4608) (ha : 0 ≤ a) (hb : 0 ≤ b) {x : Int32} {y : Int32 × rs_S} (h1 : o_X11_best F τ n 0 c (X.2 (i + 1)) = some (.inl x)) (h2 : o_X12_best F s (X.2 (i + 1)) = some y) (h3 : y.2.1 0 = nI 0) (h4 : y.1 = x) (K : jh Γ mL_law ([], X) 100 (a - 0) (b - 0) 2513 (LL i) [] (lh g (vp_updL f 0 (x.toInt64)) τ c y.2 n) Q) : jh Γ mL_law ([], X) 100 a b 2324 (LL i) [] (lh g f τ c s n) Q := by
  refine jh_aload_n dL_law_2324 rfl ?_
  refine jh_arg (i := i) (j := 1) dL_law_2325 dL_law_2326 dL_law_2328 (by decide) dL_law_2329 dL_law_2330 rfl rfl (by omega) hX ?_
  refine jh_aload_n dL_law_2331 rfl ?_
  refine jh_wrp (As := [.ref 0, .int (X.2 (i + 1)), .ref 191]) (a' := 0) (b' := 0) kL_best dL_law_2332 rfl (by decide) (Nat.le_of_ble_eq_true rfl) rfl (by decide) ha hb (Nat.le_of_ble_eq_true rfl) (w_best F τ n c (X.2 (i + 1)) hI.1 lh_191 (hI.2.2.2 191 (by decide) (by decide)) (by have := hI.2.1; omega) h1) ?_
  refine jh_hs (S' := [.int (nI 0)]) (h' := lh g (vp_updL f 0 (x.toInt64)) τ c s n) rfl lh_out ?_
  refine jh_istore (L' := LN i (nI 0)) dL_law_2335 (by decide) rfl ?_
  refine jh_aload_n dL_law_2337 rfl ?_
  refine jh_arg (i := i) (j := 1) dL_law_2338 dL_law_2339 dL_law_2341 (by decide) dL_law_2342 dL_law_2343 rfl rfl (by omega) hX ?_
  refine jh_ref (As := [.int (X.2 (i + 1))]) hI kv_L_244 dL_law_2344 rfl rfl (by decide) (Nat.le_of_ble_eq_true rfl) rfl (by decide) (Nat.le_of_ble_eq_true rfl) (fun g9 => t_X12_best (by have := hI.2.1; omega) F s (X.2 (i + 1)) h2) ?_
  refine jh_istore (L' := LM i (nI 0) y.1) dL_law_2347 (by decide) rfl ?_
  refine jh_aload_n dL_law_2349 rfl ?_
  refine jh_ref (As := []) hI kv_L_141 dL_law_2350 rfl rfl (by decide) (Nat.le_of_ble_eq_true rfl) rfl (by decide) (Nat.le_of_ble_eq_true rfl) (fun g9 => t_X12_thrown (by have := hI.2.1; omega) y.2 (x := nI 0) (by rw [o_X12_thrown, h3])) ?_
  refine jh_iload dL_law_2353 rfl ?_
  refine jh_icmp_eq (x := nI 0) (y := nI 0) (tgt := 2360) dL_law_2355 (by decide) (fun _ => ?_) (fun e => absurd rfl e)
  refine jh_iload dL_law_2360 rfl ?_
  refine jh_if_ne (x := nI 0) (tgt := 2377) dL_law_2362 (by decide) (fun e => absurd (by decide) e) (fun _ => ?_)
  refine jh_aload_n dL_law_2365 rfl ?_
  refine jh_iconst (v := nI 0) dL_law_2366 (by decide) ?_
  refine jh_lald (q := 191) (n := 1) (f := (vp_updL f 0 (x.toInt64))) (i := nI 0) dL_law_2367 (by show 191 < n; have := hI.2.1; omega) ((ct_base (hI.2.2.2 191 (by decide) (by decide))).trans lh_191) (vp_iL (iL_t (by decide) (by decide))) ?_
  refine jh_iload dL_law_2368 rfl ?_
  refine jh_i2l dL_law_2370 ?_
  refine jh_lcmp dL_law_2371 ?_
  refine jh_if_eq (tgt := 2377) dL_law_2372 (by decide) (fun _ => ?_) (fun e => absurd (by rw [h4]; exact lcmp_self _) e)
  refine jh_goto (tgt := 2513) dL_law_2377 (by decide) ?_
  refine jh_fg (L' := LL i) (by repeat (first | exact trivial | refine ⟨rfl, ?_⟩ | show jg_le _ _)) ?_
  exact K
set_option maxHeartbeats 2000000 in
theorem lc32x1 {Γ : jg_G} {X : Nat × (Nat → Int32)} {Q : jg_Q} {a b : Nat} {g : Nat → jg_C} {f : Nat → Int64} (F i : Nat) (τ : cT) (n : Nat) (c : cS) (s : rs_S) (hI : LI τ n) (hi : i + 9 ≤ X.1) (hX : X.1 ≤ 4608) (ha : 1 ≤ a) (hb : 6 ≤ b) (hn : n < 1000000) {y : Int32 × rs_S} (h1 : o_X11_best F τ n 0 c (X.2 (i + 1)) = some (.inr 1)) (hI2 : LI τ (n + 1)) (h2 : o_X12_best F s (X.2 (i + 1)) = some y) (h3 : y.2.1 0 = nI 1) (K : jh Γ mL_law ([], X) 100 (a - 1) (b - 6) 2513 (LL i) [] (lh (gx g n) f τ c y.2 (n + 1)) Q) : jh Γ mL_law ([], X) 100 a b 2324 (LL i) [] (lh g f τ c s n) Q := by
  refine jh_aload_n dL_law_2324 rfl ?_
  refine jh_arg (i := i) (j := 1) dL_law_2325 dL_law_2326 dL_law_2328 (by decide) dL_law_2329 dL_law_2330 rfl rfl (by omega) hX ?_
  refine jh_aload_n dL_law_2331 rfl ?_
  refine jh_wrp (As := [.ref 0, .int (X.2 (i + 1)), .ref 191]) (a' := 1) (b' := 6) kL_best dL_law_2332 rfl (by decide) (Nat.le_of_ble_eq_true rfl) rfl (by decide) ha hb (Nat.le_of_ble_eq_true rfl) (w_best_x1 F τ n c (X.2 (i + 1)) hI.1 hn (hI.2.2.1 n (Nat.le_refl _)) h1) ?_
  refine jh_hs (S' := [.int (nI 1)]) (h' := lh (gx g n) f τ c s (n + 1)) rfl (lh_gx (by have := hI.2.1; have := nQ_le (n := n) (q := none); omega)) ?_
  refine jh_istore (L' := LN i (nI 1)) dL_law_2335 (by decide) rfl ?_
  refine jh_aload_n dL_law_2337 rfl ?_
  refine jh_arg (i := i) (j := 1) dL_law_2338 dL_law_2339 dL_law_2341 (by decide) dL_law_2342 dL_law_2343 rfl rfl (by omega) hX ?_
  refine jh_ref (As := [.int (X.2 (i + 1))]) hI2 kv_L_244 dL_law_2344 rfl rfl (by decide) (Nat.le_of_ble_eq_true rfl) rfl (by decide) (Nat.le_of_ble_eq_true rfl) (fun g9 => t_X12_best (by have := hI2.2.1; omega) F s (X.2 (i + 1)) h2) ?_
  refine jh_istore (L' := LM i (nI 1) y.1) dL_law_2347 (by decide) rfl ?_
  refine jh_aload_n dL_law_2349 rfl ?_
  refine jh_ref (As := []) hI2 kv_L_141 dL_law_2350 rfl rfl (by decide) (Nat.le_of_ble_eq_true rfl) rfl (by decide) (Nat.le_of_ble_eq_true rfl) (fun g9 => t_X12_thrown (by have := hI2.2.1; omega) y.2 (x := nI 1) (by rw [o_X12_thrown, h3])) ?_
  refine jh_iload dL_law_2353 rfl ?_
  refine jh_icmp_eq (x := nI 1) (y := nI 1) (tgt := 2360) dL_law_2355 (by decide) (fun _ => ?_) (fun e => absurd rfl e)
  refine jh_iload dL_law_2360 rfl ?_
  refine jh_if_ne (x := nI 1) (tgt := 2377) dL_law_2362 (by decide) (fun _ => ?_) (fun e => absurd e (by decide))
  refine jh_goto (tgt := 2513) dL_law_2377 (by decide) ?_
  refine jh_fg (L' := LL i) (by repeat (first | exact trivial | refine ⟨rfl, ?_⟩ | show jg_le _ _)) ?_
  exact K
set_option maxHeartbeats 2000000 in
theorem lc33 {Γ : jg_G} {X : Nat × (Nat → Int32)} {Q : jg_Q} {a b : Nat} {g : Nat → jg_C} {f : Nat → Int64} (F i : Nat) (τ : cT) (n : Nat) (c : cS) (s : rs_S) (hI : LI τ n) (hi : i + 9 ≤ X.1) (hX : X.1 ≤ 4608) (ha : 6 ≤ a) (hb : 866 ≤ b) (hn9 : n + 7 ≤ 1000000) {q : Option (Nat × Nat)} {x : Int32 × cS} {y : Int32 × rs_S} (h1 : o_X11_another F τ n 0 c (X.2 (i + 1)) (bz (X.2 (i + 2))) = some ((q, .inl x))) (hI2 : LI (tQ τ n q) (nQ n q)) (h2 : o_X12_another F s (X.2 (i + 1)) (bz (X.2 (i + 2))) = some y) (h3 : y.2.1 0 = nI 0) (h4 : y.1 = x.1) (K : jh Γ mL_law ([], X) 100 (a - 6) (b - 866) 2513 (LL i) [] (lh g (vp_updL f 0 (x.1.toInt64)) (tQ τ n q) x.2 y.2 (nQ n q)) Q) : jh Γ mL_law ([], X) 100 a b 2380 (LL i) [] (lh g f τ c s n) Q := by
  refine jh_aload_n dL_law_2380 rfl ?_
  refine jh_arg (i := i) (j := 1) dL_law_2381 dL_law_2382 dL_law_2384 (by decide) dL_law_2385 dL_law_2386 rfl rfl (by omega) hX ?_
  refine jh_arg (i := i) (j := 2) dL_law_2387 dL_law_2388 dL_law_2390 (by decide) dL_law_2391 dL_law_2392 rfl rfl (by omega) hX ?_
  refine jh_bz (x := (X.2 (i + 2))) (t := 2400) (j := 2401) dL_law_2393 (by decide) dL_law_2396 dL_law_2397 (by decide) dL_law_2400 rfl ?_
  refine jh_aload_n dL_law_2401 rfl ?_
  refine jh_wrp (As := [.ref 0, .int (X.2 (i + 1)), .int (bz (X.2 (i + 2))), .ref 191]) (a' := 6) (b' := 866) kL_another dL_law_2402 rfl (by decide) (Nat.le_of_ble_eq_true rfl) rfl (by decide) ha hb (Nat.le_of_ble_eq_true rfl) (w_another F τ n c (X.2 (i + 1)) (bz (X.2 (i + 2))) hI.1 lh_191 (hI.2.2.2 191 (by decide) (by decide)) (by have := hI.2.1; omega) hn9 h1) ?_
  refine jh_hs (S' := [.int (nI 0)]) (h' := lh g (vp_updL f 0 (x.1.toInt64)) (tQ τ n q) x.2 s (nQ n q)) rfl lh_out ?_
  refine jh_istore (L' := LN i (nI 0)) dL_law_2405 (by decide) rfl ?_
  refine jh_aload_n dL_law_2407 rfl ?_
  refine jh_arg (i := i) (j := 1) dL_law_2408 dL_law_2409 dL_law_2411 (by decide) dL_law_2412 dL_law_2413 rfl rfl (by omega) hX ?_
  refine jh_arg (i := i) (j := 2) dL_law_2414 dL_law_2415 dL_law_2417 (by decide) dL_law_2418 dL_law_2419 rfl rfl (by omega) hX ?_
  refine jh_bz (x := (X.2 (i + 2))) (t := 2427) (j := 2428) dL_law_2420 (by decide) dL_law_2423 dL_law_2424 (by decide) dL_law_2427 rfl ?_
  refine jh_ref (As := [.int (X.2 (i + 1)), .int (bz (X.2 (i + 2)))]) hI2 kv_L_247 dL_law_2428 rfl rfl (by decide) (Nat.le_of_ble_eq_true rfl) rfl (by decide) (Nat.le_of_ble_eq_true rfl) (fun g9 => t_X12_another (by have := hI2.2.1; omega) F s (X.2 (i + 1)) (bz (X.2 (i + 2))) h2) ?_
  refine jh_istore (L' := LM i (nI 0) y.1) dL_law_2431 (by decide) rfl ?_
  refine jh_aload_n dL_law_2433 rfl ?_
  refine jh_ref (As := []) hI2 kv_L_141 dL_law_2434 rfl rfl (by decide) (Nat.le_of_ble_eq_true rfl) rfl (by decide) (Nat.le_of_ble_eq_true rfl) (fun g9 => t_X12_thrown (by have := hI2.2.1; omega) y.2 (x := nI 0) (by rw [o_X12_thrown, h3])) ?_
  refine jh_iload dL_law_2437 rfl ?_
  refine jh_icmp_eq (x := nI 0) (y := nI 0) (tgt := 2444) dL_law_2439 (by decide) (fun _ => ?_) (fun e => absurd rfl e)
  refine jh_iload dL_law_2444 rfl ?_
  refine jh_if_ne (x := nI 0) (tgt := 2461) dL_law_2446 (by decide) (fun e => absurd (by decide) e) (fun _ => ?_)
  refine jh_aload_n dL_law_2449 rfl ?_
  refine jh_iconst (v := nI 0) dL_law_2450 (by decide) ?_
  refine jh_lald (q := 191) (n := 1) (f := (vp_updL f 0 (x.1.toInt64))) (i := nI 0) dL_law_2451 (by show 191 < (nQ n q); have := hI2.2.1; omega) ((ct_base (hI2.2.2.2 191 (by decide) (by decide))).trans lh_191) (vp_iL (iL_t (by decide) (by decide))) ?_
  refine jh_iload dL_law_2452 rfl ?_
  refine jh_i2l dL_law_2454 ?_
  refine jh_lcmp dL_law_2455 ?_
  refine jh_if_eq (tgt := 2461) dL_law_2456 (by decide) (fun _ => ?_) (fun e => absurd (by rw [h4]; exact lcmp_self _) e)
  refine jh_goto (tgt := 2513) dL_law_2461 (by decide) ?_
  refine jh_fg (L' := LL i) (by repeat (first | exact trivial | refine ⟨rfl, ?_⟩ | show jg_le _ _)) ?_
  exact K
set_option maxHeartbeats 2000000 in
theorem lc33x1 {Γ : jg_G} {X : Nat × (Nat → Int32)} {Q : jg_Q} {a b : Nat} {g : Nat → jg_C} {f : Nat → Int64} (F i : Nat) (τ : cT) (n : Nat) (c : cS) (s : rs_S) (hI : LI τ n) (hi : i + 9 ≤ X.1) (hX : X.1 ≤ 4608) (ha : 7 ≤ a) (hb : 872 ≤ b) (hn9 : n + 7 ≤ 1000000) {q : Option (Nat × Nat)} {z : cS} {y : Int32 × rs_S} (h1 : o_X11_another F τ n 0 c (X.2 (i + 1)) (bz (X.2 (i + 2))) = some ((q, .inr (1, z)))) (hI2 : LI (tQ τ n q) ((nQ n q) + 1)) (h2 : o_X12_another F s (X.2 (i + 1)) (bz (X.2 (i + 2))) = some y) (h3 : y.2.1 0 = nI 1) (K : jh Γ mL_law ([], X) 100 (a - 7) (b - 872) 2513 (LL i) [] (lh (gx g (nQ n q)) f (tQ τ n q) z y.2 ((nQ n q) + 1)) Q) : jh Γ mL_law ([], X) 100 a b 2380 (LL i) [] (lh g f τ c s n) Q := by
  refine jh_aload_n dL_law_2380 rfl ?_
  refine jh_arg (i := i) (j := 1) dL_law_2381 dL_law_2382 dL_law_2384 (by decide) dL_law_2385 dL_law_2386 rfl rfl (by omega) hX ?_
  refine jh_arg (i := i) (j := 2) dL_law_2387 dL_law_2388 dL_law_2390 (by decide) dL_law_2391 dL_law_2392 rfl rfl (by omega) hX ?_
  refine jh_bz (x := (X.2 (i + 2))) (t := 2400) (j := 2401) dL_law_2393 (by decide) dL_law_2396 dL_law_2397 (by decide) dL_law_2400 rfl ?_
  refine jh_aload_n dL_law_2401 rfl ?_
  refine jh_wrp (As := [.ref 0, .int (X.2 (i + 1)), .int (bz (X.2 (i + 2))), .ref 191]) (a' := 7) (b' := 872) kL_another dL_law_2402 rfl (by decide) (Nat.le_of_ble_eq_true rfl) rfl (by decide) ha hb (Nat.le_of_ble_eq_true rfl) (w_another_x1 F τ n c (X.2 (i + 1)) (bz (X.2 (i + 2))) hI.1 hn9 hI.2.2.1 h1) ?_
  refine jh_hs (S' := [.int (nI 1)]) (h' := lh (gx g (nQ n q)) f (tQ τ n q) z s ((nQ n q) + 1)) rfl (lh_gx (by have := hI.2.1; have := nQ_le (n := n) (q := q); omega)) ?_
  refine jh_istore (L' := LN i (nI 1)) dL_law_2405 (by decide) rfl ?_
  refine jh_aload_n dL_law_2407 rfl ?_
  refine jh_arg (i := i) (j := 1) dL_law_2408 dL_law_2409 dL_law_2411 (by decide) dL_law_2412 dL_law_2413 rfl rfl (by omega) hX ?_
  refine jh_arg (i := i) (j := 2) dL_law_2414 dL_law_2415 dL_law_2417 (by decide) dL_law_2418 dL_law_2419 rfl rfl (by omega) hX ?_
  refine jh_bz (x := (X.2 (i + 2))) (t := 2427) (j := 2428) dL_law_2420 (by decide) dL_law_2423 dL_law_2424 (by decide) dL_law_2427 rfl ?_
  refine jh_ref (As := [.int (X.2 (i + 1)), .int (bz (X.2 (i + 2)))]) hI2 kv_L_247 dL_law_2428 rfl rfl (by decide) (Nat.le_of_ble_eq_true rfl) rfl (by decide) (Nat.le_of_ble_eq_true rfl) (fun g9 => t_X12_another (by have := hI2.2.1; omega) F s (X.2 (i + 1)) (bz (X.2 (i + 2))) h2) ?_
  refine jh_istore (L' := LM i (nI 1) y.1) dL_law_2431 (by decide) rfl ?_
  refine jh_aload_n dL_law_2433 rfl ?_
  refine jh_ref (As := []) hI2 kv_L_141 dL_law_2434 rfl rfl (by decide) (Nat.le_of_ble_eq_true rfl) rfl (by decide) (Nat.le_of_ble_eq_true rfl) (fun g9 => t_X12_thrown (by have := hI2.2.1; omega) y.2 (x := nI 1) (by rw [o_X12_thrown, h3])) ?_
  refine jh_iload dL_law_2437 rfl ?_
  refine jh_icmp_eq (x := nI 1) (y := nI 1) (tgt := 2444) dL_law_2439 (by decide) (fun _ => ?_) (fun e => absurd rfl e)
  refine jh_iload dL_law_2444 rfl ?_
  refine jh_if_ne (x := nI 1) (tgt := 2461) dL_law_2446 (by decide) (fun _ => ?_) (fun e => absurd e (by decide))
  refine jh_goto (tgt := 2513) dL_law_2461 (by decide) ?_
  refine jh_fg (L' := LL i) (by repeat (first | exact trivial | refine ⟨rfl, ?_⟩ | show jg_le _ _)) ?_
  exact K
set_option maxHeartbeats 1000000 in
theorem lc34 {Γ : jg_G} {X : Nat × (Nat → Int32)} {Q : jg_Q} {a b : Nat} {g : Nat → jg_C} {f : Nat → Int64} (F i : Nat) (τ : cT) (n : Nat) (c : cS) (s : rs_S) (hI : LI τ n) (ha : 0 ≤ a) (hb : 0 ≤ b) {x : cS} {y : rs_S} (h1 : o_X11_keep F τ n 0 c = some (false, x)) (h2 : o_X12_keep F s = some y) (K : jh Γ mL_law ([], X) 100 (a - 0) (b - 0) 2513 (LL i) [] (lh g f τ x y n) Q) : jh Γ mL_law ([], X) 100 a b 2464 (LL i) [] (lh g f τ c s n) Q := by
  refine jh_aload_n dL_law_2464 rfl ?_
  refine jh_cls (As := []) (a' := 0) (b' := 0) hI kv_L_248 dL_law_2465 rfl rfl (by decide) (Nat.le_of_ble_eq_true rfl) rfl (by decide) ha hb (Nat.le_of_ble_eq_true rfl) (fun g9 => t_X11_keep F τ n 0 c hI.1 h1) ?_
  refine jh_aload_n dL_law_2468 rfl ?_
  refine jh_ref (As := []) hI kv_L_251 dL_law_2469 rfl rfl (by decide) (Nat.le_of_ble_eq_true rfl) rfl (by decide) (Nat.le_of_ble_eq_true rfl) (fun g9 => t_X12_keep (by have := hI.2.1; omega) F s h2) ?_
  exact jh_goto (tgt := 2513) dL_law_2472 (by decide) K
set_option maxHeartbeats 1000000 in
theorem lc34m {Γ : jg_G} {X : Nat × (Nat → Int32)} {Q : jg_Q} {a b : Nat} {g : Nat → jg_C} {f : Nat → Int64} (F i : Nat) (τ : cT) (n : Nat) (c : cS) (s : rs_S) (hI : LI τ n) (hn : n + 170 ≤ 1000000) (hI2 : LI (tB τ n) (n + 170)) (ha : 170 ≤ a) (hb : 3834 ≤ b) {x : cS} {y : rs_S} (h1 : o_X11_keep F τ n 0 c = some (true, x)) (h2 : o_X12_keep F s = some y) (K : jh Γ mL_law ([], X) 100 (a - 170) (b - 3834) 2513 (LL i) [] (lh g f (tB τ n) x y (n + 170)) Q) : jh Γ mL_law ([], X) 100 a b 2464 (LL i) [] (lh g f τ c s n) Q := by
  refine jh_aload_n dL_law_2464 rfl ?_
  refine jh_cls (As := []) (a' := 170) (b' := 3834) hI kv_L_248 dL_law_2465 rfl rfl (by decide) (Nat.le_of_ble_eq_true rfl) rfl (by decide) ha hb (Nat.le_of_ble_eq_true rfl) (fun g9 => m_X11_keep F τ n 0 c hI.1 hn h1) ?_
  refine jh_aload_n dL_law_2468 rfl ?_
  refine jh_ref (As := []) hI2 kv_L_251 dL_law_2469 rfl rfl (by decide) (Nat.le_of_ble_eq_true rfl) rfl (by decide) (Nat.le_of_ble_eq_true rfl) (fun g9 => t_X12_keep (by have := hI2.2.1; omega) F s h2) ?_
  exact jh_goto (tgt := 2513) dL_law_2472 (by decide) K
set_option maxHeartbeats 1000000 in
theorem lc35 {Γ : jg_G} {X : Nat × (Nat → Int32)} {Q : jg_Q} {a b : Nat} {g : Nat → jg_C} {f : Nat → Int64} (F i : Nat) (τ : cT) (n : Nat) (c : cS) (s : rs_S) (hI : LI τ n) (hi : i + 9 ≤ X.1) (hX : X.1 ≤ 4608) {x : Int32 × cS} {y : Int32 × rs_S} (h1 : o_X11_again F τ n 0 c = some x) (h2 : o_X12_again F s = some y) (h4 : y.1 = x.1) (K : jh Γ mL_law ([], X) 100 a b 2513 (LL i) [] (lh g f τ x.2 y.2 n) Q) : jh Γ mL_law ([], X) 100 a b 2475 (LL i) [] (lh g f τ c s n) Q := by
  refine jh_aload_n dL_law_2475 rfl ?_
  refine jh_cls (As := []) (a' := 0) (b' := 0) hI kv_L_252 dL_law_2476 rfl rfl (by decide) (Nat.le_of_ble_eq_true rfl) rfl (by decide) (Nat.zero_le _) (Nat.zero_le _) (Nat.le_of_ble_eq_true rfl) (fun g9 => t_X11_again F τ n 0 c hI.1 h1) ?_
  refine jh_aload_n dL_law_2479 rfl ?_
  refine jh_ref (As := []) hI kv_L_255 dL_law_2480 rfl rfl (by decide) (Nat.le_of_ble_eq_true rfl) rfl (by decide) (Nat.le_of_ble_eq_true rfl) (fun g9 => t_X12_again (by have := hI.2.1; omega) F s h2) ?_
  refine jh_icmp_eq (x := x.1) (y := y.1) (tgt := 2513) dL_law_2483 (by decide) (fun _ => ?_) (fun e => absurd h4.symm e)
  exact K
set_option maxHeartbeats 1000000 in
theorem lc36 {Γ : jg_G} {X : Nat × (Nat → Int32)} {Q : jg_Q} {a b : Nat} {g : Nat → jg_C} {f : Nat → Int64} (F i : Nat) (τ : cT) (n : Nat) (c : cS) (s : rs_S) (hI : LI τ n) (hi : i + 9 ≤ X.1) (hX : X.1 ≤ 4608) {x : Int32} {y : Int32 × rs_S} (h1 : o_X11_count F τ n 0 c (X.2 (i + 1)) = some x) (h2 : o_X12_count F s (X.2 (i + 1)) = some y) (h4 : y.1 = x) (K : jh Γ mL_law ([], X) 100 a b 2513 (LL i) [] (lh g f τ c y.2 n) Q) : jh Γ mL_law ([], X) 100 a b 2488 (LL i) [] (lh g f τ c s n) Q := by
  refine jh_aload_n dL_law_2488 rfl ?_
  refine jh_arg (i := i) (j := 1) dL_law_2489 dL_law_2490 dL_law_2492 (by decide) dL_law_2493 dL_law_2494 rfl rfl (by omega) hX ?_
  refine jh_cls (As := [.int (X.2 (i + 1))]) (a' := 0) (b' := 0) hI kv_L_256 dL_law_2495 rfl rfl (by decide) (Nat.le_of_ble_eq_true rfl) rfl (by decide) (Nat.zero_le _) (Nat.zero_le _) (Nat.le_of_ble_eq_true rfl) (fun g9 => t_X11_count F τ n 0 c (X.2 (i + 1)) hI.1 h1) ?_
  refine jh_aload_n dL_law_2498 rfl ?_
  refine jh_arg (i := i) (j := 1) dL_law_2499 dL_law_2500 dL_law_2502 (by decide) dL_law_2503 dL_law_2504 rfl rfl (by omega) hX ?_
  refine jh_ref (As := [.int (X.2 (i + 1))]) hI kv_L_259 dL_law_2505 rfl rfl (by decide) (Nat.le_of_ble_eq_true rfl) rfl (by decide) (Nat.le_of_ble_eq_true rfl) (fun g9 => t_X12_count (by have := hI.2.1; omega) F s (X.2 (i + 1)) h2) ?_
  refine jh_icmp_eq (x := x) (y := y.1) (tgt := 2513) dL_law_2508 (by decide) (fun _ => ?_) (fun e => absurd h4.symm e)
  exact K
