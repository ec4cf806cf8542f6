/-! CONSTRUCTORS (by program wip/whole/mkdec.py) -/
section MKH
variable {Γ : jg_G} {M M' : jg_Md} {d d' a b a' b' pc : Nat} {L L' : List (Option Value)} {S : List Value} {h : jg_H} {Q : jg_Q}
theorem jg_hs {S' : List Value} {h' : jg_H} (e1 : S = S') (e2 : h = h') (kk : jg Γ M d a b pc L S' h' Q) : jg Γ M d a b pc L S h Q := by subst e1 e2; exact kk
end MKH
theorem mk_push {f : Nat → jg_C} {n k : Nat} {xs xs' : List jg_C} {x : jg_C} (hk : xs.length = k) (hx : xs ++ [x] = xs') : ((va_up (apx f n xs) (n + k) x, n + k + 1) : jg_H) = (apx f n xs', n + (k + 1)) := congrArg (fun z => (z, n + k + 1)) (app_push hk hx)
theorem mk_set {f : Nat → jg_C} {n i m : Nat} {xs xs' : List jg_C} {x : jg_C} (hi : i < xs.length) (hx : xs.set i x = xs') : ((va_up (apx f n xs) (n + i) x, m) : jg_H) = (apx f n xs', m) := congrArg (fun z => (z, m)) (app_set hi hx)
theorem mk_app {f : Nat → jg_C} {n k j m : Nat} {xs ys zs : List jg_C} (hk : xs.length = k) (hz : xs ++ ys = zs) (hm : k + j = m) : ((apx (apx f n xs) (n + k) ys, n + k + j) : jg_H) = (apx f n zs, n + m) := by
  subst hm; rw [app_app hk hz, Nat.add_assoc]
theorem mk_split {f : Nat → jg_C} {n k m : Nat} {xs zs : List jg_C} {x : jg_C} (hk : xs.length = k) (hz : xs ++ [x] = zs) (hm : k + 1 = m) : ((apx f n zs, n + m) : jg_H) = (apx (apx f n xs) (n + k) [x], n + k + 1) := (mk_app hk hz hm).symm
theorem mk_uu {f : Nat → jg_C} {n : Nat} {x y : jg_C} : va_up (va_up f n x) n y = va_up f n y := by
  funext k
  by_cases e : k = n
  · subst e; rw [va_up_self, va_up_self]
  · rw [va_up_ne _ _ e, va_up_ne _ _ e, va_up_ne _ _ e]
theorem mk_one {f : Nat → jg_C} {n : Nat} {x : jg_C} : va_up f n x = apx f n [x] := by
  have h := app_push (f := f) (n := n) (k := 0) (xs := []) (x := x) rfl rfl
  rw [app_nil] at h
  exact h
theorem mk_sw {Γ : jg_G} {M : jg_Md} {d a b pc : Nat} {L : List (Option Value)} {S : List Value} {Q : jg_Q} {f : Nat → jg_C} {n m : Nat} {x x' : jg_C} (hc : ceq x x') (kk : jg Γ M d a b pc L S (va_up f n x', m) Q) : jg Γ M d a b pc L S (va_up f n x, m) Q := jg_swap (h' := (va_up f n x', m)) rfl (fun k _ => by
  by_cases e : k = n
  · subst e
    show ceq (va_up f k x k) (va_up f k x' k)
    rw [va_up_self, va_up_self]; exact hc
  · show ceq (va_up f n x k) (va_up f n x' k)
    rw [va_up_ne _ _ e, va_up_ne _ _ e]; exact ceq_r _) kk
theorem mk_df0 (Γ : jg_G) : ∀ j, j < 6 → defaultValue (tyX0 j) = vp_V (([.int 0, .null, .null, .null, .null, .null] : List Value).map (jg_v Γ)) j := by
  intro j hj
  match j, hj with
  | 0, _ => rfl
  | 1, _ => rfl
  | 2, _ => rfl
  | 3, _ => rfl
  | 4, _ => rfl
  | 5, _ => rfl
  | k + 6, hk => exact absurd hk (by omega)
theorem mk_df1 (Γ : jg_G) : ∀ j, j < 9 → defaultValue (tyX1 j) = vp_V (([.int 0, .int 0, .int 0, .int 0, .int 0, .int 0, .int 0, .int 0, .int 0] : List Value).map (jg_v Γ)) j := by
  intro j hj
  match j, hj with
  | 0, _ => rfl
  | 1, _ => rfl
  | 2, _ => rfl
  | 3, _ => rfl
  | 4, _ => rfl
  | 5, _ => rfl
  | 6, _ => rfl
  | 7, _ => rfl
  | 8, _ => rfl
  | k + 9, hk => exact absurd hk (by omega)
theorem mk_df2 (Γ : jg_G) : ∀ j, j < 10 → defaultValue (tyX2 j) = vp_V (([.int 0, .null, .null, .null, .null, .null, .null, .null, .null, .null] : List Value).map (jg_v Γ)) j := by
  intro j hj
  match j, hj with
  | 0, _ => rfl
  | 1, _ => rfl
  | 2, _ => rfl
  | 3, _ => rfl
  | 4, _ => rfl
  | 5, _ => rfl
  | 6, _ => rfl
  | 7, _ => rfl
  | 8, _ => rfl
  | 9, _ => rfl
  | k + 10, hk => exact absurd hk (by omega)
theorem mk_df3 (Γ : jg_G) : ∀ j, j < 10 → defaultValue (tyX3 j) = vp_V (([.null, .null, .null, .int 0, .int 0, .null, .int 0, .null, .int 0, .int 0] : List Value).map (jg_v Γ)) j := by
  intro j hj
  match j, hj with
  | 0, _ => rfl
  | 1, _ => rfl
  | 2, _ => rfl
  | 3, _ => rfl
  | 4, _ => rfl
  | 5, _ => rfl
  | 6, _ => rfl
  | 7, _ => rfl
  | 8, _ => rfl
  | 9, _ => rfl
  | k + 10, hk => exact absurd hk (by omega)
theorem mk_df4 (Γ : jg_G) : ∀ j, j < 12 → defaultValue (tyX4 j) = vp_V (([.null, .null, .null, .int 0, .null, .null, .null, .int 0, .null, .null, .null, .null] : List Value).map (jg_v Γ)) j := by
  intro j hj
  match j, hj with
  | 0, _ => rfl
  | 1, _ => rfl
  | 2, _ => rfl
  | 3, _ => rfl
  | 4, _ => rfl
  | 5, _ => rfl
  | 6, _ => rfl
  | 7, _ => rfl
  | 8, _ => rfl
  | 9, _ => rfl
  | 10, _ => rfl
  | 11, _ => rfl
  | k + 12, hk => exact absurd hk (by omega)
theorem mk_df5 (Γ : jg_G) : ∀ j, j < 8 → defaultValue (tyX5 j) = vp_V (([.null, .int 0, .null, .int 0, .int 0, .int 0, .null, .int 0] : List Value).map (jg_v Γ)) j := by
  intro j hj
  match j, hj with
  | 0, _ => rfl
  | 1, _ => rfl
  | 2, _ => rfl
  | 3, _ => rfl
  | 4, _ => rfl
  | 5, _ => rfl
  | 6, _ => rfl
  | 7, _ => rfl
  | k + 8, hk => exact absurd hk (by omega)
theorem mk_df6 (Γ : jg_G) : ∀ j, j < 14 → defaultValue (tyX6 j) = vp_V (([.int 0, .int 0, .int 0, .null, .null, .null, .int 0, .null, .null, .null, .null, .null, .null, .int 0] : List Value).map (jg_v Γ)) j := by
  intro j hj
  match j, hj with
  | 0, _ => rfl
  | 1, _ => rfl
  | 2, _ => rfl
  | 3, _ => rfl
  | 4, _ => rfl
  | 5, _ => rfl
  | 6, _ => rfl
  | 7, _ => rfl
  | 8, _ => rfl
  | 9, _ => rfl
  | 10, _ => rfl
  | 11, _ => rfl
  | 12, _ => rfl
  | 13, _ => rfl
  | k + 14, hk => exact absurd hk (by omega)
theorem mk_df7 (Γ : jg_G) : ∀ j, j < 12 → defaultValue (tyX7 j) = vp_V (([.int 0, .null, .null, .int 0, .int 0, .null, .null, .null, .int 0, .null, .null, .int 0] : List Value).map (jg_v Γ)) j := by
  intro j hj
  match j, hj with
  | 0, _ => rfl
  | 1, _ => rfl
  | 2, _ => rfl
  | 3, _ => rfl
  | 4, _ => rfl
  | 5, _ => rfl
  | 6, _ => rfl
  | 7, _ => rfl
  | 8, _ => rfl
  | 9, _ => rfl
  | 10, _ => rfl
  | 11, _ => rfl
  | k + 12, hk => exact absurd hk (by omega)
theorem mk_df8 (Γ : jg_G) : ∀ j, j < 14 → defaultValue (tyX8 j) = vp_V (([.null, .null, .null, .null, .null, .null, .int 0, .null, .null, .null, .int 0, .int 0, .int 0, .int 0] : List Value).map (jg_v Γ)) j := by
  intro j hj
  match j, hj with
  | 0, _ => rfl
  | 1, _ => rfl
  | 2, _ => rfl
  | 3, _ => rfl
  | 4, _ => rfl
  | 5, _ => rfl
  | 6, _ => rfl
  | 7, _ => rfl
  | 8, _ => rfl
  | 9, _ => rfl
  | 10, _ => rfl
  | 11, _ => rfl
  | 12, _ => rfl
  | 13, _ => rfl
  | k + 14, hk => exact absurd hk (by omega)
theorem mk_df9 (Γ : jg_G) : ∀ j, j < 19 → defaultValue (tyX9 j) = vp_V (([.int 0, .int 0, .int 0, .int 0, .int 0, .int 0, .int 0, .int 0, .null, .int 0, .int 0, .int 0, .int 0, .int 0, .int 0, .int 0, .int 0, .int 0, .int 0] : List Value).map (jg_v Γ)) j := by
  intro j hj
  match j, hj with
  | 0, _ => rfl
  | 1, _ => rfl
  | 2, _ => rfl
  | 3, _ => rfl
  | 4, _ => rfl
  | 5, _ => rfl
  | 6, _ => rfl
  | 7, _ => rfl
  | 8, _ => rfl
  | 9, _ => rfl
  | 10, _ => rfl
  | 11, _ => rfl
  | 12, _ => rfl
  | 13, _ => rfl
  | 14, _ => rfl
  | 15, _ => rfl
  | 16, _ => rfl
  | 17, _ => rfl
  | 18, _ => rfl
  | k + 19, hk => exact absurd hk (by omega)
theorem mk_df10 (Γ : jg_G) : ∀ j, j < 6 → defaultValue (tyX10 j) = vp_V (([.null, .null, .null, .null, .int 0, .null] : List Value).map (jg_v Γ)) j := by
  intro j hj
  match j, hj with
  | 0, _ => rfl
  | 1, _ => rfl
  | 2, _ => rfl
  | 3, _ => rfl
  | 4, _ => rfl
  | 5, _ => rfl
  | k + 6, hk => exact absurd hk (by omega)
theorem mk_df11 (Γ : jg_G) : ∀ j, j < 5 → defaultValue (tyX11 j) = vp_V (([.null, .int 0, .null, .null, .null] : List Value).map (jg_v Γ)) j := by
  intro j hj
  match j, hj with
  | 0, _ => rfl
  | 1, _ => rfl
  | 2, _ => rfl
  | 3, _ => rfl
  | 4, _ => rfl
  | k + 5, hk => exact absurd hk (by omega)
theorem mk_df12 (Γ : jg_G) : ∀ j, j < 23 → defaultValue (tyX12 j) = vp_V (([.int 0, .null, .null, .int 0, .null, .null, .int 0, .null, .int 0, .int 0, .int 0, .int 0, .int 0, .int 0, .null, .int 0, .null, .null, .int 0, .int 0, .null, .null, .int 0] : List Value).map (jg_v Γ)) j := by
  intro j hj
  match j, hj with
  | 0, _ => rfl
  | 1, _ => rfl
  | 2, _ => rfl
  | 3, _ => rfl
  | 4, _ => rfl
  | 5, _ => rfl
  | 6, _ => rfl
  | 7, _ => rfl
  | 8, _ => rfl
  | 9, _ => rfl
  | 10, _ => rfl
  | 11, _ => rfl
  | 12, _ => rfl
  | 13, _ => rfl
  | 14, _ => rfl
  | 15, _ => rfl
  | 16, _ => rfl
  | 17, _ => rfl
  | 18, _ => rfl
  | 19, _ => rfl
  | 20, _ => rfl
  | 21, _ => rfl
  | 22, _ => rfl
  | k + 23, hk => exact absurd hk (by omega)
theorem iL_t {k n : Nat} (h : k < n) (hn : n < 2 ^ 31) : iL (nI k) n := ⟨nI_pos (Nat.lt_trans h hn), by rw [nI_clamp (Nat.lt_trans h hn)]; exact h⟩
theorem o_fill {F : Nat} {τ : cT} {n a N : Nat} {v : Int32} (hN : N < 100000) : ∀ (k f i : Nat) (s : cS), i + k = N → k < f → o_J7_fill_53178_5 F τ n a N v (nI N) f (nI i) s = some (va_up s.1 a (fun j => if i ≤ j ∧ j < N then v else s.1 a j), s.2) := by
  intro k
  induction k with
  | zero =>
    intro f i s hi hf
    obtain ⟨f, rfl⟩ : ∃ g, f = g + 1 := ⟨f - 1, by omega⟩
    rw [o_J7_fill_53178_5, if_pos (by rw [show i = N by omega]; exact Int32.le_refl _)]
    refine congrArg some (Prod.ext (funext fun q => ?_) rfl)
    show s.1 q = va_up s.1 a (fun j => if i ≤ j ∧ j < N then v else s.1 a j) q
    by_cases e : q = a
    · subst e
      rw [va_up_self]
      funext j
      rw [if_neg (by omega)]
    · rw [va_up_ne _ _ e]
  | succ k ih =>
    intro f i s hi hf
    obtain ⟨f, rfl⟩ : ∃ g, f = g + 1 := ⟨f - 1, by omega⟩
    rw [o_J7_fill_53178_5, if_neg (nI_ge (show i < N by omega) (by omega)), if_pos (iL_t (show i < N by omega) (by omega)), nI_add, ih f (i + 1) _ (by omega) (by omega)]
    refine congrArg some (Prod.ext (funext fun q => ?_) rfl)
    show va_up (ca s a (nI i) v).1 a (fun j => if i + 1 ≤ j ∧ j < N then v else (ca s a (nI i) v).1 a j) q = va_up s.1 a (fun j => if i ≤ j ∧ j < N then v else s.1 a j) q
    by_cases e : q = a
    · subst e
      rw [va_up_self, va_up_self]
      funext j
      show (if i + 1 ≤ j ∧ j < N then v else (ca s q (nI i) v).1 q j) = _
      unfold ca
      rw [cp_q, nI_clamp (by omega)]
      unfold upd
      by_cases h1 : j = i
      · subst h1; simp; omega
      · by_cases h2 : i + 1 ≤ j ∧ j < N
        · rw [if_pos h2, if_pos (by omega)]
        · rw [if_neg h2, if_neg h1, if_neg (by omega)]
    · rw [va_up_ne _ _ e, va_up_ne _ _ e]
      show (ca s a (nI i) v).1 q = s.1 q
      unfold ca
      exact cp_1 q e
theorem mk_fill {Γ : jg_G} {h : jg_H} {a N : Nat} {v : Int32} (hq : a < h.2) (hc : h.1 a = .inr (0, N, .inl (fun _ => 0))) (hN : N < 100000) : jc Γ mJ7_fill_53178 0 0 0 [some (.ref a), some (.int v), none, none] h (.inl none) (va_up h.1 a (.inr (0, N, .inl (fun i => if i < N then v else 0))), h.2) := by
  have e1 : h = (ct_h h.1 (fun k => if k = a then .inr (0, N) else .inr (8, 0)) (fun _ _ => 0, fun _ _ => none), h.2) := by
    refine Prod.ext (funext fun k => ?_) rfl
    dsimp only
    unfold ct_h
    by_cases e : k = a
    · subst e; simp only [if_true]; rw [if_pos (by decide), hc]; rfl
    · simp only [e, if_false]; rw [if_neg (by decide)]
  have ho := o_fill (F := N + 1) (τ := fun k => if k = a then .inr (0, N) else .inr (8, 0)) (n := h.2) (a := a) (v := v) hN N (N + 1) 0 (fun _ _ => 0, fun _ _ => none) (by omega) (by omega)
  have ht := t_J7_fill_53178 (Γ := Γ) (g := h.1) (N + 1) (fun k => if k = a then .inr (0, N) else .inr (8, 0)) h.2 a N (fun _ _ => 0, fun _ _ => none) v ⟨hq, if_pos rfl⟩ (x := _) (by rw [o_J7_fill_53178, show nI 0 = nI 0 from rfl, ho]; rfl)
  rw [← e1] at ht
  intro Q hQ
  refine ht Q ?_
  have e2 : ((ct_h h.1 (fun k => if k = a then .inr (0, N) else .inr (8, 0)) (va_up (fun _ _ => (0 : Int32)) a (fun j => if 0 ≤ j ∧ j < N then v else 0), fun _ _ => none), h.2) : jg_H) = (va_up h.1 a (.inr (0, N, .inl (fun i => if i < N then v else 0))), h.2) := by
    refine Prod.ext (funext fun k => ?_) rfl
    dsimp only
    unfold ct_h
    by_cases e : k = a
    · subst e
      simp only [if_true]
      rw [va_up_self, va_up_self, if_pos (by decide)]
      show Sum.inr (0, N, Sum.inl _) = _
      refine congrArg (fun z => Sum.inr (0, N, Sum.inl z)) (funext fun j => ?_)
      simp
    · simp only [e, if_false]; rw [if_neg (by decide), va_up_ne _ _ e]
  rw [e2]
  exact hQ
theorem dX0_init_0 : decode cX0_init 0 = .ok (.aload_n 0, 1) := by decide +kernel
theorem dX0_init_1 : decode cX0_init 1 = .ok (.invokespecial 5, 3) := by decide +kernel
theorem dX0_init_4 : decode cX0_init 4 = .ok (.aload_n 0, 1) := by decide +kernel
theorem dX0_init_5 : decode cX0_init 5 = .ok (.iload_n 1, 1) := by decide +kernel
theorem dX0_init_6 : decode cX0_init 6 = .ok (.putfield 11, 3) := by decide +kernel
theorem dX0_init_9 : decode cX0_init 9 = .ok (.aload_n 0, 1) := by decide +kernel
theorem dX0_init_10 : decode cX0_init 10 = .ok (.aload_n 2, 1) := by decide +kernel
theorem dX0_init_11 : decode cX0_init 11 = .ok (.putfield 15, 3) := by decide +kernel
theorem dX0_init_14 : decode cX0_init 14 = .ok (.aload_n 0, 1) := by decide +kernel
theorem dX0_init_15 : decode cX0_init 15 = .ok (.aload_n 3, 1) := by decide +kernel
theorem dX0_init_16 : decode cX0_init 16 = .ok (.putfield 19, 3) := by decide +kernel
theorem dX0_init_19 : decode cX0_init 19 = .ok (.aload_n 0, 1) := by decide +kernel
theorem dX0_init_20 : decode cX0_init 20 = .ok (.aload 4, 2) := by decide +kernel
theorem dX0_init_22 : decode cX0_init 22 = .ok (.putfield 22, 3) := by decide +kernel
theorem dX0_init_25 : decode cX0_init 25 = .ok (.aload_n 0, 1) := by decide +kernel
theorem dX0_init_26 : decode cX0_init 26 = .ok (.aload 5, 2) := by decide +kernel
theorem dX0_init_28 : decode cX0_init 28 = .ok (.putfield 25, 3) := by decide +kernel
theorem dX0_init_31 : decode cX0_init 31 = .ok (.aload_n 0, 1) := by decide +kernel
theorem dX0_init_32 : decode cX0_init 32 = .ok (.aload 6, 2) := by decide +kernel
theorem dX0_init_34 : decode cX0_init 34 = .ok (.putfield 28, 3) := by decide +kernel
theorem dX0_init_37 : decode cX0_init 37 = .ok (.return_, 1) := by decide +kernel
theorem t_X0_init {Γ : jg_G} (h : jg_H) (p : Nat) (x : Int32) (r1 r2 r3 r4 r5 : Nat) (hp : p < h.2) (hc : h.1 p = .inl (0, [.int 0, .null, .null, .null, .null, .null])) : jc Γ mX0_init 1 0 0 [some (.ref p), some (.int x), some (.ref r1), some (.ref r2), some (.ref r3), some (.ref r4), some (.ref r5)] h (.inl none) (va_up h.1 p (.inl (0, [.int x, .ref r1, .ref r2, .ref r3, .ref r4, .ref r5])), h.2) := by
  refine jc_of ?_
  refine jg_aload_n dX0_init_0 rfl ?_
  refine jg_objI ko_X0_5 (jg_m1 36 rfl rfl) (jg_m1 37 rfl rfl) dX0_init_1 (by decide) (Nat.le_of_ble_eq_true rfl) ?_
  refine jg_aload_n dX0_init_4 rfl ?_
  refine jg_iload_n dX0_init_5 rfl ?_
  refine jg_putF (q := p) (fs := [.int 0, .null, .null, .null, .null, .null]) fl_X0_11 rfl rfl dX0_init_6 hp hc (ltb rfl) rfl rfl ?_
  refine jg_hs (S' := []) (h' := (va_up h.1 p (.inl (0, [.int x, .null, .null, .null, .null, .null])), h.2)) rfl (rfl) ?_
  refine jg_aload_n dX0_init_9 rfl ?_
  refine jg_aload_n dX0_init_10 rfl ?_
  refine jg_putF (q := p) (fs := [.int x, .null, .null, .null, .null, .null]) fl_X0_15 rfl rfl dX0_init_11 hp (show va_up h.1 p (.inl (0, [.int x, .null, .null, .null, .null, .null])) p = _ from va_up_self _ _ _) (ltb rfl) rfl rfl ?_
  refine jg_hs (S' := []) (h' := (va_up h.1 p (.inl (0, [.int x, .ref r1, .null, .null, .null, .null])), h.2)) rfl (congrArg (fun z => (z, h.2)) mk_uu) ?_
  refine jg_aload_n dX0_init_14 rfl ?_
  refine jg_aload_n dX0_init_15 rfl ?_
  refine jg_putF (q := p) (fs := [.int x, .ref r1, .null, .null, .null, .null]) fl_X0_19 rfl rfl dX0_init_16 hp (show va_up h.1 p (.inl (0, [.int x, .ref r1, .null, .null, .null, .null])) p = _ from va_up_self _ _ _) (ltb rfl) rfl rfl ?_
  refine jg_hs (S' := []) (h' := (va_up h.1 p (.inl (0, [.int x, .ref r1, .ref r2, .null, .null, .null])), h.2)) rfl (congrArg (fun z => (z, h.2)) mk_uu) ?_
  refine jg_aload_n dX0_init_19 rfl ?_
  refine jg_aload dX0_init_20 rfl ?_
  refine jg_putF (q := p) (fs := [.int x, .ref r1, .ref r2, .null, .null, .null]) fl_X0_22 rfl rfl dX0_init_22 hp (show va_up h.1 p (.inl (0, [.int x, .ref r1, .ref r2, .null, .null, .null])) p = _ from va_up_self _ _ _) (ltb rfl) rfl rfl ?_
  refine jg_hs (S' := []) (h' := (va_up h.1 p (.inl (0, [.int x, .ref r1, .ref r2, .ref r3, .null, .null])), h.2)) rfl (congrArg (fun z => (z, h.2)) mk_uu) ?_
  refine jg_aload_n dX0_init_25 rfl ?_
  refine jg_aload dX0_init_26 rfl ?_
  refine jg_putF (q := p) (fs := [.int x, .ref r1, .ref r2, .ref r3, .null, .null]) fl_X0_25 rfl rfl dX0_init_28 hp (show va_up h.1 p (.inl (0, [.int x, .ref r1, .ref r2, .ref r3, .null, .null])) p = _ from va_up_self _ _ _) (ltb rfl) rfl rfl ?_
  refine jg_hs (S' := []) (h' := (va_up h.1 p (.inl (0, [.int x, .ref r1, .ref r2, .ref r3, .ref r4, .null])), h.2)) rfl (congrArg (fun z => (z, h.2)) mk_uu) ?_
  refine jg_aload_n dX0_init_31 rfl ?_
  refine jg_aload dX0_init_32 rfl ?_
  refine jg_putF (q := p) (fs := [.int x, .ref r1, .ref r2, .ref r3, .ref r4, .null]) fl_X0_28 rfl rfl dX0_init_34 hp (show va_up h.1 p (.inl (0, [.int x, .ref r1, .ref r2, .ref r3, .ref r4, .null])) p = _ from va_up_self _ _ _) (ltb rfl) rfl rfl ?_
  refine jg_hs (S' := []) (h' := (va_up h.1 p (.inl (0, [.int x, .ref r1, .ref r2, .ref r3, .ref r4, .ref r5])), h.2)) rfl (congrArg (fun z => (z, h.2)) mk_uu) ?_
  exact jg_return dX0_init_37 rfl ⟨rfl, rfl⟩
theorem dX9_init_0 : decode cX9_init 0 = .ok (.aload_n 0, 1) := by decide +kernel
theorem dX9_init_1 : decode cX9_init 1 = .ok (.invokespecial 3, 3) := by decide +kernel
theorem dX9_init_4 : decode cX9_init 4 = .ok (.aload_n 0, 1) := by decide +kernel
theorem dX9_init_5 : decode cX9_init 5 = .ok (.aload_n 1, 1) := by decide +kernel
theorem dX9_init_6 : decode cX9_init 6 = .ok (.putfield 9, 3) := by decide +kernel
theorem dX9_init_9 : decode cX9_init 9 = .ok (.return_, 1) := by decide +kernel
theorem t_X9_init {Γ : jg_G} (h : jg_H) (p : Nat) (y : Nat) (hp : p < h.2) (hc : h.1 p = .inl (9, [.int 0, .int 0, .int 0, .int 0, .int 0, .int 0, .int 0, .int 0, .null, .int 0, .int 0, .int 0, .int 0, .int 0, .int 0, .int 0, .int 0, .int 0, .int 0])) : jc Γ mX9_init 1 0 0 [some (.ref p), some (.ref y)] h (.inl none) (va_up h.1 p (.inl (9, [.int 0, .int 0, .int 0, .int 0, .int 0, .int 0, .int 0, .int 0, .ref y, .int 0, .int 0, .int 0, .int 0, .int 0, .int 0, .int 0, .int 0, .int 0, .int 0])), h.2) := by
  refine jc_of ?_
  refine jg_aload_n dX9_init_0 rfl ?_
  refine jg_objI ko_X9_3 (jg_m1 36 rfl rfl) (jg_m1 37 rfl rfl) dX9_init_1 (by decide) (Nat.le_of_ble_eq_true rfl) ?_
  refine jg_aload_n dX9_init_4 rfl ?_
  refine jg_aload_n dX9_init_5 rfl ?_
  refine jg_put (q := p) (fs := [.int 0, .int 0, .int 0, .int 0, .int 0, .int 0, .int 0, .int 0, .null, .int 0, .int 0, .int 0, .int 0, .int 0, .int 0, .int 0, .int 0, .int 0, .int 0]) fl_X9_9 dX9_init_6 hp hc (ltb rfl) rfl rfl ?_
  refine jg_hs (S' := []) (h' := (va_up h.1 p (.inl (9, [.int 0, .int 0, .int 0, .int 0, .int 0, .int 0, .int 0, .int 0, .ref y, .int 0, .int 0, .int 0, .int 0, .int 0, .int 0, .int 0, .int 0, .int 0, .int 0])), h.2)) rfl (rfl) ?_
  exact jg_return dX9_init_9 rfl ⟨rfl, rfl⟩
theorem dX1_init_0 : decode cX1_init 0 = .ok (.aload_n 0, 1) := by decide +kernel
theorem dX1_init_1 : decode cX1_init 1 = .ok (.invokespecial 3, 3) := by decide +kernel
theorem dX1_init_4 : decode cX1_init 4 = .ok (.return_, 1) := by decide +kernel
theorem t_X1_init {Γ : jg_G} (h : jg_H) (p : Nat)  (hp : p < h.2) (hc : h.1 p = .inl (1, [.int 0, .int 0, .int 0, .int 0, .int 0, .int 0, .int 0, .int 0, .int 0])) : jc Γ mX1_init 1 0 0 [some (.ref p)] h (.inl none) h := by
  refine jc_of ?_
  refine jg_aload_n dX1_init_0 rfl ?_
  refine jg_objI ko_X1_3 (jg_m1 36 rfl rfl) (jg_m1 37 rfl rfl) dX1_init_1 (by decide) (Nat.le_of_ble_eq_true rfl) ?_
  exact jg_return dX1_init_4 rfl ⟨rfl, rfl⟩
theorem dX8_init_0 : decode cX8_init 0 = .ok (.aload_n 0, 1) := by decide +kernel
theorem dX8_init_1 : decode cX8_init 1 = .ok (.invokespecial 3, 3) := by decide +kernel
theorem dX8_init_4 : decode cX8_init 4 = .ok (.aload_n 0, 1) := by decide +kernel
theorem dX8_init_5 : decode cX8_init 5 = .ok (.bipush 24, 2) := by decide +kernel
theorem dX8_init_7 : decode cX8_init 7 = .ok (.newarray .int, 2) := by decide +kernel
theorem dX8_init_9 : decode cX8_init 9 = .ok (.putfield 9, 3) := by decide +kernel
theorem dX8_init_12 : decode cX8_init 12 = .ok (.aload_n 0, 1) := by decide +kernel
theorem dX8_init_13 : decode cX8_init 13 = .ok (.bipush 24, 2) := by decide +kernel
theorem dX8_init_15 : decode cX8_init 15 = .ok (.newarray .int, 2) := by decide +kernel
theorem dX8_init_17 : decode cX8_init 17 = .ok (.putfield 15, 3) := by decide +kernel
theorem dX8_init_20 : decode cX8_init 20 = .ok (.aload_n 0, 1) := by decide +kernel
theorem dX8_init_21 : decode cX8_init 21 = .ok (.bipush 24, 2) := by decide +kernel
theorem dX8_init_23 : decode cX8_init 23 = .ok (.newarray .int, 2) := by decide +kernel
theorem dX8_init_25 : decode cX8_init 25 = .ok (.putfield 18, 3) := by decide +kernel
theorem dX8_init_28 : decode cX8_init 28 = .ok (.aload_n 0, 1) := by decide +kernel
theorem dX8_init_29 : decode cX8_init 29 = .ok (.bipush 25, 2) := by decide +kernel
theorem dX8_init_31 : decode cX8_init 31 = .ok (.newarray .int, 2) := by decide +kernel
theorem dX8_init_33 : decode cX8_init 33 = .ok (.putfield 21, 3) := by decide +kernel
theorem dX8_init_36 : decode cX8_init 36 = .ok (.aload_n 0, 1) := by decide +kernel
theorem dX8_init_37 : decode cX8_init 37 = .ok (.bipush 40, 2) := by decide +kernel
theorem dX8_init_39 : decode cX8_init 39 = .ok (.newarray .int, 2) := by decide +kernel
theorem dX8_init_41 : decode cX8_init 41 = .ok (.putfield 24, 3) := by decide +kernel
theorem dX8_init_44 : decode cX8_init 44 = .ok (.aload_n 0, 1) := by decide +kernel
theorem dX8_init_45 : decode cX8_init 45 = .ok (.bipush 40, 2) := by decide +kernel
theorem dX8_init_47 : decode cX8_init 47 = .ok (.newarray .int, 2) := by decide +kernel
theorem dX8_init_49 : decode cX8_init 49 = .ok (.putfield 27, 3) := by decide +kernel
theorem dX8_init_52 : decode cX8_init 52 = .ok (.aload_n 0, 1) := by decide +kernel
theorem dX8_init_53 : decode cX8_init 53 = .ok (.bipush 6, 2) := by decide +kernel
theorem dX8_init_55 : decode cX8_init 55 = .ok (.newarray .int, 2) := by decide +kernel
theorem dX8_init_57 : decode cX8_init 57 = .ok (.putfield 30, 3) := by decide +kernel
theorem dX8_init_60 : decode cX8_init 60 = .ok (.aload_n 0, 1) := by decide +kernel
theorem dX8_init_61 : decode cX8_init 61 = .ok (.bipush 6, 2) := by decide +kernel
theorem dX8_init_63 : decode cX8_init 63 = .ok (.newarray .int, 2) := by decide +kernel
theorem dX8_init_65 : decode cX8_init 65 = .ok (.putfield 33, 3) := by decide +kernel
theorem dX8_init_68 : decode cX8_init 68 = .ok (.aload_n 0, 1) := by decide +kernel
theorem dX8_init_69 : decode cX8_init 69 = .ok (.bipush 6, 2) := by decide +kernel
theorem dX8_init_71 : decode cX8_init 71 = .ok (.newarray .int, 2) := by decide +kernel
theorem dX8_init_73 : decode cX8_init 73 = .ok (.putfield 36, 3) := by decide +kernel
theorem dX8_init_76 : decode cX8_init 76 = .ok (.aload_n 0, 1) := by decide +kernel
theorem dX8_init_77 : decode cX8_init 77 = .ok (.getfield 9, 3) := by decide +kernel
theorem dX8_init_80 : decode cX8_init 80 = .ok (.bipush 20, 2) := by decide +kernel
theorem dX8_init_82 : decode cX8_init 82 = .ok (.invokestatic 39, 3) := by decide +kernel
theorem dX8_init_85 : decode cX8_init 85 = .ok (.aload_n 0, 1) := by decide +kernel
theorem dX8_init_86 : decode cX8_init 86 = .ok (.getfield 15, 3) := by decide +kernel
theorem dX8_init_89 : decode cX8_init 89 = .ok (.bipush 20, 2) := by decide +kernel
theorem dX8_init_91 : decode cX8_init 91 = .ok (.invokestatic 39, 3) := by decide +kernel
theorem dX8_init_94 : decode cX8_init 94 = .ok (.return_, 1) := by decide +kernel
def cRv (q : Nat)  : List jg_C := [.inl (8, [.ref (q + 1), .ref (q + 2), .ref (q + 3), .ref (q + 4), .ref (q + 5), .ref (q + 6), .int 0, .ref (q + 7), .ref (q + 8), .ref (q + 9), .int 0, .int 0, .int 0, .int 0]), .inr (0, 24, .inl (fun i => if i < 24 then nI 20 else 0)), .inr (0, 24, .inl (fun i => if i < 24 then nI 20 else 0)), .inr (0, 24, .inl (fun _ => 0)), .inr (0, 25, .inl (fun _ => 0)), .inr (0, 40, .inl (fun _ => 0)), .inr (0, 40, .inl (fun _ => 0)), .inr (0, 6, .inl (fun _ => 0)), .inr (0, 6, .inl (fun _ => 0)), .inr (0, 6, .inl (fun _ => 0))]
set_option maxHeartbeats 4000000 in
set_option maxRecDepth 20000 in
theorem t_X8_init {Γ : jg_G} (f : Nat → jg_C) (q : Nat)  (hn : q + 10 ≤ 1000000) : jc Γ mX8_init 2 9 195 [some (.ref q)] (apx f q [.inl (8, [.null, .null, .null, .null, .null, .null, .int 0, .null, .null, .null, .int 0, .int 0, .int 0, .int 0])], q + 1) (.inl none) (apx f q (cRv q ), q + 10) := by
  refine jc_of ?_
  refine jg_aload_n dX8_init_0 rfl ?_
  refine jg_objI ko_X8_3 (jg_m1 36 rfl rfl) (jg_m1 37 rfl rfl) dX8_init_1 (by decide) (Nat.le_of_ble_eq_true rfl) ?_
  refine jg_aload_n dX8_init_4 rfl ?_
  refine jg_bipush (v := nI 24) dX8_init_5 (by decide) ?_
  refine jg_newa (at9 := .int) (ki := 0) (N := 24) (by decide) rfl ka_int dX8_init_7 (by decide) (by decide) (by decide) (by show q + 1 < 1000000; omega) (Nat.le_of_ble_eq_true rfl) (Nat.le_of_ble_eq_true rfl) ?_
  refine jg_hs (S' := [.ref (q + 1), .ref q]) (h' := (apx f q ([.inl (8, [.null, .null, .null, .null, .null, .null, .int 0, .null, .null, .null, .int 0, .int 0, .int 0, .int 0]), .inr (0, 24, .inl (fun _ => 0))]), q + 2)) rfl (mk_push rfl rfl) ?_
  refine jg_putF (q := q) fl_X8_9 rfl rfl dX8_init_9 (by show q < q + 2; omega) (app_at (i := 0) rfl) (ltb rfl) rfl rfl ?_
  refine jg_hs (S' := []) (h' := (apx f q ([.inl (8, [.ref (q + 1), .null, .null, .null, .null, .null, .int 0, .null, .null, .null, .int 0, .int 0, .int 0, .int 0]), .inr (0, 24, .inl (fun _ => 0))]), q + 2)) rfl (mk_set (i := 0) (ltb rfl) rfl) ?_
  refine jg_aload_n dX8_init_12 rfl ?_
  refine jg_bipush (v := nI 24) dX8_init_13 (by decide) ?_
  refine jg_newa (at9 := .int) (ki := 0) (N := 24) (by decide) rfl ka_int dX8_init_15 (by decide) (by decide) (by decide) (by show q + 2 < 1000000; omega) (Nat.le_of_ble_eq_true rfl) (Nat.le_of_ble_eq_true rfl) ?_
  refine jg_hs (S' := [.ref (q + 2), .ref q]) (h' := (apx f q ([.inl (8, [.ref (q + 1), .null, .null, .null, .null, .null, .int 0, .null, .null, .null, .int 0, .int 0, .int 0, .int 0]), .inr (0, 24, .inl (fun _ => 0)), .inr (0, 24, .inl (fun _ => 0))]), q + 3)) rfl (mk_push rfl rfl) ?_
  refine jg_putF (q := q) fl_X8_15 rfl rfl dX8_init_17 (by show q < q + 3; omega) (app_at (i := 0) rfl) (ltb rfl) rfl rfl ?_
  refine jg_hs (S' := []) (h' := (apx f q ([.inl (8, [.ref (q + 1), .ref (q + 2), .null, .null, .null, .null, .int 0, .null, .null, .null, .int 0, .int 0, .int 0, .int 0]), .inr (0, 24, .inl (fun _ => 0)), .inr (0, 24, .inl (fun _ => 0))]), q + 3)) rfl (mk_set (i := 0) (ltb rfl) rfl) ?_
  refine jg_aload_n dX8_init_20 rfl ?_
  refine jg_bipush (v := nI 24) dX8_init_21 (by decide) ?_
  refine jg_newa (at9 := .int) (ki := 0) (N := 24) (by decide) rfl ka_int dX8_init_23 (by decide) (by decide) (by decide) (by show q + 3 < 1000000; omega) (Nat.le_of_ble_eq_true rfl) (Nat.le_of_ble_eq_true rfl) ?_
  refine jg_hs (S' := [.ref (q + 3), .ref q]) (h' := (apx f q ([.inl (8, [.ref (q + 1), .ref (q + 2), .null, .null, .null, .null, .int 0, .null, .null, .null, .int 0, .int 0, .int 0, .int 0]), .inr (0, 24, .inl (fun _ => 0)), .inr (0, 24, .inl (fun _ => 0)), .inr (0, 24, .inl (fun _ => 0))]), q + 4)) rfl (mk_push rfl rfl) ?_
  refine jg_putF (q := q) fl_X8_18 rfl rfl dX8_init_25 (by show q < q + 4; omega) (app_at (i := 0) rfl) (ltb rfl) rfl rfl ?_
  refine jg_hs (S' := []) (h' := (apx f q ([.inl (8, [.ref (q + 1), .ref (q + 2), .ref (q + 3), .null, .null, .null, .int 0, .null, .null, .null, .int 0, .int 0, .int 0, .int 0]), .inr (0, 24, .inl (fun _ => 0)), .inr (0, 24, .inl (fun _ => 0)), .inr (0, 24, .inl (fun _ => 0))]), q + 4)) rfl (mk_set (i := 0) (ltb rfl) rfl) ?_
  refine jg_aload_n dX8_init_28 rfl ?_
  refine jg_bipush (v := nI 25) dX8_init_29 (by decide) ?_
  refine jg_newa (at9 := .int) (ki := 0) (N := 25) (by decide) rfl ka_int dX8_init_31 (by decide) (by decide) (by decide) (by show q + 4 < 1000000; omega) (Nat.le_of_ble_eq_true rfl) (Nat.le_of_ble_eq_true rfl) ?_
  refine jg_hs (S' := [.ref (q + 4), .ref q]) (h' := (apx f q ([.inl (8, [.ref (q + 1), .ref (q + 2), .ref (q + 3), .null, .null, .null, .int 0, .null, .null, .null, .int 0, .int 0, .int 0, .int 0]), .inr (0, 24, .inl (fun _ => 0)), .inr (0, 24, .inl (fun _ => 0)), .inr (0, 24, .inl (fun _ => 0)), .inr (0, 25, .inl (fun _ => 0))]), q + 5)) rfl (mk_push rfl rfl) ?_
  refine jg_putF (q := q) fl_X8_21 rfl rfl dX8_init_33 (by show q < q + 5; omega) (app_at (i := 0) rfl) (ltb rfl) rfl rfl ?_
  refine jg_hs (S' := []) (h' := (apx f q ([.inl (8, [.ref (q + 1), .ref (q + 2), .ref (q + 3), .ref (q + 4), .null, .null, .int 0, .null, .null, .null, .int 0, .int 0, .int 0, .int 0]), .inr (0, 24, .inl (fun _ => 0)), .inr (0, 24, .inl (fun _ => 0)), .inr (0, 24, .inl (fun _ => 0)), .inr (0, 25, .inl (fun _ => 0))]), q + 5)) rfl (mk_set (i := 0) (ltb rfl) rfl) ?_
  refine jg_aload_n dX8_init_36 rfl ?_
  refine jg_bipush (v := nI 40) dX8_init_37 (by decide) ?_
  refine jg_newa (at9 := .int) (ki := 0) (N := 40) (by decide) rfl ka_int dX8_init_39 (by decide) (by decide) (by decide) (by show q + 5 < 1000000; omega) (Nat.le_of_ble_eq_true rfl) (Nat.le_of_ble_eq_true rfl) ?_
  refine jg_hs (S' := [.ref (q + 5), .ref q]) (h' := (apx f q ([.inl (8, [.ref (q + 1), .ref (q + 2), .ref (q + 3), .ref (q + 4), .null, .null, .int 0, .null, .null, .null, .int 0, .int 0, .int 0, .int 0]), .inr (0, 24, .inl (fun _ => 0)), .inr (0, 24, .inl (fun _ => 0)), .inr (0, 24, .inl (fun _ => 0)), .inr (0, 25, .inl (fun _ => 0)), .inr (0, 40, .inl (fun _ => 0))]), q + 6)) rfl (mk_push rfl rfl) ?_
  refine jg_putF (q := q) fl_X8_24 rfl rfl dX8_init_41 (by show q < q + 6; omega) (app_at (i := 0) rfl) (ltb rfl) rfl rfl ?_
  refine jg_hs (S' := []) (h' := (apx f q ([.inl (8, [.ref (q + 1), .ref (q + 2), .ref (q + 3), .ref (q + 4), .ref (q + 5), .null, .int 0, .null, .null, .null, .int 0, .int 0, .int 0, .int 0]), .inr (0, 24, .inl (fun _ => 0)), .inr (0, 24, .inl (fun _ => 0)), .inr (0, 24, .inl (fun _ => 0)), .inr (0, 25, .inl (fun _ => 0)), .inr (0, 40, .inl (fun _ => 0))]), q + 6)) rfl (mk_set (i := 0) (ltb rfl) rfl) ?_
  refine jg_aload_n dX8_init_44 rfl ?_
  refine jg_bipush (v := nI 40) dX8_init_45 (by decide) ?_
  refine jg_newa (at9 := .int) (ki := 0) (N := 40) (by decide) rfl ka_int dX8_init_47 (by decide) (by decide) (by decide) (by show q + 6 < 1000000; omega) (Nat.le_of_ble_eq_true rfl) (Nat.le_of_ble_eq_true rfl) ?_
  refine jg_hs (S' := [.ref (q + 6), .ref q]) (h' := (apx f q ([.inl (8, [.ref (q + 1), .ref (q + 2), .ref (q + 3), .ref (q + 4), .ref (q + 5), .null, .int 0, .null, .null, .null, .int 0, .int 0, .int 0, .int 0]), .inr (0, 24, .inl (fun _ => 0)), .inr (0, 24, .inl (fun _ => 0)), .inr (0, 24, .inl (fun _ => 0)), .inr (0, 25, .inl (fun _ => 0)), .inr (0, 40, .inl (fun _ => 0)), .inr (0, 40, .inl (fun _ => 0))]), q + 7)) rfl (mk_push rfl rfl) ?_
  refine jg_putF (q := q) fl_X8_27 rfl rfl dX8_init_49 (by show q < q + 7; omega) (app_at (i := 0) rfl) (ltb rfl) rfl rfl ?_
  refine jg_hs (S' := []) (h' := (apx f q ([.inl (8, [.ref (q + 1), .ref (q + 2), .ref (q + 3), .ref (q + 4), .ref (q + 5), .ref (q + 6), .int 0, .null, .null, .null, .int 0, .int 0, .int 0, .int 0]), .inr (0, 24, .inl (fun _ => 0)), .inr (0, 24, .inl (fun _ => 0)), .inr (0, 24, .inl (fun _ => 0)), .inr (0, 25, .inl (fun _ => 0)), .inr (0, 40, .inl (fun _ => 0)), .inr (0, 40, .inl (fun _ => 0))]), q + 7)) rfl (mk_set (i := 0) (ltb rfl) rfl) ?_
  refine jg_aload_n dX8_init_52 rfl ?_
  refine jg_bipush (v := nI 6) dX8_init_53 (by decide) ?_
  refine jg_newa (at9 := .int) (ki := 0) (N := 6) (by decide) rfl ka_int dX8_init_55 (by decide) (by decide) (by decide) (by show q + 7 < 1000000; omega) (Nat.le_of_ble_eq_true rfl) (Nat.le_of_ble_eq_true rfl) ?_
  refine jg_hs (S' := [.ref (q + 7), .ref q]) (h' := (apx f q ([.inl (8, [.ref (q + 1), .ref (q + 2), .ref (q + 3), .ref (q + 4), .ref (q + 5), .ref (q + 6), .int 0, .null, .null, .null, .int 0, .int 0, .int 0, .int 0]), .inr (0, 24, .inl (fun _ => 0)), .inr (0, 24, .inl (fun _ => 0)), .inr (0, 24, .inl (fun _ => 0)), .inr (0, 25, .inl (fun _ => 0)), .inr (0, 40, .inl (fun _ => 0)), .inr (0, 40, .inl (fun _ => 0)), .inr (0, 6, .inl (fun _ => 0))]), q + 8)) rfl (mk_push rfl rfl) ?_
  refine jg_putF (q := q) fl_X8_30 rfl rfl dX8_init_57 (by show q < q + 8; omega) (app_at (i := 0) rfl) (ltb rfl) rfl rfl ?_
  refine jg_hs (S' := []) (h' := (apx f q ([.inl (8, [.ref (q + 1), .ref (q + 2), .ref (q + 3), .ref (q + 4), .ref (q + 5), .ref (q + 6), .int 0, .ref (q + 7), .null, .null, .int 0, .int 0, .int 0, .int 0]), .inr (0, 24, .inl (fun _ => 0)), .inr (0, 24, .inl (fun _ => 0)), .inr (0, 24, .inl (fun _ => 0)), .inr (0, 25, .inl (fun _ => 0)), .inr (0, 40, .inl (fun _ => 0)), .inr (0, 40, .inl (fun _ => 0)), .inr (0, 6, .inl (fun _ => 0))]), q + 8)) rfl (mk_set (i := 0) (ltb rfl) rfl) ?_
  refine jg_aload_n dX8_init_60 rfl ?_
  refine jg_bipush (v := nI 6) dX8_init_61 (by decide) ?_
  refine jg_newa (at9 := .int) (ki := 0) (N := 6) (by decide) rfl ka_int dX8_init_63 (by decide) (by decide) (by decide) (by show q + 8 < 1000000; omega) (Nat.le_of_ble_eq_true rfl) (Nat.le_of_ble_eq_true rfl) ?_
  refine jg_hs (S' := [.ref (q + 8), .ref q]) (h' := (apx f q ([.inl (8, [.ref (q + 1), .ref (q + 2), .ref (q + 3), .ref (q + 4), .ref (q + 5), .ref (q + 6), .int 0, .ref (q + 7), .null, .null, .int 0, .int 0, .int 0, .int 0]), .inr (0, 24, .inl (fun _ => 0)), .inr (0, 24, .inl (fun _ => 0)), .inr (0, 24, .inl (fun _ => 0)), .inr (0, 25, .inl (fun _ => 0)), .inr (0, 40, .inl (fun _ => 0)), .inr (0, 40, .inl (fun _ => 0)), .inr (0, 6, .inl (fun _ => 0)), .inr (0, 6, .inl (fun _ => 0))]), q + 9)) rfl (mk_push rfl rfl) ?_
  refine jg_putF (q := q) fl_X8_33 rfl rfl dX8_init_65 (by show q < q + 9; omega) (app_at (i := 0) rfl) (ltb rfl) rfl rfl ?_
  refine jg_hs (S' := []) (h' := (apx f q ([.inl (8, [.ref (q + 1), .ref (q + 2), .ref (q + 3), .ref (q + 4), .ref (q + 5), .ref (q + 6), .int 0, .ref (q + 7), .ref (q + 8), .null, .int 0, .int 0, .int 0, .int 0]), .inr (0, 24, .inl (fun _ => 0)), .inr (0, 24, .inl (fun _ => 0)), .inr (0, 24, .inl (fun _ => 0)), .inr (0, 25, .inl (fun _ => 0)), .inr (0, 40, .inl (fun _ => 0)), .inr (0, 40, .inl (fun _ => 0)), .inr (0, 6, .inl (fun _ => 0)), .inr (0, 6, .inl (fun _ => 0))]), q + 9)) rfl (mk_set (i := 0) (ltb rfl) rfl) ?_
  refine jg_aload_n dX8_init_68 rfl ?_
  refine jg_bipush (v := nI 6) dX8_init_69 (by decide) ?_
  refine jg_newa (at9 := .int) (ki := 0) (N := 6) (by decide) rfl ka_int dX8_init_71 (by decide) (by decide) (by decide) (by show q + 9 < 1000000; omega) (Nat.le_of_ble_eq_true rfl) (Nat.le_of_ble_eq_true rfl) ?_
  refine jg_hs (S' := [.ref (q + 9), .ref q]) (h' := (apx f q ([.inl (8, [.ref (q + 1), .ref (q + 2), .ref (q + 3), .ref (q + 4), .ref (q + 5), .ref (q + 6), .int 0, .ref (q + 7), .ref (q + 8), .null, .int 0, .int 0, .int 0, .int 0]), .inr (0, 24, .inl (fun _ => 0)), .inr (0, 24, .inl (fun _ => 0)), .inr (0, 24, .inl (fun _ => 0)), .inr (0, 25, .inl (fun _ => 0)), .inr (0, 40, .inl (fun _ => 0)), .inr (0, 40, .inl (fun _ => 0)), .inr (0, 6, .inl (fun _ => 0)), .inr (0, 6, .inl (fun _ => 0)), .inr (0, 6, .inl (fun _ => 0))]), q + 10)) rfl (mk_push rfl rfl) ?_
  refine jg_putF (q := q) fl_X8_36 rfl rfl dX8_init_73 (by show q < q + 10; omega) (app_at (i := 0) rfl) (ltb rfl) rfl rfl ?_
  refine jg_hs (S' := []) (h' := (apx f q ([.inl (8, [.ref (q + 1), .ref (q + 2), .ref (q + 3), .ref (q + 4), .ref (q + 5), .ref (q + 6), .int 0, .ref (q + 7), .ref (q + 8), .ref (q + 9), .int 0, .int 0, .int 0, .int 0]), .inr (0, 24, .inl (fun _ => 0)), .inr (0, 24, .inl (fun _ => 0)), .inr (0, 24, .inl (fun _ => 0)), .inr (0, 25, .inl (fun _ => 0)), .inr (0, 40, .inl (fun _ => 0)), .inr (0, 40, .inl (fun _ => 0)), .inr (0, 6, .inl (fun _ => 0)), .inr (0, 6, .inl (fun _ => 0)), .inr (0, 6, .inl (fun _ => 0))]), q + 10)) rfl (mk_set (i := 0) (ltb rfl) rfl) ?_
  refine jg_aload_n dX8_init_76 rfl ?_
  refine jg_get (q := q) (v := .ref (q + 1)) fl_X8_9 dX8_init_77 (by show q < q + 10; omega) (app_at (i := 0) rfl) rfl ?_
  refine jg_bipush (v := nI 20) dX8_init_80 (by decide) ?_
  refine jc_S (As := [.ref (q + 1), .int (nI 20)]) (a' := 0) (b' := 0) ks_X8_39 dX8_init_82 rfl (by decide) (Nat.le_of_ble_eq_true rfl) rfl (by decide) (Nat.zero_le _) (Nat.zero_le _) (Nat.le_of_ble_eq_true rfl) (mk_fill (N := 24) (by show (q + 1) < q + 10; omega) (app_at (i := 1) rfl) (by decide)) ?_
  refine jg_hs (S' := []) (h' := (apx f q ([.inl (8, [.ref (q + 1), .ref (q + 2), .ref (q + 3), .ref (q + 4), .ref (q + 5), .ref (q + 6), .int 0, .ref (q + 7), .ref (q + 8), .ref (q + 9), .int 0, .int 0, .int 0, .int 0]), .inr (0, 24, .inl (fun i => if i < 24 then nI 20 else 0)), .inr (0, 24, .inl (fun _ => 0)), .inr (0, 24, .inl (fun _ => 0)), .inr (0, 25, .inl (fun _ => 0)), .inr (0, 40, .inl (fun _ => 0)), .inr (0, 40, .inl (fun _ => 0)), .inr (0, 6, .inl (fun _ => 0)), .inr (0, 6, .inl (fun _ => 0)), .inr (0, 6, .inl (fun _ => 0))]), q + 10)) rfl (mk_set (i := 1) (ltb rfl) rfl) ?_
  refine jg_aload_n dX8_init_85 rfl ?_
  refine jg_get (q := q) (v := .ref (q + 2)) fl_X8_15 dX8_init_86 (by show q < q + 10; omega) (app_at (i := 0) rfl) rfl ?_
  refine jg_bipush (v := nI 20) dX8_init_89 (by decide) ?_
  refine jc_S (As := [.ref (q + 2), .int (nI 20)]) (a' := 0) (b' := 0) ks_X8_39 dX8_init_91 rfl (by decide) (Nat.le_of_ble_eq_true rfl) rfl (by decide) (Nat.zero_le _) (Nat.zero_le _) (Nat.le_of_ble_eq_true rfl) (mk_fill (N := 24) (by show (q + 2) < q + 10; omega) (app_at (i := 2) rfl) (by decide)) ?_
  refine jg_hs (S' := []) (h' := (apx f q ([.inl (8, [.ref (q + 1), .ref (q + 2), .ref (q + 3), .ref (q + 4), .ref (q + 5), .ref (q + 6), .int 0, .ref (q + 7), .ref (q + 8), .ref (q + 9), .int 0, .int 0, .int 0, .int 0]), .inr (0, 24, .inl (fun i => if i < 24 then nI 20 else 0)), .inr (0, 24, .inl (fun i => if i < 24 then nI 20 else 0)), .inr (0, 24, .inl (fun _ => 0)), .inr (0, 25, .inl (fun _ => 0)), .inr (0, 40, .inl (fun _ => 0)), .inr (0, 40, .inl (fun _ => 0)), .inr (0, 6, .inl (fun _ => 0)), .inr (0, 6, .inl (fun _ => 0)), .inr (0, 6, .inl (fun _ => 0))]), q + 10)) rfl (mk_set (i := 2) (ltb rfl) rfl) ?_
  exact jg_return dX8_init_94 rfl ⟨rfl, rfl⟩
theorem dX10_init_0 : decode cX10_init 0 = .ok (.aload_n 0, 1) := by decide +kernel
theorem dX10_init_1 : decode cX10_init 1 = .ok (.invokespecial 3, 3) := by decide +kernel
theorem dX10_init_4 : decode cX10_init 4 = .ok (.aload_n 0, 1) := by decide +kernel
theorem dX10_init_5 : decode cX10_init 5 = .ok (.sipush 200, 3) := by decide +kernel
theorem dX10_init_8 : decode cX10_init 8 = .ok (.newarray .int, 2) := by decide +kernel
theorem dX10_init_10 : decode cX10_init 10 = .ok (.putfield 9, 3) := by decide +kernel
theorem dX10_init_13 : decode cX10_init 13 = .ok (.aload_n 0, 1) := by decide +kernel
theorem dX10_init_14 : decode cX10_init 14 = .ok (.sipush 200, 3) := by decide +kernel
theorem dX10_init_17 : decode cX10_init 17 = .ok (.newarray .int, 2) := by decide +kernel
theorem dX10_init_19 : decode cX10_init 19 = .ok (.putfield 15, 3) := by decide +kernel
theorem dX10_init_22 : decode cX10_init 22 = .ok (.aload_n 0, 1) := by decide +kernel
theorem dX10_init_23 : decode cX10_init 23 = .ok (.sipush 200, 3) := by decide +kernel
theorem dX10_init_26 : decode cX10_init 26 = .ok (.newarray .int, 2) := by decide +kernel
theorem dX10_init_28 : decode cX10_init 28 = .ok (.putfield 18, 3) := by decide +kernel
theorem dX10_init_31 : decode cX10_init 31 = .ok (.aload_n 0, 1) := by decide +kernel
theorem dX10_init_32 : decode cX10_init 32 = .ok (.sipush 200, 3) := by decide +kernel
theorem dX10_init_35 : decode cX10_init 35 = .ok (.newarray .int, 2) := by decide +kernel
theorem dX10_init_37 : decode cX10_init 37 = .ok (.putfield 21, 3) := by decide +kernel
theorem dX10_init_40 : decode cX10_init 40 = .ok (.aload_n 0, 1) := by decide +kernel
theorem dX10_init_41 : decode cX10_init 41 = .ok (.bipush 24, 2) := by decide +kernel
theorem dX10_init_43 : decode cX10_init 43 = .ok (.newarray .int, 2) := by decide +kernel
theorem dX10_init_45 : decode cX10_init 45 = .ok (.putfield 24, 3) := by decide +kernel
theorem dX10_init_48 : decode cX10_init 48 = .ok (.aload_n 0, 1) := by decide +kernel
theorem dX10_init_49 : decode cX10_init 49 = .ok (.getfield 24, 3) := by decide +kernel
theorem dX10_init_52 : decode cX10_init 52 = .ok (.iconst (-1), 1) := by decide +kernel
theorem dX10_init_53 : decode cX10_init 53 = .ok (.invokestatic 27, 3) := by decide +kernel
theorem dX10_init_56 : decode cX10_init 56 = .ok (.return_, 1) := by decide +kernel
def cSd (q : Nat)  : List jg_C := [.inl (10, [.ref (q + 1), .ref (q + 2), .ref (q + 3), .ref (q + 4), .int 0, .ref (q + 5)]), .inr (0, 200, .inl (fun _ => 0)), .inr (0, 200, .inl (fun _ => 0)), .inr (0, 200, .inl (fun _ => 0)), .inr (0, 200, .inl (fun _ => 0)), .inr (0, 24, .inl (fun i => if i < 24 then (-1) else 0))]
set_option maxHeartbeats 4000000 in
set_option maxRecDepth 20000 in
theorem t_X10_init {Γ : jg_G} (f : Nat → jg_C) (q : Nat)  (hn : q + 6 ≤ 1000000) : jc Γ mX10_init 2 5 824 [some (.ref q)] (apx f q [.inl (10, [.null, .null, .null, .null, .int 0, .null])], q + 1) (.inl none) (apx f q (cSd q ), q + 6) := by
  refine jc_of ?_
  refine jg_aload_n dX10_init_0 rfl ?_
  refine jg_objI ko_X10_3 (jg_m1 36 rfl rfl) (jg_m1 37 rfl rfl) dX10_init_1 (by decide) (Nat.le_of_ble_eq_true rfl) ?_
  refine jg_aload_n dX10_init_4 rfl ?_
  refine jg_sipush (v := nI 200) dX10_init_5 (by decide) ?_
  refine jg_newa (at9 := .int) (ki := 0) (N := 200) (by decide) rfl ka_int dX10_init_8 (by decide) (by decide) (by decide) (by show q + 1 < 1000000; omega) (Nat.le_of_ble_eq_true rfl) (Nat.le_of_ble_eq_true rfl) ?_
  refine jg_hs (S' := [.ref (q + 1), .ref q]) (h' := (apx f q ([.inl (10, [.null, .null, .null, .null, .int 0, .null]), .inr (0, 200, .inl (fun _ => 0))]), q + 2)) rfl (mk_push rfl rfl) ?_
  refine jg_putF (q := q) fl_X10_9 rfl rfl dX10_init_10 (by show q < q + 2; omega) (app_at (i := 0) rfl) (ltb rfl) rfl rfl ?_
  refine jg_hs (S' := []) (h' := (apx f q ([.inl (10, [.ref (q + 1), .null, .null, .null, .int 0, .null]), .inr (0, 200, .inl (fun _ => 0))]), q + 2)) rfl (mk_set (i := 0) (ltb rfl) rfl) ?_
  refine jg_aload_n dX10_init_13 rfl ?_
  refine jg_sipush (v := nI 200) dX10_init_14 (by decide) ?_
  refine jg_newa (at9 := .int) (ki := 0) (N := 200) (by decide) rfl ka_int dX10_init_17 (by decide) (by decide) (by decide) (by show q + 2 < 1000000; omega) (Nat.le_of_ble_eq_true rfl) (Nat.le_of_ble_eq_true rfl) ?_
  refine jg_hs (S' := [.ref (q + 2), .ref q]) (h' := (apx f q ([.inl (10, [.ref (q + 1), .null, .null, .null, .int 0, .null]), .inr (0, 200, .inl (fun _ => 0)), .inr (0, 200, .inl (fun _ => 0))]), q + 3)) rfl (mk_push rfl rfl) ?_
  refine jg_putF (q := q) fl_X10_15 rfl rfl dX10_init_19 (by show q < q + 3; omega) (app_at (i := 0) rfl) (ltb rfl) rfl rfl ?_
  refine jg_hs (S' := []) (h' := (apx f q ([.inl (10, [.ref (q + 1), .ref (q + 2), .null, .null, .int 0, .null]), .inr (0, 200, .inl (fun _ => 0)), .inr (0, 200, .inl (fun _ => 0))]), q + 3)) rfl (mk_set (i := 0) (ltb rfl) rfl) ?_
  refine jg_aload_n dX10_init_22 rfl ?_
  refine jg_sipush (v := nI 200) dX10_init_23 (by decide) ?_
  refine jg_newa (at9 := .int) (ki := 0) (N := 200) (by decide) rfl ka_int dX10_init_26 (by decide) (by decide) (by decide) (by show q + 3 < 1000000; omega) (Nat.le_of_ble_eq_true rfl) (Nat.le_of_ble_eq_true rfl) ?_
  refine jg_hs (S' := [.ref (q + 3), .ref q]) (h' := (apx f q ([.inl (10, [.ref (q + 1), .ref (q + 2), .null, .null, .int 0, .null]), .inr (0, 200, .inl (fun _ => 0)), .inr (0, 200, .inl (fun _ => 0)), .inr (0, 200, .inl (fun _ => 0))]), q + 4)) rfl (mk_push rfl rfl) ?_
  refine jg_putF (q := q) fl_X10_18 rfl rfl dX10_init_28 (by show q < q + 4; omega) (app_at (i := 0) rfl) (ltb rfl) rfl rfl ?_
  refine jg_hs (S' := []) (h' := (apx f q ([.inl (10, [.ref (q + 1), .ref (q + 2), .ref (q + 3), .null, .int 0, .null]), .inr (0, 200, .inl (fun _ => 0)), .inr (0, 200, .inl (fun _ => 0)), .inr (0, 200, .inl (fun _ => 0))]), q + 4)) rfl (mk_set (i := 0) (ltb rfl) rfl) ?_
  refine jg_aload_n dX10_init_31 rfl ?_
  refine jg_sipush (v := nI 200) dX10_init_32 (by decide) ?_
  refine jg_newa (at9 := .int) (ki := 0) (N := 200) (by decide) rfl ka_int dX10_init_35 (by decide) (by decide) (by decide) (by show q + 4 < 1000000; omega) (Nat.le_of_ble_eq_true rfl) (Nat.le_of_ble_eq_true rfl) ?_
  refine jg_hs (S' := [.ref (q + 4), .ref q]) (h' := (apx f q ([.inl (10, [.ref (q + 1), .ref (q + 2), .ref (q + 3), .null, .int 0, .null]), .inr (0, 200, .inl (fun _ => 0)), .inr (0, 200, .inl (fun _ => 0)), .inr (0, 200, .inl (fun _ => 0)), .inr (0, 200, .inl (fun _ => 0))]), q + 5)) rfl (mk_push rfl rfl) ?_
  refine jg_putF (q := q) fl_X10_21 rfl rfl dX10_init_37 (by show q < q + 5; omega) (app_at (i := 0) rfl) (ltb rfl) rfl rfl ?_
  refine jg_hs (S' := []) (h' := (apx f q ([.inl (10, [.ref (q + 1), .ref (q + 2), .ref (q + 3), .ref (q + 4), .int 0, .null]), .inr (0, 200, .inl (fun _ => 0)), .inr (0, 200, .inl (fun _ => 0)), .inr (0, 200, .inl (fun _ => 0)), .inr (0, 200, .inl (fun _ => 0))]), q + 5)) rfl (mk_set (i := 0) (ltb rfl) rfl) ?_
  refine jg_aload_n dX10_init_40 rfl ?_
  refine jg_bipush (v := nI 24) dX10_init_41 (by decide) ?_
  refine jg_newa (at9 := .int) (ki := 0) (N := 24) (by decide) rfl ka_int dX10_init_43 (by decide) (by decide) (by decide) (by show q + 5 < 1000000; omega) (Nat.le_of_ble_eq_true rfl) (Nat.le_of_ble_eq_true rfl) ?_
  refine jg_hs (S' := [.ref (q + 5), .ref q]) (h' := (apx f q ([.inl (10, [.ref (q + 1), .ref (q + 2), .ref (q + 3), .ref (q + 4), .int 0, .null]), .inr (0, 200, .inl (fun _ => 0)), .inr (0, 200, .inl (fun _ => 0)), .inr (0, 200, .inl (fun _ => 0)), .inr (0, 200, .inl (fun _ => 0)), .inr (0, 24, .inl (fun _ => 0))]), q + 6)) rfl (mk_push rfl rfl) ?_
  refine jg_putF (q := q) fl_X10_24 rfl rfl dX10_init_45 (by show q < q + 6; omega) (app_at (i := 0) rfl) (ltb rfl) rfl rfl ?_
  refine jg_hs (S' := []) (h' := (apx f q ([.inl (10, [.ref (q + 1), .ref (q + 2), .ref (q + 3), .ref (q + 4), .int 0, .ref (q + 5)]), .inr (0, 200, .inl (fun _ => 0)), .inr (0, 200, .inl (fun _ => 0)), .inr (0, 200, .inl (fun _ => 0)), .inr (0, 200, .inl (fun _ => 0)), .inr (0, 24, .inl (fun _ => 0))]), q + 6)) rfl (mk_set (i := 0) (ltb rfl) rfl) ?_
  refine jg_aload_n dX10_init_48 rfl ?_
  refine jg_get (q := q) (v := .ref (q + 5)) fl_X10_24 dX10_init_49 (by show q < q + 6; omega) (app_at (i := 0) rfl) rfl ?_
  refine jg_iconst (v := (-1)) dX10_init_52 (by decide) ?_
  refine jc_S (As := [.ref (q + 5), .int (-1)]) (a' := 0) (b' := 0) ks_X10_27 dX10_init_53 rfl (by decide) (Nat.le_of_ble_eq_true rfl) rfl (by decide) (Nat.zero_le _) (Nat.zero_le _) (Nat.le_of_ble_eq_true rfl) (mk_fill (N := 24) (by show (q + 5) < q + 6; omega) (app_at (i := 5) rfl) (by decide)) ?_
  refine jg_hs (S' := []) (h' := (apx f q ([.inl (10, [.ref (q + 1), .ref (q + 2), .ref (q + 3), .ref (q + 4), .int 0, .ref (q + 5)]), .inr (0, 200, .inl (fun _ => 0)), .inr (0, 200, .inl (fun _ => 0)), .inr (0, 200, .inl (fun _ => 0)), .inr (0, 200, .inl (fun _ => 0)), .inr (0, 24, .inl (fun i => if i < 24 then (-1) else 0))]), q + 6)) rfl (mk_set (i := 5) (ltb rfl) rfl) ?_
  exact jg_return dX10_init_56 rfl ⟨rfl, rfl⟩
theorem dX6_init_0 : decode cX6_init 0 = .ok (.aload_n 0, 1) := by decide +kernel
theorem dX6_init_1 : decode cX6_init 1 = .ok (.invokespecial 3, 3) := by decide +kernel
theorem dX6_init_4 : decode cX6_init 4 = .ok (.aload_n 0, 1) := by decide +kernel
theorem dX6_init_5 : decode cX6_init 5 = .ok (.bipush 30, 2) := by decide +kernel
theorem dX6_init_7 : decode cX6_init 7 = .ok (.newarray .int, 2) := by decide +kernel
theorem dX6_init_9 : decode cX6_init 9 = .ok (.putfield 9, 3) := by decide +kernel
theorem dX6_init_12 : decode cX6_init 12 = .ok (.aload_n 0, 1) := by decide +kernel
theorem dX6_init_13 : decode cX6_init 13 = .ok (.bipush 30, 2) := by decide +kernel
theorem dX6_init_15 : decode cX6_init 15 = .ok (.newarray .int, 2) := by decide +kernel
theorem dX6_init_17 : decode cX6_init 17 = .ok (.putfield 15, 3) := by decide +kernel
theorem dX6_init_20 : decode cX6_init 20 = .ok (.aload_n 0, 1) := by decide +kernel
theorem dX6_init_21 : decode cX6_init 21 = .ok (.bipush 30, 2) := by decide +kernel
theorem dX6_init_23 : decode cX6_init 23 = .ok (.newarray .int, 2) := by decide +kernel
theorem dX6_init_25 : decode cX6_init 25 = .ok (.putfield 18, 3) := by decide +kernel
theorem dX6_init_28 : decode cX6_init 28 = .ok (.aload_n 0, 1) := by decide +kernel
theorem dX6_init_29 : decode cX6_init 29 = .ok (.bipush 20, 2) := by decide +kernel
theorem dX6_init_31 : decode cX6_init 31 = .ok (.newarray .int, 2) := by decide +kernel
theorem dX6_init_33 : decode cX6_init 33 = .ok (.putfield 21, 3) := by decide +kernel
theorem dX6_init_36 : decode cX6_init 36 = .ok (.aload_n 0, 1) := by decide +kernel
theorem dX6_init_37 : decode cX6_init 37 = .ok (.bipush 20, 2) := by decide +kernel
theorem dX6_init_39 : decode cX6_init 39 = .ok (.newarray .int, 2) := by decide +kernel
theorem dX6_init_41 : decode cX6_init 41 = .ok (.putfield 24, 3) := by decide +kernel
theorem dX6_init_44 : decode cX6_init 44 = .ok (.aload_n 0, 1) := by decide +kernel
theorem dX6_init_45 : decode cX6_init 45 = .ok (.bipush 20, 2) := by decide +kernel
theorem dX6_init_47 : decode cX6_init 47 = .ok (.newarray .int, 2) := by decide +kernel
theorem dX6_init_49 : decode cX6_init 49 = .ok (.putfield 27, 3) := by decide +kernel
theorem dX6_init_52 : decode cX6_init 52 = .ok (.aload_n 0, 1) := by decide +kernel
theorem dX6_init_53 : decode cX6_init 53 = .ok (.bipush 20, 2) := by decide +kernel
theorem dX6_init_55 : decode cX6_init 55 = .ok (.newarray .int, 2) := by decide +kernel
theorem dX6_init_57 : decode cX6_init 57 = .ok (.putfield 30, 3) := by decide +kernel
theorem dX6_init_60 : decode cX6_init 60 = .ok (.aload_n 0, 1) := by decide +kernel
theorem dX6_init_61 : decode cX6_init 61 = .ok (.bipush 20, 2) := by decide +kernel
theorem dX6_init_63 : decode cX6_init 63 = .ok (.newarray .int, 2) := by decide +kernel
theorem dX6_init_65 : decode cX6_init 65 = .ok (.putfield 33, 3) := by decide +kernel
theorem dX6_init_68 : decode cX6_init 68 = .ok (.aload_n 0, 1) := by decide +kernel
theorem dX6_init_69 : decode cX6_init 69 = .ok (.bipush 20, 2) := by decide +kernel
theorem dX6_init_71 : decode cX6_init 71 = .ok (.newarray .int, 2) := by decide +kernel
theorem dX6_init_73 : decode cX6_init 73 = .ok (.putfield 36, 3) := by decide +kernel
theorem dX6_init_76 : decode cX6_init 76 = .ok (.return_, 1) := by decide +kernel
def cPu (q : Nat)  : List jg_C := [.inl (6, [.int 0, .int 0, .int 0, .ref (q + 1), .ref (q + 2), .ref (q + 3), .int 0, .ref (q + 4), .ref (q + 5), .ref (q + 6), .ref (q + 7), .ref (q + 8), .ref (q + 9), .int 0]), .inr (0, 30, .inl (fun _ => 0)), .inr (0, 30, .inl (fun _ => 0)), .inr (0, 30, .inl (fun _ => 0)), .inr (0, 20, .inl (fun _ => 0)), .inr (0, 20, .inl (fun _ => 0)), .inr (0, 20, .inl (fun _ => 0)), .inr (0, 20, .inl (fun _ => 0)), .inr (0, 20, .inl (fun _ => 0)), .inr (0, 20, .inl (fun _ => 0))]
set_option maxHeartbeats 4000000 in
set_option maxRecDepth 20000 in
theorem t_X6_init {Γ : jg_G} (f : Nat → jg_C) (q : Nat)  (hn : q + 10 ≤ 1000000) : jc Γ mX6_init 2 9 210 [some (.ref q)] (apx f q [.inl (6, [.int 0, .int 0, .int 0, .null, .null, .null, .int 0, .null, .null, .null, .null, .null, .null, .int 0])], q + 1) (.inl none) (apx f q (cPu q ), q + 10) := by
  refine jc_of ?_
  refine jg_aload_n dX6_init_0 rfl ?_
  refine jg_objI ko_X6_3 (jg_m1 36 rfl rfl) (jg_m1 37 rfl rfl) dX6_init_1 (by decide) (Nat.le_of_ble_eq_true rfl) ?_
  refine jg_aload_n dX6_init_4 rfl ?_
  refine jg_bipush (v := nI 30) dX6_init_5 (by decide) ?_
  refine jg_newa (at9 := .int) (ki := 0) (N := 30) (by decide) rfl ka_int dX6_init_7 (by decide) (by decide) (by decide) (by show q + 1 < 1000000; omega) (Nat.le_of_ble_eq_true rfl) (Nat.le_of_ble_eq_true rfl) ?_
  refine jg_hs (S' := [.ref (q + 1), .ref q]) (h' := (apx f q ([.inl (6, [.int 0, .int 0, .int 0, .null, .null, .null, .int 0, .null, .null, .null, .null, .null, .null, .int 0]), .inr (0, 30, .inl (fun _ => 0))]), q + 2)) rfl (mk_push rfl rfl) ?_
  refine jg_putF (q := q) fl_X6_9 rfl rfl dX6_init_9 (by show q < q + 2; omega) (app_at (i := 0) rfl) (ltb rfl) rfl rfl ?_
  refine jg_hs (S' := []) (h' := (apx f q ([.inl (6, [.int 0, .int 0, .int 0, .ref (q + 1), .null, .null, .int 0, .null, .null, .null, .null, .null, .null, .int 0]), .inr (0, 30, .inl (fun _ => 0))]), q + 2)) rfl (mk_set (i := 0) (ltb rfl) rfl) ?_
  refine jg_aload_n dX6_init_12 rfl ?_
  refine jg_bipush (v := nI 30) dX6_init_13 (by decide) ?_
  refine jg_newa (at9 := .int) (ki := 0) (N := 30) (by decide) rfl ka_int dX6_init_15 (by decide) (by decide) (by decide) (by show q + 2 < 1000000; omega) (Nat.le_of_ble_eq_true rfl) (Nat.le_of_ble_eq_true rfl) ?_
  refine jg_hs (S' := [.ref (q + 2), .ref q]) (h' := (apx f q ([.inl (6, [.int 0, .int 0, .int 0, .ref (q + 1), .null, .null, .int 0, .null, .null, .null, .null, .null, .null, .int 0]), .inr (0, 30, .inl (fun _ => 0)), .inr (0, 30, .inl (fun _ => 0))]), q + 3)) rfl (mk_push rfl rfl) ?_
  refine jg_putF (q := q) fl_X6_15 rfl rfl dX6_init_17 (by show q < q + 3; omega) (app_at (i := 0) rfl) (ltb rfl) rfl rfl ?_
  refine jg_hs (S' := []) (h' := (apx f q ([.inl (6, [.int 0, .int 0, .int 0, .ref (q + 1), .ref (q + 2), .null, .int 0, .null, .null, .null, .null, .null, .null, .int 0]), .inr (0, 30, .inl (fun _ => 0)), .inr (0, 30, .inl (fun _ => 0))]), q + 3)) rfl (mk_set (i := 0) (ltb rfl) rfl) ?_
  refine jg_aload_n dX6_init_20 rfl ?_
  refine jg_bipush (v := nI 30) dX6_init_21 (by decide) ?_
  refine jg_newa (at9 := .int) (ki := 0) (N := 30) (by decide) rfl ka_int dX6_init_23 (by decide) (by decide) (by decide) (by show q + 3 < 1000000; omega) (Nat.le_of_ble_eq_true rfl) (Nat.le_of_ble_eq_true rfl) ?_
  refine jg_hs (S' := [.ref (q + 3), .ref q]) (h' := (apx f q ([.inl (6, [.int 0, .int 0, .int 0, .ref (q + 1), .ref (q + 2), .null, .int 0, .null, .null, .null, .null, .null, .null, .int 0]), .inr (0, 30, .inl (fun _ => 0)), .inr (0, 30, .inl (fun _ => 0)), .inr (0, 30, .inl (fun _ => 0))]), q + 4)) rfl (mk_push rfl rfl) ?_
  refine jg_putF (q := q) fl_X6_18 rfl rfl dX6_init_25 (by show q < q + 4; omega) (app_at (i := 0) rfl) (ltb rfl) rfl rfl ?_
  refine jg_hs (S' := []) (h' := (apx f q ([.inl (6, [.int 0, .int 0, .int 0, .ref (q + 1), .ref (q + 2), .ref (q + 3), .int 0, .null, .null, .null, .null, .null, .null, .int 0]), .inr (0, 30, .inl (fun _ => 0)), .inr (0, 30, .inl (fun _ => 0)), .inr (0, 30, .inl (fun _ => 0))]), q + 4)) rfl (mk_set (i := 0) (ltb rfl) rfl) ?_
  refine jg_aload_n dX6_init_28 rfl ?_
  refine jg_bipush (v := nI 20) dX6_init_29 (by decide) ?_
  refine jg_newa (at9 := .int) (ki := 0) (N := 20) (by decide) rfl ka_int dX6_init_31 (by decide) (by decide) (by decide) (by show q + 4 < 1000000; omega) (Nat.le_of_ble_eq_true rfl) (Nat.le_of_ble_eq_true rfl) ?_
  refine jg_hs (S' := [.ref (q + 4), .ref q]) (h' := (apx f q ([.inl (6, [.int 0, .int 0, .int 0, .ref (q + 1), .ref (q + 2), .ref (q + 3), .int 0, .null, .null, .null, .null, .null, .null, .int 0]), .inr (0, 30, .inl (fun _ => 0)), .inr (0, 30, .inl (fun _ => 0)), .inr (0, 30, .inl (fun _ => 0)), .inr (0, 20, .inl (fun _ => 0))]), q + 5)) rfl (mk_push rfl rfl) ?_
  refine jg_putF (q := q) fl_X6_21 rfl rfl dX6_init_33 (by show q < q + 5; omega) (app_at (i := 0) rfl) (ltb rfl) rfl rfl ?_
  refine jg_hs (S' := []) (h' := (apx f q ([.inl (6, [.int 0, .int 0, .int 0, .ref (q + 1), .ref (q + 2), .ref (q + 3), .int 0, .ref (q + 4), .null, .null, .null, .null, .null, .int 0]), .inr (0, 30, .inl (fun _ => 0)), .inr (0, 30, .inl (fun _ => 0)), .inr (0, 30, .inl (fun _ => 0)), .inr (0, 20, .inl (fun _ => 0))]), q + 5)) rfl (mk_set (i := 0) (ltb rfl) rfl) ?_
  refine jg_aload_n dX6_init_36 rfl ?_
  refine jg_bipush (v := nI 20) dX6_init_37 (by decide) ?_
  refine jg_newa (at9 := .int) (ki := 0) (N := 20) (by decide) rfl ka_int dX6_init_39 (by decide) (by decide) (by decide) (by show q + 5 < 1000000; omega) (Nat.le_of_ble_eq_true rfl) (Nat.le_of_ble_eq_true rfl) ?_
  refine jg_hs (S' := [.ref (q + 5), .ref q]) (h' := (apx f q ([.inl (6, [.int 0, .int 0, .int 0, .ref (q + 1), .ref (q + 2), .ref (q + 3), .int 0, .ref (q + 4), .null, .null, .null, .null, .null, .int 0]), .inr (0, 30, .inl (fun _ => 0)), .inr (0, 30, .inl (fun _ => 0)), .inr (0, 30, .inl (fun _ => 0)), .inr (0, 20, .inl (fun _ => 0)), .inr (0, 20, .inl (fun _ => 0))]), q + 6)) rfl (mk_push rfl rfl) ?_
  refine jg_putF (q := q) fl_X6_24 rfl rfl dX6_init_41 (by show q < q + 6; omega) (app_at (i := 0) rfl) (ltb rfl) rfl rfl ?_
  refine jg_hs (S' := []) (h' := (apx f q ([.inl (6, [.int 0, .int 0, .int 0, .ref (q + 1), .ref (q + 2), .ref (q + 3), .int 0, .ref (q + 4), .ref (q + 5), .null, .null, .null, .null, .int 0]), .inr (0, 30, .inl (fun _ => 0)), .inr (0, 30, .inl (fun _ => 0)), .inr (0, 30, .inl (fun _ => 0)), .inr (0, 20, .inl (fun _ => 0)), .inr (0, 20, .inl (fun _ => 0))]), q + 6)) rfl (mk_set (i := 0) (ltb rfl) rfl) ?_
  refine jg_aload_n dX6_init_44 rfl ?_
  refine jg_bipush (v := nI 20) dX6_init_45 (by decide) ?_
  refine jg_newa (at9 := .int) (ki := 0) (N := 20) (by decide) rfl ka_int dX6_init_47 (by decide) (by decide) (by decide) (by show q + 6 < 1000000; omega) (Nat.le_of_ble_eq_true rfl) (Nat.le_of_ble_eq_true rfl) ?_
  refine jg_hs (S' := [.ref (q + 6), .ref q]) (h' := (apx f q ([.inl (6, [.int 0, .int 0, .int 0, .ref (q + 1), .ref (q + 2), .ref (q + 3), .int 0, .ref (q + 4), .ref (q + 5), .null, .null, .null, .null, .int 0]), .inr (0, 30, .inl (fun _ => 0)), .inr (0, 30, .inl (fun _ => 0)), .inr (0, 30, .inl (fun _ => 0)), .inr (0, 20, .inl (fun _ => 0)), .inr (0, 20, .inl (fun _ => 0)), .inr (0, 20, .inl (fun _ => 0))]), q + 7)) rfl (mk_push rfl rfl) ?_
  refine jg_putF (q := q) fl_X6_27 rfl rfl dX6_init_49 (by show q < q + 7; omega) (app_at (i := 0) rfl) (ltb rfl) rfl rfl ?_
  refine jg_hs (S' := []) (h' := (apx f q ([.inl (6, [.int 0, .int 0, .int 0, .ref (q + 1), .ref (q + 2), .ref (q + 3), .int 0, .ref (q + 4), .ref (q + 5), .ref (q + 6), .null, .null, .null, .int 0]), .inr (0, 30, .inl (fun _ => 0)), .inr (0, 30, .inl (fun _ => 0)), .inr (0, 30, .inl (fun _ => 0)), .inr (0, 20, .inl (fun _ => 0)), .inr (0, 20, .inl (fun _ => 0)), .inr (0, 20, .inl (fun _ => 0))]), q + 7)) rfl (mk_set (i := 0) (ltb rfl) rfl) ?_
  refine jg_aload_n dX6_init_52 rfl ?_
  refine jg_bipush (v := nI 20) dX6_init_53 (by decide) ?_
  refine jg_newa (at9 := .int) (ki := 0) (N := 20) (by decide) rfl ka_int dX6_init_55 (by decide) (by decide) (by decide) (by show q + 7 < 1000000; omega) (Nat.le_of_ble_eq_true rfl) (Nat.le_of_ble_eq_true rfl) ?_
  refine jg_hs (S' := [.ref (q + 7), .ref q]) (h' := (apx f q ([.inl (6, [.int 0, .int 0, .int 0, .ref (q + 1), .ref (q + 2), .ref (q + 3), .int 0, .ref (q + 4), .ref (q + 5), .ref (q + 6), .null, .null, .null, .int 0]), .inr (0, 30, .inl (fun _ => 0)), .inr (0, 30, .inl (fun _ => 0)), .inr (0, 30, .inl (fun _ => 0)), .inr (0, 20, .inl (fun _ => 0)), .inr (0, 20, .inl (fun _ => 0)), .inr (0, 20, .inl (fun _ => 0)), .inr (0, 20, .inl (fun _ => 0))]), q + 8)) rfl (mk_push rfl rfl) ?_
  refine jg_putF (q := q) fl_X6_30 rfl rfl dX6_init_57 (by show q < q + 8; omega) (app_at (i := 0) rfl) (ltb rfl) rfl rfl ?_
  refine jg_hs (S' := []) (h' := (apx f q ([.inl (6, [.int 0, .int 0, .int 0, .ref (q + 1), .ref (q + 2), .ref (q + 3), .int 0, .ref (q + 4), .ref (q + 5), .ref (q + 6), .ref (q + 7), .null, .null, .int 0]), .inr (0, 30, .inl (fun _ => 0)), .inr (0, 30, .inl (fun _ => 0)), .inr (0, 30, .inl (fun _ => 0)), .inr (0, 20, .inl (fun _ => 0)), .inr (0, 20, .inl (fun _ => 0)), .inr (0, 20, .inl (fun _ => 0)), .inr (0, 20, .inl (fun _ => 0))]), q + 8)) rfl (mk_set (i := 0) (ltb rfl) rfl) ?_
  refine jg_aload_n dX6_init_60 rfl ?_
  refine jg_bipush (v := nI 20) dX6_init_61 (by decide) ?_
  refine jg_newa (at9 := .int) (ki := 0) (N := 20) (by decide) rfl ka_int dX6_init_63 (by decide) (by decide) (by decide) (by show q + 8 < 1000000; omega) (Nat.le_of_ble_eq_true rfl) (Nat.le_of_ble_eq_true rfl) ?_
  refine jg_hs (S' := [.ref (q + 8), .ref q]) (h' := (apx f q ([.inl (6, [.int 0, .int 0, .int 0, .ref (q + 1), .ref (q + 2), .ref (q + 3), .int 0, .ref (q + 4), .ref (q + 5), .ref (q + 6), .ref (q + 7), .null, .null, .int 0]), .inr (0, 30, .inl (fun _ => 0)), .inr (0, 30, .inl (fun _ => 0)), .inr (0, 30, .inl (fun _ => 0)), .inr (0, 20, .inl (fun _ => 0)), .inr (0, 20, .inl (fun _ => 0)), .inr (0, 20, .inl (fun _ => 0)), .inr (0, 20, .inl (fun _ => 0)), .inr (0, 20, .inl (fun _ => 0))]), q + 9)) rfl (mk_push rfl rfl) ?_
  refine jg_putF (q := q) fl_X6_33 rfl rfl dX6_init_65 (by show q < q + 9; omega) (app_at (i := 0) rfl) (ltb rfl) rfl rfl ?_
  refine jg_hs (S' := []) (h' := (apx f q ([.inl (6, [.int 0, .int 0, .int 0, .ref (q + 1), .ref (q + 2), .ref (q + 3), .int 0, .ref (q + 4), .ref (q + 5), .ref (q + 6), .ref (q + 7), .ref (q + 8), .null, .int 0]), .inr (0, 30, .inl (fun _ => 0)), .inr (0, 30, .inl (fun _ => 0)), .inr (0, 30, .inl (fun _ => 0)), .inr (0, 20, .inl (fun _ => 0)), .inr (0, 20, .inl (fun _ => 0)), .inr (0, 20, .inl (fun _ => 0)), .inr (0, 20, .inl (fun _ => 0)), .inr (0, 20, .inl (fun _ => 0))]), q + 9)) rfl (mk_set (i := 0) (ltb rfl) rfl) ?_
  refine jg_aload_n dX6_init_68 rfl ?_
  refine jg_bipush (v := nI 20) dX6_init_69 (by decide) ?_
  refine jg_newa (at9 := .int) (ki := 0) (N := 20) (by decide) rfl ka_int dX6_init_71 (by decide) (by decide) (by decide) (by show q + 9 < 1000000; omega) (Nat.le_of_ble_eq_true rfl) (Nat.le_of_ble_eq_true rfl) ?_
  refine jg_hs (S' := [.ref (q + 9), .ref q]) (h' := (apx f q ([.inl (6, [.int 0, .int 0, .int 0, .ref (q + 1), .ref (q + 2), .ref (q + 3), .int 0, .ref (q + 4), .ref (q + 5), .ref (q + 6), .ref (q + 7), .ref (q + 8), .null, .int 0]), .inr (0, 30, .inl (fun _ => 0)), .inr (0, 30, .inl (fun _ => 0)), .inr (0, 30, .inl (fun _ => 0)), .inr (0, 20, .inl (fun _ => 0)), .inr (0, 20, .inl (fun _ => 0)), .inr (0, 20, .inl (fun _ => 0)), .inr (0, 20, .inl (fun _ => 0)), .inr (0, 20, .inl (fun _ => 0)), .inr (0, 20, .inl (fun _ => 0))]), q + 10)) rfl (mk_push rfl rfl) ?_
  refine jg_putF (q := q) fl_X6_36 rfl rfl dX6_init_73 (by show q < q + 10; omega) (app_at (i := 0) rfl) (ltb rfl) rfl rfl ?_
  refine jg_hs (S' := []) (h' := (apx f q ([.inl (6, [.int 0, .int 0, .int 0, .ref (q + 1), .ref (q + 2), .ref (q + 3), .int 0, .ref (q + 4), .ref (q + 5), .ref (q + 6), .ref (q + 7), .ref (q + 8), .ref (q + 9), .int 0]), .inr (0, 30, .inl (fun _ => 0)), .inr (0, 30, .inl (fun _ => 0)), .inr (0, 30, .inl (fun _ => 0)), .inr (0, 20, .inl (fun _ => 0)), .inr (0, 20, .inl (fun _ => 0)), .inr (0, 20, .inl (fun _ => 0)), .inr (0, 20, .inl (fun _ => 0)), .inr (0, 20, .inl (fun _ => 0)), .inr (0, 20, .inl (fun _ => 0))]), q + 10)) rfl (mk_set (i := 0) (ltb rfl) rfl) ?_
  exact jg_return dX6_init_76 rfl ⟨rfl, rfl⟩
theorem dX4_init_0 : decode cX4_init 0 = .ok (.aload_n 0, 1) := by decide +kernel
theorem dX4_init_1 : decode cX4_init 1 = .ok (.invokespecial 3, 3) := by decide +kernel
theorem dX4_init_4 : decode cX4_init 4 = .ok (.aload_n 0, 1) := by decide +kernel
theorem dX4_init_5 : decode cX4_init 5 = .ok (.bipush 6, 2) := by decide +kernel
theorem dX4_init_7 : decode cX4_init 7 = .ok (.newarray .int, 2) := by decide +kernel
theorem dX4_init_9 : decode cX4_init 9 = .ok (.putfield 9, 3) := by decide +kernel
theorem dX4_init_12 : decode cX4_init 12 = .ok (.aload_n 0, 1) := by decide +kernel
theorem dX4_init_13 : decode cX4_init 13 = .ok (.bipush 6, 2) := by decide +kernel
theorem dX4_init_15 : decode cX4_init 15 = .ok (.newarray .int, 2) := by decide +kernel
theorem dX4_init_17 : decode cX4_init 17 = .ok (.putfield 15, 3) := by decide +kernel
theorem dX4_init_20 : decode cX4_init 20 = .ok (.aload_n 0, 1) := by decide +kernel
theorem dX4_init_21 : decode cX4_init 21 = .ok (.bipush 6, 2) := by decide +kernel
theorem dX4_init_23 : decode cX4_init 23 = .ok (.newarray .int, 2) := by decide +kernel
theorem dX4_init_25 : decode cX4_init 25 = .ok (.putfield 18, 3) := by decide +kernel
theorem dX4_init_28 : decode cX4_init 28 = .ok (.aload_n 0, 1) := by decide +kernel
theorem dX4_init_29 : decode cX4_init 29 = .ok (.iconst 4, 1) := by decide +kernel
theorem dX4_init_30 : decode cX4_init 30 = .ok (.newarray .int, 2) := by decide +kernel
theorem dX4_init_32 : decode cX4_init 32 = .ok (.putfield 21, 3) := by decide +kernel
theorem dX4_init_35 : decode cX4_init 35 = .ok (.aload_n 0, 1) := by decide +kernel
theorem dX4_init_36 : decode cX4_init 36 = .ok (.iconst 4, 1) := by decide +kernel
theorem dX4_init_37 : decode cX4_init 37 = .ok (.newarray .int, 2) := by decide +kernel
theorem dX4_init_39 : decode cX4_init 39 = .ok (.putfield 24, 3) := by decide +kernel
theorem dX4_init_42 : decode cX4_init 42 = .ok (.aload_n 0, 1) := by decide +kernel
theorem dX4_init_43 : decode cX4_init 43 = .ok (.iconst 4, 1) := by decide +kernel
theorem dX4_init_44 : decode cX4_init 44 = .ok (.newarray .int, 2) := by decide +kernel
theorem dX4_init_46 : decode cX4_init 46 = .ok (.putfield 27, 3) := by decide +kernel
theorem dX4_init_49 : decode cX4_init 49 = .ok (.aload_n 0, 1) := by decide +kernel
theorem dX4_init_50 : decode cX4_init 50 = .ok (.bipush 25, 2) := by decide +kernel
theorem dX4_init_52 : decode cX4_init 52 = .ok (.bipush 24, 2) := by decide +kernel
theorem dX4_init_54 : decode cX4_init 54 = .ok (.multianewarray 30 2, 4) := by decide +kernel
theorem dX4_init_58 : decode cX4_init 58 = .ok (.putfield 32, 3) := by decide +kernel
theorem dX4_init_61 : decode cX4_init 61 = .ok (.aload_n 0, 1) := by decide +kernel
theorem dX4_init_62 : decode cX4_init 62 = .ok (.iconst 4, 1) := by decide +kernel
theorem dX4_init_63 : decode cX4_init 63 = .ok (.newarray .int, 2) := by decide +kernel
theorem dX4_init_65 : decode cX4_init 65 = .ok (.putfield 35, 3) := by decide +kernel
theorem dX4_init_68 : decode cX4_init 68 = .ok (.aload_n 0, 1) := by decide +kernel
theorem dX4_init_69 : decode cX4_init 69 = .ok (.bipush 16, 2) := by decide +kernel
theorem dX4_init_71 : decode cX4_init 71 = .ok (.newarray .int, 2) := by decide +kernel
theorem dX4_init_73 : decode cX4_init 73 = .ok (.putfield 38, 3) := by decide +kernel
theorem dX4_init_76 : decode cX4_init 76 = .ok (.aload_n 0, 1) := by decide +kernel
theorem dX4_init_77 : decode cX4_init 77 = .ok (.bipush 16, 2) := by decide +kernel
theorem dX4_init_79 : decode cX4_init 79 = .ok (.newarray .int, 2) := by decide +kernel
theorem dX4_init_81 : decode cX4_init 81 = .ok (.putfield 41, 3) := by decide +kernel
theorem dX4_init_84 : decode cX4_init 84 = .ok (.return_, 1) := by decide +kernel
def cPl (q : Nat)  : List jg_C := [.inl (4, [.ref (q + 1), .ref (q + 2), .ref (q + 3), .int 0, .ref (q + 4), .ref (q + 5), .ref (q + 6), .int 0, .ref (q + 7), .ref (q + 33), .ref (q + 34), .ref (q + 35)]), .inr (0, 6, .inl (fun _ => 0)), .inr (0, 6, .inl (fun _ => 0)), .inr (0, 6, .inl (fun _ => 0)), .inr (0, 4, .inl (fun _ => 0)), .inr (0, 4, .inl (fun _ => 0)), .inr (0, 4, .inl (fun _ => 0))] ++ (.inr (7, 25, .inr (.inr (fun i => some (q + 7 + 1 + i)))) :: List.replicate 25 (.inr (0, 24, .inl (fun _ => 0))) ++ ([.inr (0, 4, .inl (fun _ => 0)), .inr (0, 16, .inl (fun _ => 0)), .inr (0, 16, .inl (fun _ => 0))]))
set_option maxHeartbeats 4000000 in
set_option maxRecDepth 20000 in
theorem t_X4_init {Γ : jg_G} (f : Nat → jg_C) (q : Nat)  (hn : q + 36 ≤ 1000000) : jc Γ mX4_init 2 35 691 [some (.ref q)] (apx f q [.inl (4, [.null, .null, .null, .int 0, .null, .null, .null, .int 0, .null, .null, .null, .null])], q + 1) (.inl none) (apx f q (cPl q ), q + 36) := by
  refine jc_of ?_
  refine jg_aload_n dX4_init_0 rfl ?_
  refine jg_objI ko_X4_3 (jg_m1 36 rfl rfl) (jg_m1 37 rfl rfl) dX4_init_1 (by decide) (Nat.le_of_ble_eq_true rfl) ?_
  refine jg_aload_n dX4_init_4 rfl ?_
  refine jg_bipush (v := nI 6) dX4_init_5 (by decide) ?_
  refine jg_newa (at9 := .int) (ki := 0) (N := 6) (by decide) rfl ka_int dX4_init_7 (by decide) (by decide) (by decide) (by show q + 1 < 1000000; omega) (Nat.le_of_ble_eq_true rfl) (Nat.le_of_ble_eq_true rfl) ?_
  refine jg_hs (S' := [.ref (q + 1), .ref q]) (h' := (apx f q ([.inl (4, [.null, .null, .null, .int 0, .null, .null, .null, .int 0, .null, .null, .null, .null]), .inr (0, 6, .inl (fun _ => 0))]), q + 2)) rfl (mk_push rfl rfl) ?_
  refine jg_putF (q := q) fl_X4_9 rfl rfl dX4_init_9 (by show q < q + 2; omega) (app_at (i := 0) rfl) (ltb rfl) rfl rfl ?_
  refine jg_hs (S' := []) (h' := (apx f q ([.inl (4, [.ref (q + 1), .null, .null, .int 0, .null, .null, .null, .int 0, .null, .null, .null, .null]), .inr (0, 6, .inl (fun _ => 0))]), q + 2)) rfl (mk_set (i := 0) (ltb rfl) rfl) ?_
  refine jg_aload_n dX4_init_12 rfl ?_
  refine jg_bipush (v := nI 6) dX4_init_13 (by decide) ?_
  refine jg_newa (at9 := .int) (ki := 0) (N := 6) (by decide) rfl ka_int dX4_init_15 (by decide) (by decide) (by decide) (by show q + 2 < 1000000; omega) (Nat.le_of_ble_eq_true rfl) (Nat.le_of_ble_eq_true rfl) ?_
  refine jg_hs (S' := [.ref (q + 2), .ref q]) (h' := (apx f q ([.inl (4, [.ref (q + 1), .null, .null, .int 0, .null, .null, .null, .int 0, .null, .null, .null, .null]), .inr (0, 6, .inl (fun _ => 0)), .inr (0, 6, .inl (fun _ => 0))]), q + 3)) rfl (mk_push rfl rfl) ?_
  refine jg_putF (q := q) fl_X4_15 rfl rfl dX4_init_17 (by show q < q + 3; omega) (app_at (i := 0) rfl) (ltb rfl) rfl rfl ?_
  refine jg_hs (S' := []) (h' := (apx f q ([.inl (4, [.ref (q + 1), .ref (q + 2), .null, .int 0, .null, .null, .null, .int 0, .null, .null, .null, .null]), .inr (0, 6, .inl (fun _ => 0)), .inr (0, 6, .inl (fun _ => 0))]), q + 3)) rfl (mk_set (i := 0) (ltb rfl) rfl) ?_
  refine jg_aload_n dX4_init_20 rfl ?_
  refine jg_bipush (v := nI 6) dX4_init_21 (by decide) ?_
  refine jg_newa (at9 := .int) (ki := 0) (N := 6) (by decide) rfl ka_int dX4_init_23 (by decide) (by decide) (by decide) (by show q + 3 < 1000000; omega) (Nat.le_of_ble_eq_true rfl) (Nat.le_of_ble_eq_true rfl) ?_
  refine jg_hs (S' := [.ref (q + 3), .ref q]) (h' := (apx f q ([.inl (4, [.ref (q + 1), .ref (q + 2), .null, .int 0, .null, .null, .null, .int 0, .null, .null, .null, .null]), .inr (0, 6, .inl (fun _ => 0)), .inr (0, 6, .inl (fun _ => 0)), .inr (0, 6, .inl (fun _ => 0))]), q + 4)) rfl (mk_push rfl rfl) ?_
  refine jg_putF (q := q) fl_X4_18 rfl rfl dX4_init_25 (by show q < q + 4; omega) (app_at (i := 0) rfl) (ltb rfl) rfl rfl ?_
  refine jg_hs (S' := []) (h' := (apx f q ([.inl (4, [.ref (q + 1), .ref (q + 2), .ref (q + 3), .int 0, .null, .null, .null, .int 0, .null, .null, .null, .null]), .inr (0, 6, .inl (fun _ => 0)), .inr (0, 6, .inl (fun _ => 0)), .inr (0, 6, .inl (fun _ => 0))]), q + 4)) rfl (mk_set (i := 0) (ltb rfl) rfl) ?_
  refine jg_aload_n dX4_init_28 rfl ?_
  refine jg_iconst (v := nI 4) dX4_init_29 (by decide) ?_
  refine jg_newa (at9 := .int) (ki := 0) (N := 4) (by decide) rfl ka_int dX4_init_30 (by decide) (by decide) (by decide) (by show q + 4 < 1000000; omega) (Nat.le_of_ble_eq_true rfl) (Nat.le_of_ble_eq_true rfl) ?_
  refine jg_hs (S' := [.ref (q + 4), .ref q]) (h' := (apx f q ([.inl (4, [.ref (q + 1), .ref (q + 2), .ref (q + 3), .int 0, .null, .null, .null, .int 0, .null, .null, .null, .null]), .inr (0, 6, .inl (fun _ => 0)), .inr (0, 6, .inl (fun _ => 0)), .inr (0, 6, .inl (fun _ => 0)), .inr (0, 4, .inl (fun _ => 0))]), q + 5)) rfl (mk_push rfl rfl) ?_
  refine jg_putF (q := q) fl_X4_21 rfl rfl dX4_init_32 (by show q < q + 5; omega) (app_at (i := 0) rfl) (ltb rfl) rfl rfl ?_
  refine jg_hs (S' := []) (h' := (apx f q ([.inl (4, [.ref (q + 1), .ref (q + 2), .ref (q + 3), .int 0, .ref (q + 4), .null, .null, .int 0, .null, .null, .null, .null]), .inr (0, 6, .inl (fun _ => 0)), .inr (0, 6, .inl (fun _ => 0)), .inr (0, 6, .inl (fun _ => 0)), .inr (0, 4, .inl (fun _ => 0))]), q + 5)) rfl (mk_set (i := 0) (ltb rfl) rfl) ?_
  refine jg_aload_n dX4_init_35 rfl ?_
  refine jg_iconst (v := nI 4) dX4_init_36 (by decide) ?_
  refine jg_newa (at9 := .int) (ki := 0) (N := 4) (by decide) rfl ka_int dX4_init_37 (by decide) (by decide) (by decide) (by show q + 5 < 1000000; omega) (Nat.le_of_ble_eq_true rfl) (Nat.le_of_ble_eq_true rfl) ?_
  refine jg_hs (S' := [.ref (q + 5), .ref q]) (h' := (apx f q ([.inl (4, [.ref (q + 1), .ref (q + 2), .ref (q + 3), .int 0, .ref (q + 4), .null, .null, .int 0, .null, .null, .null, .null]), .inr (0, 6, .inl (fun _ => 0)), .inr (0, 6, .inl (fun _ => 0)), .inr (0, 6, .inl (fun _ => 0)), .inr (0, 4, .inl (fun _ => 0)), .inr (0, 4, .inl (fun _ => 0))]), q + 6)) rfl (mk_push rfl rfl) ?_
  refine jg_putF (q := q) fl_X4_24 rfl rfl dX4_init_39 (by show q < q + 6; omega) (app_at (i := 0) rfl) (ltb rfl) rfl rfl ?_
  refine jg_hs (S' := []) (h' := (apx f q ([.inl (4, [.ref (q + 1), .ref (q + 2), .ref (q + 3), .int 0, .ref (q + 4), .ref (q + 5), .null, .int 0, .null, .null, .null, .null]), .inr (0, 6, .inl (fun _ => 0)), .inr (0, 6, .inl (fun _ => 0)), .inr (0, 6, .inl (fun _ => 0)), .inr (0, 4, .inl (fun _ => 0)), .inr (0, 4, .inl (fun _ => 0))]), q + 6)) rfl (mk_set (i := 0) (ltb rfl) rfl) ?_
  refine jg_aload_n dX4_init_42 rfl ?_
  refine jg_iconst (v := nI 4) dX4_init_43 (by decide) ?_
  refine jg_newa (at9 := .int) (ki := 0) (N := 4) (by decide) rfl ka_int dX4_init_44 (by decide) (by decide) (by decide) (by show q + 6 < 1000000; omega) (Nat.le_of_ble_eq_true rfl) (Nat.le_of_ble_eq_true rfl) ?_
  refine jg_hs (S' := [.ref (q + 6), .ref q]) (h' := (apx f q ([.inl (4, [.ref (q + 1), .ref (q + 2), .ref (q + 3), .int 0, .ref (q + 4), .ref (q + 5), .null, .int 0, .null, .null, .null, .null]), .inr (0, 6, .inl (fun _ => 0)), .inr (0, 6, .inl (fun _ => 0)), .inr (0, 6, .inl (fun _ => 0)), .inr (0, 4, .inl (fun _ => 0)), .inr (0, 4, .inl (fun _ => 0)), .inr (0, 4, .inl (fun _ => 0))]), q + 7)) rfl (mk_push rfl rfl) ?_
  refine jg_putF (q := q) fl_X4_27 rfl rfl dX4_init_46 (by show q < q + 7; omega) (app_at (i := 0) rfl) (ltb rfl) rfl rfl ?_
  refine jg_hs (S' := []) (h' := (apx f q ([.inl (4, [.ref (q + 1), .ref (q + 2), .ref (q + 3), .int 0, .ref (q + 4), .ref (q + 5), .ref (q + 6), .int 0, .null, .null, .null, .null]), .inr (0, 6, .inl (fun _ => 0)), .inr (0, 6, .inl (fun _ => 0)), .inr (0, 6, .inl (fun _ => 0)), .inr (0, 4, .inl (fun _ => 0)), .inr (0, 4, .inl (fun _ => 0)), .inr (0, 4, .inl (fun _ => 0))]), q + 7)) rfl (mk_set (i := 0) (ltb rfl) rfl) ?_
  refine jg_aload_n dX4_init_49 rfl ?_
  refine jg_bipush (v := nI 25) dX4_init_50 (by decide) ?_
  refine jg_bipush (v := nI 24) dX4_init_52 (by decide) ?_
  refine jg_mna (N := 25) (K := 24) kc_X4_30 ka_int dX4_init_54 (by decide) (by decide) (by decide) (by decide) (by decide) (by decide) (by show q + 7 + (1 + 25) ≤ 1000000; omega) (Nat.le_of_ble_eq_true rfl) (Nat.le_of_ble_eq_true rfl) ?_
  refine jg_hs (S' := [.ref (q + 7), .ref q]) (h' := (apx f q ([.inl (4, [.ref (q + 1), .ref (q + 2), .ref (q + 3), .int 0, .ref (q + 4), .ref (q + 5), .ref (q + 6), .int 0, .null, .null, .null, .null]), .inr (0, 6, .inl (fun _ => 0)), .inr (0, 6, .inl (fun _ => 0)), .inr (0, 6, .inl (fun _ => 0)), .inr (0, 4, .inl (fun _ => 0)), .inr (0, 4, .inl (fun _ => 0)), .inr (0, 4, .inl (fun _ => 0))] ++ (.inr (7, 25, .inr (.inr (fun i => some (q + 7 + 1 + i)))) :: List.replicate 25 (.inr (0, 24, .inl (fun _ => 0))))), q + 33)) rfl (mk_app rfl rfl rfl) ?_
  refine jg_putF (q := q) fl_X4_32 rfl rfl dX4_init_58 (by show q < q + 33; omega) (app_at (i := 0) rfl) (ltb rfl) rfl rfl ?_
  refine jg_hs (S' := []) (h' := (apx f q ([.inl (4, [.ref (q + 1), .ref (q + 2), .ref (q + 3), .int 0, .ref (q + 4), .ref (q + 5), .ref (q + 6), .int 0, .ref (q + 7), .null, .null, .null]), .inr (0, 6, .inl (fun _ => 0)), .inr (0, 6, .inl (fun _ => 0)), .inr (0, 6, .inl (fun _ => 0)), .inr (0, 4, .inl (fun _ => 0)), .inr (0, 4, .inl (fun _ => 0)), .inr (0, 4, .inl (fun _ => 0))] ++ (.inr (7, 25, .inr (.inr (fun i => some (q + 7 + 1 + i)))) :: List.replicate 25 (.inr (0, 24, .inl (fun _ => 0))))), q + 33)) rfl (mk_set (i := 0) (ltb rfl) rfl) ?_
  refine jg_aload_n dX4_init_61 rfl ?_
  refine jg_iconst (v := nI 4) dX4_init_62 (by decide) ?_
  refine jg_newa (at9 := .int) (ki := 0) (N := 4) (by decide) rfl ka_int dX4_init_63 (by decide) (by decide) (by decide) (by show q + 33 < 1000000; omega) (Nat.le_of_ble_eq_true rfl) (Nat.le_of_ble_eq_true rfl) ?_
  refine jg_hs (S' := [.ref (q + 33), .ref q]) (h' := (apx f q ([.inl (4, [.ref (q + 1), .ref (q + 2), .ref (q + 3), .int 0, .ref (q + 4), .ref (q + 5), .ref (q + 6), .int 0, .ref (q + 7), .null, .null, .null]), .inr (0, 6, .inl (fun _ => 0)), .inr (0, 6, .inl (fun _ => 0)), .inr (0, 6, .inl (fun _ => 0)), .inr (0, 4, .inl (fun _ => 0)), .inr (0, 4, .inl (fun _ => 0)), .inr (0, 4, .inl (fun _ => 0))] ++ (.inr (7, 25, .inr (.inr (fun i => some (q + 7 + 1 + i)))) :: List.replicate 25 (.inr (0, 24, .inl (fun _ => 0))) ++ ([.inr (0, 4, .inl (fun _ => 0))]))), q + 34)) rfl (mk_push rfl rfl) ?_
  refine jg_putF (q := q) fl_X4_35 rfl rfl dX4_init_65 (by show q < q + 34; omega) (app_at (i := 0) rfl) (ltb rfl) rfl rfl ?_
  refine jg_hs (S' := []) (h' := (apx f q ([.inl (4, [.ref (q + 1), .ref (q + 2), .ref (q + 3), .int 0, .ref (q + 4), .ref (q + 5), .ref (q + 6), .int 0, .ref (q + 7), .ref (q + 33), .null, .null]), .inr (0, 6, .inl (fun _ => 0)), .inr (0, 6, .inl (fun _ => 0)), .inr (0, 6, .inl (fun _ => 0)), .inr (0, 4, .inl (fun _ => 0)), .inr (0, 4, .inl (fun _ => 0)), .inr (0, 4, .inl (fun _ => 0))] ++ (.inr (7, 25, .inr (.inr (fun i => some (q + 7 + 1 + i)))) :: List.replicate 25 (.inr (0, 24, .inl (fun _ => 0))) ++ ([.inr (0, 4, .inl (fun _ => 0))]))), q + 34)) rfl (mk_set (i := 0) (ltb rfl) rfl) ?_
  refine jg_aload_n dX4_init_68 rfl ?_
  refine jg_bipush (v := nI 16) dX4_init_69 (by decide) ?_
  refine jg_newa (at9 := .int) (ki := 0) (N := 16) (by decide) rfl ka_int dX4_init_71 (by decide) (by decide) (by decide) (by show q + 34 < 1000000; omega) (Nat.le_of_ble_eq_true rfl) (Nat.le_of_ble_eq_true rfl) ?_
  refine jg_hs (S' := [.ref (q + 34), .ref q]) (h' := (apx f q ([.inl (4, [.ref (q + 1), .ref (q + 2), .ref (q + 3), .int 0, .ref (q + 4), .ref (q + 5), .ref (q + 6), .int 0, .ref (q + 7), .ref (q + 33), .null, .null]), .inr (0, 6, .inl (fun _ => 0)), .inr (0, 6, .inl (fun _ => 0)), .inr (0, 6, .inl (fun _ => 0)), .inr (0, 4, .inl (fun _ => 0)), .inr (0, 4, .inl (fun _ => 0)), .inr (0, 4, .inl (fun _ => 0))] ++ (.inr (7, 25, .inr (.inr (fun i => some (q + 7 + 1 + i)))) :: List.replicate 25 (.inr (0, 24, .inl (fun _ => 0))) ++ ([.inr (0, 4, .inl (fun _ => 0)), .inr (0, 16, .inl (fun _ => 0))]))), q + 35)) rfl (mk_push rfl rfl) ?_
  refine jg_putF (q := q) fl_X4_38 rfl rfl dX4_init_73 (by show q < q + 35; omega) (app_at (i := 0) rfl) (ltb rfl) rfl rfl ?_
  refine jg_hs (S' := []) (h' := (apx f q ([.inl (4, [.ref (q + 1), .ref (q + 2), .ref (q + 3), .int 0, .ref (q + 4), .ref (q + 5), .ref (q + 6), .int 0, .ref (q + 7), .ref (q + 33), .ref (q + 34), .null]), .inr (0, 6, .inl (fun _ => 0)), .inr (0, 6, .inl (fun _ => 0)), .inr (0, 6, .inl (fun _ => 0)), .inr (0, 4, .inl (fun _ => 0)), .inr (0, 4, .inl (fun _ => 0)), .inr (0, 4, .inl (fun _ => 0))] ++ (.inr (7, 25, .inr (.inr (fun i => some (q + 7 + 1 + i)))) :: List.replicate 25 (.inr (0, 24, .inl (fun _ => 0))) ++ ([.inr (0, 4, .inl (fun _ => 0)), .inr (0, 16, .inl (fun _ => 0))]))), q + 35)) rfl (mk_set (i := 0) (ltb rfl) rfl) ?_
  refine jg_aload_n dX4_init_76 rfl ?_
  refine jg_bipush (v := nI 16) dX4_init_77 (by decide) ?_
  refine jg_newa (at9 := .int) (ki := 0) (N := 16) (by decide) rfl ka_int dX4_init_79 (by decide) (by decide) (by decide) (by show q + 35 < 1000000; omega) (Nat.le_of_ble_eq_true rfl) (Nat.le_of_ble_eq_true rfl) ?_
  refine jg_hs (S' := [.ref (q + 35), .ref q]) (h' := (apx f q ([.inl (4, [.ref (q + 1), .ref (q + 2), .ref (q + 3), .int 0, .ref (q + 4), .ref (q + 5), .ref (q + 6), .int 0, .ref (q + 7), .ref (q + 33), .ref (q + 34), .null]), .inr (0, 6, .inl (fun _ => 0)), .inr (0, 6, .inl (fun _ => 0)), .inr (0, 6, .inl (fun _ => 0)), .inr (0, 4, .inl (fun _ => 0)), .inr (0, 4, .inl (fun _ => 0)), .inr (0, 4, .inl (fun _ => 0))] ++ (.inr (7, 25, .inr (.inr (fun i => some (q + 7 + 1 + i)))) :: List.replicate 25 (.inr (0, 24, .inl (fun _ => 0))) ++ ([.inr (0, 4, .inl (fun _ => 0)), .inr (0, 16, .inl (fun _ => 0)), .inr (0, 16, .inl (fun _ => 0))]))), q + 36)) rfl (mk_push rfl rfl) ?_
  refine jg_putF (q := q) fl_X4_41 rfl rfl dX4_init_81 (by show q < q + 36; omega) (app_at (i := 0) rfl) (ltb rfl) rfl rfl ?_
  refine jg_hs (S' := []) (h' := (apx f q ([.inl (4, [.ref (q + 1), .ref (q + 2), .ref (q + 3), .int 0, .ref (q + 4), .ref (q + 5), .ref (q + 6), .int 0, .ref (q + 7), .ref (q + 33), .ref (q + 34), .ref (q + 35)]), .inr (0, 6, .inl (fun _ => 0)), .inr (0, 6, .inl (fun _ => 0)), .inr (0, 6, .inl (fun _ => 0)), .inr (0, 4, .inl (fun _ => 0)), .inr (0, 4, .inl (fun _ => 0)), .inr (0, 4, .inl (fun _ => 0))] ++ (.inr (7, 25, .inr (.inr (fun i => some (q + 7 + 1 + i)))) :: List.replicate 25 (.inr (0, 24, .inl (fun _ => 0))) ++ ([.inr (0, 4, .inl (fun _ => 0)), .inr (0, 16, .inl (fun _ => 0)), .inr (0, 16, .inl (fun _ => 0))]))), q + 36)) rfl (mk_set (i := 0) (ltb rfl) rfl) ?_
  exact jg_return dX4_init_84 rfl ⟨rfl, rfl⟩
theorem dX7_init_0 : decode cX7_init 0 = .ok (.aload_n 0, 1) := by decide +kernel
theorem dX7_init_1 : decode cX7_init 1 = .ok (.invokespecial 3, 3) := by decide +kernel
theorem dX7_init_4 : decode cX7_init 4 = .ok (.aload_n 0, 1) := by decide +kernel
theorem dX7_init_5 : decode cX7_init 5 = .ok (.iconst (-1), 1) := by decide +kernel
theorem dX7_init_6 : decode cX7_init 6 = .ok (.putfield 9, 3) := by decide +kernel
theorem dX7_init_9 : decode cX7_init 9 = .ok (.aload_n 0, 1) := by decide +kernel
theorem dX7_init_10 : decode cX7_init 10 = .ok (.sipush 401, 3) := by decide +kernel
theorem dX7_init_13 : decode cX7_init 13 = .ok (.newarray .int, 2) := by decide +kernel
theorem dX7_init_15 : decode cX7_init 15 = .ok (.putfield 15, 3) := by decide +kernel
theorem dX7_init_18 : decode cX7_init 18 = .ok (.aload_n 0, 1) := by decide +kernel
theorem dX7_init_19 : decode cX7_init 19 = .ok (.sipush 401, 3) := by decide +kernel
theorem dX7_init_22 : decode cX7_init 22 = .ok (.newarray .int, 2) := by decide +kernel
theorem dX7_init_24 : decode cX7_init 24 = .ok (.putfield 19, 3) := by decide +kernel
theorem dX7_init_27 : decode cX7_init 27 = .ok (.aload_n 0, 1) := by decide +kernel
theorem dX7_init_28 : decode cX7_init 28 = .ok (.bipush 20, 2) := by decide +kernel
theorem dX7_init_30 : decode cX7_init 30 = .ok (.newarray .int, 2) := by decide +kernel
theorem dX7_init_32 : decode cX7_init 32 = .ok (.putfield 22, 3) := by decide +kernel
theorem dX7_init_35 : decode cX7_init 35 = .ok (.aload_n 0, 1) := by decide +kernel
theorem dX7_init_36 : decode cX7_init 36 = .ok (.bipush 20, 2) := by decide +kernel
theorem dX7_init_38 : decode cX7_init 38 = .ok (.newarray .int, 2) := by decide +kernel
theorem dX7_init_40 : decode cX7_init 40 = .ok (.putfield 25, 3) := by decide +kernel
theorem dX7_init_43 : decode cX7_init 43 = .ok (.aload_n 0, 1) := by decide +kernel
theorem dX7_init_44 : decode cX7_init 44 = .ok (.bipush 20, 2) := by decide +kernel
theorem dX7_init_46 : decode cX7_init 46 = .ok (.newarray .int, 2) := by decide +kernel
theorem dX7_init_48 : decode cX7_init 48 = .ok (.putfield 28, 3) := by decide +kernel
theorem dX7_init_51 : decode cX7_init 51 = .ok (.aload_n 0, 1) := by decide +kernel
theorem dX7_init_52 : decode cX7_init 52 = .ok (.sipush 400, 3) := by decide +kernel
theorem dX7_init_55 : decode cX7_init 55 = .ok (.newarray .int, 2) := by decide +kernel
theorem dX7_init_57 : decode cX7_init 57 = .ok (.putfield 31, 3) := by decide +kernel
theorem dX7_init_60 : decode cX7_init 60 = .ok (.aload_n 0, 1) := by decide +kernel
theorem dX7_init_61 : decode cX7_init 61 = .ok (.sipush 400, 3) := by decide +kernel
theorem dX7_init_64 : decode cX7_init 64 = .ok (.newarray .int, 2) := by decide +kernel
theorem dX7_init_66 : decode cX7_init 66 = .ok (.putfield 34, 3) := by decide +kernel
theorem dX7_init_69 : decode cX7_init 69 = .ok (.return_, 1) := by decide +kernel
def cRd (q : Nat)  : List jg_C := [.inl (7, [.int (-1), .ref (q + 1), .ref (q + 2), .int 0, .int 0, .ref (q + 3), .ref (q + 4), .ref (q + 5), .int 0, .ref (q + 6), .ref (q + 7), .int 0]), .inr (0, 401, .inl (fun _ => 0)), .inr (0, 401, .inl (fun _ => 0)), .inr (0, 20, .inl (fun _ => 0)), .inr (0, 20, .inl (fun _ => 0)), .inr (0, 20, .inl (fun _ => 0)), .inr (0, 400, .inl (fun _ => 0)), .inr (0, 400, .inl (fun _ => 0))]
set_option maxHeartbeats 4000000 in
set_option maxRecDepth 20000 in
theorem t_X7_init {Γ : jg_G} (f : Nat → jg_C) (q : Nat)  (hn : q + 8 ≤ 1000000) : jc Γ mX7_init 2 7 1662 [some (.ref q)] (apx f q [.inl (7, [.int 0, .null, .null, .int 0, .int 0, .null, .null, .null, .int 0, .null, .null, .int 0])], q + 1) (.inl none) (apx f q (cRd q ), q + 8) := by
  refine jc_of ?_
  refine jg_aload_n dX7_init_0 rfl ?_
  refine jg_objI ko_X7_3 (jg_m1 36 rfl rfl) (jg_m1 37 rfl rfl) dX7_init_1 (by decide) (Nat.le_of_ble_eq_true rfl) ?_
  refine jg_aload_n dX7_init_4 rfl ?_
  refine jg_iconst (v := (-1)) dX7_init_5 (by decide) ?_
  refine jg_put (q := q) fl_X7_9 dX7_init_6 (by show q < q + 1; omega) (app_at (i := 0) rfl) (ltb rfl) rfl rfl ?_
  refine jg_hs (S' := []) (h' := (apx f q ([.inl (7, [.int (-1), .null, .null, .int 0, .int 0, .null, .null, .null, .int 0, .null, .null, .int 0])]), q + 1)) rfl (mk_set (i := 0) (ltb rfl) rfl) ?_
  refine jg_aload_n dX7_init_9 rfl ?_
  refine jg_sipush (v := nI 401) dX7_init_10 (by decide) ?_
  refine jg_newa (at9 := .int) (ki := 0) (N := 401) (by decide) rfl ka_int dX7_init_13 (by decide) (by decide) (by decide) (by show q + 1 < 1000000; omega) (Nat.le_of_ble_eq_true rfl) (Nat.le_of_ble_eq_true rfl) ?_
  refine jg_hs (S' := [.ref (q + 1), .ref q]) (h' := (apx f q ([.inl (7, [.int (-1), .null, .null, .int 0, .int 0, .null, .null, .null, .int 0, .null, .null, .int 0]), .inr (0, 401, .inl (fun _ => 0))]), q + 2)) rfl (mk_push rfl rfl) ?_
  refine jg_putF (q := q) fl_X7_15 rfl rfl dX7_init_15 (by show q < q + 2; omega) (app_at (i := 0) rfl) (ltb rfl) rfl rfl ?_
  refine jg_hs (S' := []) (h' := (apx f q ([.inl (7, [.int (-1), .ref (q + 1), .null, .int 0, .int 0, .null, .null, .null, .int 0, .null, .null, .int 0]), .inr (0, 401, .inl (fun _ => 0))]), q + 2)) rfl (mk_set (i := 0) (ltb rfl) rfl) ?_
  refine jg_aload_n dX7_init_18 rfl ?_
  refine jg_sipush (v := nI 401) dX7_init_19 (by decide) ?_
  refine jg_newa (at9 := .int) (ki := 0) (N := 401) (by decide) rfl ka_int dX7_init_22 (by decide) (by decide) (by decide) (by show q + 2 < 1000000; omega) (Nat.le_of_ble_eq_true rfl) (Nat.le_of_ble_eq_true rfl) ?_
  refine jg_hs (S' := [.ref (q + 2), .ref q]) (h' := (apx f q ([.inl (7, [.int (-1), .ref (q + 1), .null, .int 0, .int 0, .null, .null, .null, .int 0, .null, .null, .int 0]), .inr (0, 401, .inl (fun _ => 0)), .inr (0, 401, .inl (fun _ => 0))]), q + 3)) rfl (mk_push rfl rfl) ?_
  refine jg_putF (q := q) fl_X7_19 rfl rfl dX7_init_24 (by show q < q + 3; omega) (app_at (i := 0) rfl) (ltb rfl) rfl rfl ?_
  refine jg_hs (S' := []) (h' := (apx f q ([.inl (7, [.int (-1), .ref (q + 1), .ref (q + 2), .int 0, .int 0, .null, .null, .null, .int 0, .null, .null, .int 0]), .inr (0, 401, .inl (fun _ => 0)), .inr (0, 401, .inl (fun _ => 0))]), q + 3)) rfl (mk_set (i := 0) (ltb rfl) rfl) ?_
  refine jg_aload_n dX7_init_27 rfl ?_
  refine jg_bipush (v := nI 20) dX7_init_28 (by decide) ?_
  refine jg_newa (at9 := .int) (ki := 0) (N := 20) (by decide) rfl ka_int dX7_init_30 (by decide) (by decide) (by decide) (by show q + 3 < 1000000; omega) (Nat.le_of_ble_eq_true rfl) (Nat.le_of_ble_eq_true rfl) ?_
  refine jg_hs (S' := [.ref (q + 3), .ref q]) (h' := (apx f q ([.inl (7, [.int (-1), .ref (q + 1), .ref (q + 2), .int 0, .int 0, .null, .null, .null, .int 0, .null, .null, .int 0]), .inr (0, 401, .inl (fun _ => 0)), .inr (0, 401, .inl (fun _ => 0)), .inr (0, 20, .inl (fun _ => 0))]), q + 4)) rfl (mk_push rfl rfl) ?_
  refine jg_putF (q := q) fl_X7_22 rfl rfl dX7_init_32 (by show q < q + 4; omega) (app_at (i := 0) rfl) (ltb rfl) rfl rfl ?_
  refine jg_hs (S' := []) (h' := (apx f q ([.inl (7, [.int (-1), .ref (q + 1), .ref (q + 2), .int 0, .int 0, .ref (q + 3), .null, .null, .int 0, .null, .null, .int 0]), .inr (0, 401, .inl (fun _ => 0)), .inr (0, 401, .inl (fun _ => 0)), .inr (0, 20, .inl (fun _ => 0))]), q + 4)) rfl (mk_set (i := 0) (ltb rfl) rfl) ?_
  refine jg_aload_n dX7_init_35 rfl ?_
  refine jg_bipush (v := nI 20) dX7_init_36 (by decide) ?_
  refine jg_newa (at9 := .int) (ki := 0) (N := 20) (by decide) rfl ka_int dX7_init_38 (by decide) (by decide) (by decide) (by show q + 4 < 1000000; omega) (Nat.le_of_ble_eq_true rfl) (Nat.le_of_ble_eq_true rfl) ?_
  refine jg_hs (S' := [.ref (q + 4), .ref q]) (h' := (apx f q ([.inl (7, [.int (-1), .ref (q + 1), .ref (q + 2), .int 0, .int 0, .ref (q + 3), .null, .null, .int 0, .null, .null, .int 0]), .inr (0, 401, .inl (fun _ => 0)), .inr (0, 401, .inl (fun _ => 0)), .inr (0, 20, .inl (fun _ => 0)), .inr (0, 20, .inl (fun _ => 0))]), q + 5)) rfl (mk_push rfl rfl) ?_
  refine jg_putF (q := q) fl_X7_25 rfl rfl dX7_init_40 (by show q < q + 5; omega) (app_at (i := 0) rfl) (ltb rfl) rfl rfl ?_
  refine jg_hs (S' := []) (h' := (apx f q ([.inl (7, [.int (-1), .ref (q + 1), .ref (q + 2), .int 0, .int 0, .ref (q + 3), .ref (q + 4), .null, .int 0, .null, .null, .int 0]), .inr (0, 401, .inl (fun _ => 0)), .inr (0, 401, .inl (fun _ => 0)), .inr (0, 20, .inl (fun _ => 0)), .inr (0, 20, .inl (fun _ => 0))]), q + 5)) rfl (mk_set (i := 0) (ltb rfl) rfl) ?_
  refine jg_aload_n dX7_init_43 rfl ?_
  refine jg_bipush (v := nI 20) dX7_init_44 (by decide) ?_
  refine jg_newa (at9 := .int) (ki := 0) (N := 20) (by decide) rfl ka_int dX7_init_46 (by decide) (by decide) (by decide) (by show q + 5 < 1000000; omega) (Nat.le_of_ble_eq_true rfl) (Nat.le_of_ble_eq_true rfl) ?_
  refine jg_hs (S' := [.ref (q + 5), .ref q]) (h' := (apx f q ([.inl (7, [.int (-1), .ref (q + 1), .ref (q + 2), .int 0, .int 0, .ref (q + 3), .ref (q + 4), .null, .int 0, .null, .null, .int 0]), .inr (0, 401, .inl (fun _ => 0)), .inr (0, 401, .inl (fun _ => 0)), .inr (0, 20, .inl (fun _ => 0)), .inr (0, 20, .inl (fun _ => 0)), .inr (0, 20, .inl (fun _ => 0))]), q + 6)) rfl (mk_push rfl rfl) ?_
  refine jg_putF (q := q) fl_X7_28 rfl rfl dX7_init_48 (by show q < q + 6; omega) (app_at (i := 0) rfl) (ltb rfl) rfl rfl ?_
  refine jg_hs (S' := []) (h' := (apx f q ([.inl (7, [.int (-1), .ref (q + 1), .ref (q + 2), .int 0, .int 0, .ref (q + 3), .ref (q + 4), .ref (q + 5), .int 0, .null, .null, .int 0]), .inr (0, 401, .inl (fun _ => 0)), .inr (0, 401, .inl (fun _ => 0)), .inr (0, 20, .inl (fun _ => 0)), .inr (0, 20, .inl (fun _ => 0)), .inr (0, 20, .inl (fun _ => 0))]), q + 6)) rfl (mk_set (i := 0) (ltb rfl) rfl) ?_
  refine jg_aload_n dX7_init_51 rfl ?_
  refine jg_sipush (v := nI 400) dX7_init_52 (by decide) ?_
  refine jg_newa (at9 := .int) (ki := 0) (N := 400) (by decide) rfl ka_int dX7_init_55 (by decide) (by decide) (by decide) (by show q + 6 < 1000000; omega) (Nat.le_of_ble_eq_true rfl) (Nat.le_of_ble_eq_true rfl) ?_
  refine jg_hs (S' := [.ref (q + 6), .ref q]) (h' := (apx f q ([.inl (7, [.int (-1), .ref (q + 1), .ref (q + 2), .int 0, .int 0, .ref (q + 3), .ref (q + 4), .ref (q + 5), .int 0, .null, .null, .int 0]), .inr (0, 401, .inl (fun _ => 0)), .inr (0, 401, .inl (fun _ => 0)), .inr (0, 20, .inl (fun _ => 0)), .inr (0, 20, .inl (fun _ => 0)), .inr (0, 20, .inl (fun _ => 0)), .inr (0, 400, .inl (fun _ => 0))]), q + 7)) rfl (mk_push rfl rfl) ?_
  refine jg_putF (q := q) fl_X7_31 rfl rfl dX7_init_57 (by show q < q + 7; omega) (app_at (i := 0) rfl) (ltb rfl) rfl rfl ?_
  refine jg_hs (S' := []) (h' := (apx f q ([.inl (7, [.int (-1), .ref (q + 1), .ref (q + 2), .int 0, .int 0, .ref (q + 3), .ref (q + 4), .ref (q + 5), .int 0, .ref (q + 6), .null, .int 0]), .inr (0, 401, .inl (fun _ => 0)), .inr (0, 401, .inl (fun _ => 0)), .inr (0, 20, .inl (fun _ => 0)), .inr (0, 20, .inl (fun _ => 0)), .inr (0, 20, .inl (fun _ => 0)), .inr (0, 400, .inl (fun _ => 0))]), q + 7)) rfl (mk_set (i := 0) (ltb rfl) rfl) ?_
  refine jg_aload_n dX7_init_60 rfl ?_
  refine jg_sipush (v := nI 400) dX7_init_61 (by decide) ?_
  refine jg_newa (at9 := .int) (ki := 0) (N := 400) (by decide) rfl ka_int dX7_init_64 (by decide) (by decide) (by decide) (by show q + 7 < 1000000; omega) (Nat.le_of_ble_eq_true rfl) (Nat.le_of_ble_eq_true rfl) ?_
  refine jg_hs (S' := [.ref (q + 7), .ref q]) (h' := (apx f q ([.inl (7, [.int (-1), .ref (q + 1), .ref (q + 2), .int 0, .int 0, .ref (q + 3), .ref (q + 4), .ref (q + 5), .int 0, .ref (q + 6), .null, .int 0]), .inr (0, 401, .inl (fun _ => 0)), .inr (0, 401, .inl (fun _ => 0)), .inr (0, 20, .inl (fun _ => 0)), .inr (0, 20, .inl (fun _ => 0)), .inr (0, 20, .inl (fun _ => 0)), .inr (0, 400, .inl (fun _ => 0)), .inr (0, 400, .inl (fun _ => 0))]), q + 8)) rfl (mk_push rfl rfl) ?_
  refine jg_putF (q := q) fl_X7_34 rfl rfl dX7_init_66 (by show q < q + 8; omega) (app_at (i := 0) rfl) (ltb rfl) rfl rfl ?_
  refine jg_hs (S' := []) (h' := (apx f q ([.inl (7, [.int (-1), .ref (q + 1), .ref (q + 2), .int 0, .int 0, .ref (q + 3), .ref (q + 4), .ref (q + 5), .int 0, .ref (q + 6), .ref (q + 7), .int 0]), .inr (0, 401, .inl (fun _ => 0)), .inr (0, 401, .inl (fun _ => 0)), .inr (0, 20, .inl (fun _ => 0)), .inr (0, 20, .inl (fun _ => 0)), .inr (0, 20, .inl (fun _ => 0)), .inr (0, 400, .inl (fun _ => 0)), .inr (0, 400, .inl (fun _ => 0))]), q + 8)) rfl (mk_set (i := 0) (ltb rfl) rfl) ?_
  exact jg_return dX7_init_69 rfl ⟨rfl, rfl⟩
/-- a row of references that is being filled: those from j on are none yet -/
def mk_F (N p j : Nat) : Nat → Option Nat := fun i => if j ≤ i ∧ i < N then none else some (p + i)
theorem mk_F_up {N p j : Nat} : va_up (mk_F N p j) j (some (p + j)) = mk_F N p (j + 1) := by
  funext i
  by_cases e : i = j
  · subst e; rw [va_up_self]; unfold mk_F; rw [if_neg (by omega)]
  · rw [va_up_ne _ _ e]; unfold mk_F
    by_cases h : j ≤ i ∧ i < N
    · rw [if_pos h, if_pos (by omega)]
    · rw [if_neg h, if_neg (by omega)]
theorem mk_F_end {N p : Nat} : mk_F N p N = fun i => some (p + i) := by
  funext i; unfold mk_F; rw [if_neg (by omega)]
def cL3 (q j : Nat) : List jg_C := [.inl (3, [.ref (q + 1), .ref (q + 7), .null, .int 0, .int 0, .null, .int 0, .null, .int 0, .int 0]), .inl (0, [.int (nI 0), .ref (q + 2), .ref (q + 3), .ref (q + 4), .ref (q + 5), .ref (q + 6)]), .inr (0, 0, .inl (fun _ => 0)), .inr (0, 0, .inl (fun _ => 0)), .inr (0, 0, .inl (fun _ => 0)), .inr (0, 0, .inl (fun _ => 0)), .inr (0, 0, .inl (fun _ => 0)), .inr (4, 20, .inr (.inr (fun i => if i < j then some (q + 1) else none)))]
theorem dX3_init_40 : decode cX3_init 40 = .ok (.iconst 0, 1) := by decide +kernel
theorem dX3_init_41 : decode cX3_init 41 = .ok (.istore_n 1, 1) := by decide +kernel
theorem dX3_init_42 : decode cX3_init 42 = .ok (.iload_n 1, 1) := by decide +kernel
theorem dX3_init_43 : decode cX3_init 43 = .ok (.bipush 20, 2) := by decide +kernel
theorem dX3_init_45 : decode cX3_init 45 = .ok (.if_icmp .ge 19, 3) := by decide +kernel
theorem dX3_init_48 : decode cX3_init 48 = .ok (.aload_n 0, 1) := by decide +kernel
theorem dX3_init_49 : decode cX3_init 49 = .ok (.getfield 20, 3) := by decide +kernel
theorem dX3_init_52 : decode cX3_init 52 = .ok (.iload_n 1, 1) := by decide +kernel
theorem dX3_init_53 : decode cX3_init 53 = .ok (.aload_n 0, 1) := by decide +kernel
theorem dX3_init_54 : decode cX3_init 54 = .ok (.getfield 14, 3) := by decide +kernel
theorem dX3_init_57 : decode cX3_init 57 = .ok (.aastore, 1) := by decide +kernel
theorem dX3_init_58 : decode cX3_init 58 = .ok (.iinc 1 1, 3) := by decide +kernel
theorem dX3_init_61 : decode cX3_init 61 = .ok (.goto (-19), 3) := by decide +kernel
theorem mk_lp3 {Γ : jg_G} {a b : Nat} {Q : jg_Q} (f : Nat → jg_C) (q : Nat) (K1 : jg Γ mX3_init 2 a b 64 [some (.ref q), none] [] (apx f q (cL3 q 20), q + 8) Q) : ∀ i j : Nat, j + i = 20 → jg Γ mX3_init 2 a b 42 [some (.ref q), some (.int (nI j))] [] (apx f q (cL3 q j), q + 8) Q := by
  intro i
  induction i with
  | zero =>
    intro j hj
    obtain rfl : j = 20 := by omega
    refine jg_iload_n dX3_init_42 rfl ?_
    refine jg_bipush (v := nI 20) dX3_init_43 (by decide) ?_
    refine jg_icmp_ge (tgt := 64) dX3_init_45 (by decide) (fun _ => ?_) (fun c => absurd (Int32.le_refl _) c)
    exact jg_fg (L' := [some (.ref q), none]) ⟨rfl, trivial⟩ K1
  | succ i ih =>
    intro j hj
    refine jg_iload_n dX3_init_42 rfl ?_
    refine jg_bipush (v := nI 20) dX3_init_43 (by decide) ?_
    refine jg_icmp_ge (tgt := 64) dX3_init_45 (by decide) (fun c => absurd c (nI_ge (show j < 20 by omega) (by decide))) (fun _ => ?_)
    refine jg_aload_n dX3_init_48 rfl ?_
    refine jg_get (q := q) (v := .ref (q + 7)) fl_X3_20 dX3_init_49 (by show q < q + 8; omega) (app_at (i := 0) rfl) rfl ?_
    refine jg_iload_n dX3_init_52 rfl ?_
    refine jg_aload_n dX3_init_53 rfl ?_
    refine jg_get (q := q) (v := .ref (q + 1)) fl_X3_14 dX3_init_54 (by show q < q + 8; omega) (app_at (i := 0) rfl) rfl ?_
    refine jg_aast (ki := 4) (ci := 0) (y := q + 1) (q := q + 7) (i := nI j) rfl rfl (Or.inl rfl) dX3_init_57 (by show q + 7 < q + 8; omega) (app_at (i := 7) rfl) (by show q + 1 < q + 8; omega) (app_at (i := 1) rfl) (vp_iL (iL_t (show j < 20 by omega) (by decide))) ?_
    refine jg_hs (S' := []) (h' := (apx f q (cL3 q (j + 1)), q + 8)) rfl ?_ ?_
    · refine mk_set (i := 7) (ltb rfl) ?_
      show [_, _, _, _, _, _, _, _] = [_, _, _, _, _, _, _, _]
      rw [nI_clamp (by omega)]
      refine congrArg (fun z => [_, _, _, _, _, _, _, Sum.inr (4, 20, Sum.inr (Sum.inr z))]) (funext fun m => ?_)
      by_cases e : m = j
      · subst e; rw [va_up_self, if_pos (by omega)]
      · rw [va_up_ne _ _ e]
        by_cases e2 : m < j
        · rw [if_pos e2, if_pos (by omega)]
        · rw [if_neg e2, if_neg (by omega)]
    · refine jg_iinc (x := nI j) (v := nI (j + 1)) (L' := [some (.ref q), some (.int (nI (j + 1)))]) dX3_init_58 rfl (by rw [show Int32.ofInt 1 = nI 1 by decide, nI_add]) (by decide) rfl ?_
      refine jg_goto (tgt := 42) dX3_init_61 (by decide) ?_
      exact ih (j + 1) (by omega)
theorem dX3_init_0 : decode cX3_init 0 = .ok (.aload_n 0, 1) := by decide +kernel
theorem dX3_init_1 : decode cX3_init 1 = .ok (.invokespecial 3, 3) := by decide +kernel
theorem dX3_init_4 : decode cX3_init 4 = .ok (.aload_n 0, 1) := by decide +kernel
theorem dX3_init_5 : decode cX3_init 5 = .ok (.new 9, 3) := by decide +kernel
theorem dX3_init_8 : decode cX3_init 8 = .ok (.dup, 1) := by decide +kernel
theorem dX3_init_9 : decode cX3_init 9 = .ok (.iconst 0, 1) := by decide +kernel
theorem dX3_init_10 : decode cX3_init 10 = .ok (.iconst 0, 1) := by decide +kernel
theorem dX3_init_11 : decode cX3_init 11 = .ok (.newarray .int, 2) := by decide +kernel
theorem dX3_init_13 : decode cX3_init 13 = .ok (.iconst 0, 1) := by decide +kernel
theorem dX3_init_14 : decode cX3_init 14 = .ok (.newarray .int, 2) := by decide +kernel
theorem dX3_init_16 : decode cX3_init 16 = .ok (.iconst 0, 1) := by decide +kernel
theorem dX3_init_17 : decode cX3_init 17 = .ok (.newarray .int, 2) := by decide +kernel
theorem dX3_init_19 : decode cX3_init 19 = .ok (.iconst 0, 1) := by decide +kernel
theorem dX3_init_20 : decode cX3_init 20 = .ok (.newarray .int, 2) := by decide +kernel
theorem dX3_init_22 : decode cX3_init 22 = .ok (.iconst 0, 1) := by decide +kernel
theorem dX3_init_23 : decode cX3_init 23 = .ok (.newarray .int, 2) := by decide +kernel
theorem dX3_init_25 : decode cX3_init 25 = .ok (.invokespecial 11, 3) := by decide +kernel
theorem dX3_init_28 : decode cX3_init 28 = .ok (.putfield 14, 3) := by decide +kernel
theorem dX3_init_31 : decode cX3_init 31 = .ok (.aload_n 0, 1) := by decide +kernel
theorem dX3_init_32 : decode cX3_init 32 = .ok (.bipush 20, 2) := by decide +kernel
theorem dX3_init_34 : decode cX3_init 34 = .ok (.anewarray 9, 3) := by decide +kernel
theorem dX3_init_37 : decode cX3_init 37 = .ok (.putfield 20, 3) := by decide +kernel
theorem dX3_init_64 : decode cX3_init 64 = .ok (.aload_n 0, 1) := by decide +kernel
theorem dX3_init_65 : decode cX3_init 65 = .ok (.bipush 20, 2) := by decide +kernel
theorem dX3_init_67 : decode cX3_init 67 = .ok (.newarray .int, 2) := by decide +kernel
theorem dX3_init_69 : decode cX3_init 69 = .ok (.putfield 24, 3) := by decide +kernel
theorem dX3_init_72 : decode cX3_init 72 = .ok (.aload_n 0, 1) := by decide +kernel
theorem dX3_init_73 : decode cX3_init 73 = .ok (.aload_n 0, 1) := by decide +kernel
theorem dX3_init_74 : decode cX3_init 74 = .ok (.getfield 14, 3) := by decide +kernel
theorem dX3_init_77 : decode cX3_init 77 = .ok (.putfield 28, 3) := by decide +kernel
theorem dX3_init_80 : decode cX3_init 80 = .ok (.aload_n 0, 1) := by decide +kernel
theorem dX3_init_81 : decode cX3_init 81 = .ok (.bipush 30, 2) := by decide +kernel
theorem dX3_init_83 : decode cX3_init 83 = .ok (.newarray .boolean, 2) := by decide +kernel
theorem dX3_init_85 : decode cX3_init 85 = .ok (.putfield 31, 3) := by decide +kernel
theorem dX3_init_88 : decode cX3_init 88 = .ok (.return_, 1) := by decide +kernel
def cLw (q : Nat)  : List jg_C := [.inl (3, [.ref (q + 1), .ref (q + 7), .ref (q + 8), .int 0, .int 0, .ref (q + 1), .int 0, .ref (q + 9), .int 0, .int 0]), .inl (0, [.int (nI 0), .ref (q + 2), .ref (q + 3), .ref (q + 4), .ref (q + 5), .ref (q + 6)]), .inr (0, 0, .inl (fun _ => 0)), .inr (0, 0, .inl (fun _ => 0)), .inr (0, 0, .inl (fun _ => 0)), .inr (0, 0, .inl (fun _ => 0)), .inr (0, 0, .inl (fun _ => 0)), .inr (4, 20, .inr (.inr (fun i => if i < 20 then some (q + 1) else none))), .inr (0, 20, .inl (fun _ => 0)), .inr (2, 30, .inl (fun _ => 0))]
set_option maxHeartbeats 4000000 in
set_option maxRecDepth 20000 in
theorem t_X3_init {Γ : jg_G} (f : Nat → jg_C) (q : Nat)  (hn : q + 10 ≤ 1000000) : jc Γ mX3_init 2 9 76 [some (.ref q), none] (apx f q [.inl (3, [.null, .null, .null, .int 0, .int 0, .null, .int 0, .null, .int 0, .int 0])], q + 1) (.inl none) (apx f q (cLw q ), q + 10) := by
  refine jc_of ?_
  refine jg_aload_n dX3_init_0 rfl ?_
  refine jg_objI ko_X3_3 (jg_m1 36 rfl rfl) (jg_m1 37 rfl rfl) dX3_init_1 (by decide) (Nat.le_of_ble_eq_true rfl) ?_
  refine jg_aload_n dX3_init_4 rfl ?_
  refine jg_new (ci := 0) (N := 6) (fs := [.int 0, .null, .null, .null, .null, .null]) jc_X0 kc_X3_9 kn_X0 wi_X0 (mk_df0 Γ) dX3_init_5 (by show q + 1 < 1000000; omega) (Nat.le_of_ble_eq_true rfl) (Nat.le_of_ble_eq_true rfl) ?_
  refine jg_hs (S' := [.ref (q + 1), .ref q]) (h' := (apx f q ([.inl (3, [.null, .null, .null, .int 0, .int 0, .null, .int 0, .null, .int 0, .int 0]), .inl (0, [.int 0, .null, .null, .null, .null, .null])]), q + 2)) rfl (mk_push rfl rfl) ?_
  refine jg_dup dX3_init_8 rfl ?_
  refine jg_iconst (v := nI 0) dX3_init_9 (by decide) ?_
  refine jg_iconst (v := nI 0) dX3_init_10 (by decide) ?_
  refine jg_newa (at9 := .int) (ki := 0) (N := 0) (by decide) rfl ka_int dX3_init_11 (by decide) (by decide) (by decide) (by show q + 2 < 1000000; omega) (Nat.le_of_ble_eq_true rfl) (Nat.le_of_ble_eq_true rfl) ?_
  refine jg_hs (S' := [.ref (q + 2), .int (nI 0), .ref (q + 1), .ref (q + 1), .ref q]) (h' := (apx f q ([.inl (3, [.null, .null, .null, .int 0, .int 0, .null, .int 0, .null, .int 0, .int 0]), .inl (0, [.int 0, .null, .null, .null, .null, .null]), .inr (0, 0, .inl (fun _ => 0))]), q + 3)) rfl (mk_push rfl rfl) ?_
  refine jg_iconst (v := nI 0) dX3_init_13 (by decide) ?_
  refine jg_newa (at9 := .int) (ki := 0) (N := 0) (by decide) rfl ka_int dX3_init_14 (by decide) (by decide) (by decide) (by show q + 3 < 1000000; omega) (Nat.le_of_ble_eq_true rfl) (Nat.le_of_ble_eq_true rfl) ?_
  refine jg_hs (S' := [.ref (q + 3), .ref (q + 2), .int (nI 0), .ref (q + 1), .ref (q + 1), .ref q]) (h' := (apx f q ([.inl (3, [.null, .null, .null, .int 0, .int 0, .null, .int 0, .null, .int 0, .int 0]), .inl (0, [.int 0, .null, .null, .null, .null, .null]), .inr (0, 0, .inl (fun _ => 0)), .inr (0, 0, .inl (fun _ => 0))]), q + 4)) rfl (mk_push rfl rfl) ?_
  refine jg_iconst (v := nI 0) dX3_init_16 (by decide) ?_
  refine jg_newa (at9 := .int) (ki := 0) (N := 0) (by decide) rfl ka_int dX3_init_17 (by decide) (by decide) (by decide) (by show q + 4 < 1000000; omega) (Nat.le_of_ble_eq_true rfl) (Nat.le_of_ble_eq_true rfl) ?_
  refine jg_hs (S' := [.ref (q + 4), .ref (q + 3), .ref (q + 2), .int (nI 0), .ref (q + 1), .ref (q + 1), .ref q]) (h' := (apx f q ([.inl (3, [.null, .null, .null, .int 0, .int 0, .null, .int 0, .null, .int 0, .int 0]), .inl (0, [.int 0, .null, .null, .null, .null, .null]), .inr (0, 0, .inl (fun _ => 0)), .inr (0, 0, .inl (fun _ => 0)), .inr (0, 0, .inl (fun _ => 0))]), q + 5)) rfl (mk_push rfl rfl) ?_
  refine jg_iconst (v := nI 0) dX3_init_19 (by decide) ?_
  refine jg_newa (at9 := .int) (ki := 0) (N := 0) (by decide) rfl ka_int dX3_init_20 (by decide) (by decide) (by decide) (by show q + 5 < 1000000; omega) (Nat.le_of_ble_eq_true rfl) (Nat.le_of_ble_eq_true rfl) ?_
  refine jg_hs (S' := [.ref (q + 5), .ref (q + 4), .ref (q + 3), .ref (q + 2), .int (nI 0), .ref (q + 1), .ref (q + 1), .ref q]) (h' := (apx f q ([.inl (3, [.null, .null, .null, .int 0, .int 0, .null, .int 0, .null, .int 0, .int 0]), .inl (0, [.int 0, .null, .null, .null, .null, .null]), .inr (0, 0, .inl (fun _ => 0)), .inr (0, 0, .inl (fun _ => 0)), .inr (0, 0, .inl (fun _ => 0)), .inr (0, 0, .inl (fun _ => 0))]), q + 6)) rfl (mk_push rfl rfl) ?_
  refine jg_iconst (v := nI 0) dX3_init_22 (by decide) ?_
  refine jg_newa (at9 := .int) (ki := 0) (N := 0) (by decide) rfl ka_int dX3_init_23 (by decide) (by decide) (by decide) (by show q + 6 < 1000000; omega) (Nat.le_of_ble_eq_true rfl) (Nat.le_of_ble_eq_true rfl) ?_
  refine jg_hs (S' := [.ref (q + 6), .ref (q + 5), .ref (q + 4), .ref (q + 3), .ref (q + 2), .int (nI 0), .ref (q + 1), .ref (q + 1), .ref q]) (h' := (apx f q ([.inl (3, [.null, .null, .null, .int 0, .int 0, .null, .int 0, .null, .int 0, .int 0]), .inl (0, [.int 0, .null, .null, .null, .null, .null]), .inr (0, 0, .inl (fun _ => 0)), .inr (0, 0, .inl (fun _ => 0)), .inr (0, 0, .inl (fun _ => 0)), .inr (0, 0, .inl (fun _ => 0)), .inr (0, 0, .inl (fun _ => 0))]), q + 7)) rfl (mk_push rfl rfl) ?_
  refine jc_I (q := (q + 1)) (As := [.int (nI 0), .ref (q + 2), .ref (q + 3), .ref (q + 4), .ref (q + 5), .ref (q + 6)]) (a' := 0) (b' := 0) ki_X3_11 dX3_init_25 rfl (by decide) (Nat.le_of_ble_eq_true rfl) rfl (by decide) (Nat.zero_le _) (Nat.zero_le _) (Nat.le_of_ble_eq_true rfl) (t_X0_init _ (q + 1) (nI 0) (q + 2) (q + 3) (q + 4) (q + 5) (q + 6) (by show (q + 1) < q + 7; omega) (app_at (i := 1) rfl)) ?_
  refine jg_hs (S' := [.ref (q + 1), .ref q]) (h' := (apx f q ([.inl (3, [.null, .null, .null, .int 0, .int 0, .null, .int 0, .null, .int 0, .int 0]), .inl (0, [.int (nI 0), .ref (q + 2), .ref (q + 3), .ref (q + 4), .ref (q + 5), .ref (q + 6)]), .inr (0, 0, .inl (fun _ => 0)), .inr (0, 0, .inl (fun _ => 0)), .inr (0, 0, .inl (fun _ => 0)), .inr (0, 0, .inl (fun _ => 0)), .inr (0, 0, .inl (fun _ => 0))]), q + 7)) rfl (mk_set (i := 1) (ltb rfl) rfl) ?_
  refine jg_putF (q := q) fl_X3_14 rfl rfl dX3_init_28 (by show q < q + 7; omega) (app_at (i := 0) rfl) (ltb rfl) rfl rfl ?_
  refine jg_hs (S' := []) (h' := (apx f q ([.inl (3, [.ref (q + 1), .null, .null, .int 0, .int 0, .null, .int 0, .null, .int 0, .int 0]), .inl (0, [.int (nI 0), .ref (q + 2), .ref (q + 3), .ref (q + 4), .ref (q + 5), .ref (q + 6)]), .inr (0, 0, .inl (fun _ => 0)), .inr (0, 0, .inl (fun _ => 0)), .inr (0, 0, .inl (fun _ => 0)), .inr (0, 0, .inl (fun _ => 0)), .inr (0, 0, .inl (fun _ => 0))]), q + 7)) rfl (mk_set (i := 0) (ltb rfl) rfl) ?_
  refine jg_aload_n dX3_init_31 rfl ?_
  refine jg_bipush (v := nI 20) dX3_init_32 (by decide) ?_
  refine jg_newq (ki := 4) (N := 20) (Or.inl ⟨rfl, rfl⟩) kc_X3_9 dX3_init_34 (by decide) (by decide) (by decide) (by show q + 7 < 1000000; omega) (Nat.le_of_ble_eq_true rfl) (Nat.le_of_ble_eq_true rfl) ?_
  refine jg_hs (S' := [.ref (q + 7), .ref q]) (h' := (apx f q ([.inl (3, [.ref (q + 1), .null, .null, .int 0, .int 0, .null, .int 0, .null, .int 0, .int 0]), .inl (0, [.int (nI 0), .ref (q + 2), .ref (q + 3), .ref (q + 4), .ref (q + 5), .ref (q + 6)]), .inr (0, 0, .inl (fun _ => 0)), .inr (0, 0, .inl (fun _ => 0)), .inr (0, 0, .inl (fun _ => 0)), .inr (0, 0, .inl (fun _ => 0)), .inr (0, 0, .inl (fun _ => 0)), .inr (4, 20, .inr (.inr (fun _ => none)))]), q + 8)) rfl (mk_push rfl rfl) ?_
  refine jg_putF (q := q) fl_X3_20 rfl rfl dX3_init_37 (by show q < q + 8; omega) (app_at (i := 0) rfl) (ltb rfl) rfl rfl ?_
  refine jg_hs (S' := []) (h' := (apx f q ([.inl (3, [.ref (q + 1), .ref (q + 7), .null, .int 0, .int 0, .null, .int 0, .null, .int 0, .int 0]), .inl (0, [.int (nI 0), .ref (q + 2), .ref (q + 3), .ref (q + 4), .ref (q + 5), .ref (q + 6)]), .inr (0, 0, .inl (fun _ => 0)), .inr (0, 0, .inl (fun _ => 0)), .inr (0, 0, .inl (fun _ => 0)), .inr (0, 0, .inl (fun _ => 0)), .inr (0, 0, .inl (fun _ => 0)), .inr (4, 20, .inr (.inr (fun _ => none)))]), q + 8)) rfl (mk_set (i := 0) (ltb rfl) rfl) ?_
  refine jg_iconst (v := nI 0) dX3_init_40 (by decide) ?_
  refine jg_istore_n (L' := [some (.ref q), some (.int (nI 0))]) dX3_init_41 (by decide) rfl ?_
  refine jg_hs (S' := []) (h' := (apx f q (cL3 q 0), q + 8)) rfl (congrArg (fun z => (apx f q [_, _, _, _, _, _, _, .inr (4, 20, .inr (.inr z))], q + 8)) (funext fun m => (if_neg (Nat.not_lt_zero m)).symm)) ?_
  refine mk_lp3 f q ?_ 20 0 (by omega)
  refine jg_hs (S' := []) (h' := (apx f q ([.inl (3, [.ref (q + 1), .ref (q + 7), .null, .int 0, .int 0, .null, .int 0, .null, .int 0, .int 0]), .inl (0, [.int (nI 0), .ref (q + 2), .ref (q + 3), .ref (q + 4), .ref (q + 5), .ref (q + 6)]), .inr (0, 0, .inl (fun _ => 0)), .inr (0, 0, .inl (fun _ => 0)), .inr (0, 0, .inl (fun _ => 0)), .inr (0, 0, .inl (fun _ => 0)), .inr (0, 0, .inl (fun _ => 0)), .inr (4, 20, .inr (.inr (fun i => if i < 20 then some (q + 1) else none)))]), q + 8)) rfl rfl ?_
  refine jg_aload_n dX3_init_64 rfl ?_
  refine jg_bipush (v := nI 20) dX3_init_65 (by decide) ?_
  refine jg_newa (at9 := .int) (ki := 0) (N := 20) (by decide) rfl ka_int dX3_init_67 (by decide) (by decide) (by decide) (by show q + 8 < 1000000; omega) (Nat.le_of_ble_eq_true rfl) (Nat.le_of_ble_eq_true rfl) ?_
  refine jg_hs (S' := [.ref (q + 8), .ref q]) (h' := (apx f q ([.inl (3, [.ref (q + 1), .ref (q + 7), .null, .int 0, .int 0, .null, .int 0, .null, .int 0, .int 0]), .inl (0, [.int (nI 0), .ref (q + 2), .ref (q + 3), .ref (q + 4), .ref (q + 5), .ref (q + 6)]), .inr (0, 0, .inl (fun _ => 0)), .inr (0, 0, .inl (fun _ => 0)), .inr (0, 0, .inl (fun _ => 0)), .inr (0, 0, .inl (fun _ => 0)), .inr (0, 0, .inl (fun _ => 0)), .inr (4, 20, .inr (.inr (fun i => if i < 20 then some (q + 1) else none))), .inr (0, 20, .inl (fun _ => 0))]), q + 9)) rfl (mk_push rfl rfl) ?_
  refine jg_putF (q := q) fl_X3_24 rfl rfl dX3_init_69 (by show q < q + 9; omega) (app_at (i := 0) rfl) (ltb rfl) rfl rfl ?_
  refine jg_hs (S' := []) (h' := (apx f q ([.inl (3, [.ref (q + 1), .ref (q + 7), .ref (q + 8), .int 0, .int 0, .null, .int 0, .null, .int 0, .int 0]), .inl (0, [.int (nI 0), .ref (q + 2), .ref (q + 3), .ref (q + 4), .ref (q + 5), .ref (q + 6)]), .inr (0, 0, .inl (fun _ => 0)), .inr (0, 0, .inl (fun _ => 0)), .inr (0, 0, .inl (fun _ => 0)), .inr (0, 0, .inl (fun _ => 0)), .inr (0, 0, .inl (fun _ => 0)), .inr (4, 20, .inr (.inr (fun i => if i < 20 then some (q + 1) else none))), .inr (0, 20, .inl (fun _ => 0))]), q + 9)) rfl (mk_set (i := 0) (ltb rfl) rfl) ?_
  refine jg_aload_n dX3_init_72 rfl ?_
  refine jg_aload_n dX3_init_73 rfl ?_
  refine jg_get (q := q) (v := .ref (q + 1)) fl_X3_14 dX3_init_74 (by show q < q + 9; omega) (app_at (i := 0) rfl) rfl ?_
  refine jg_put (q := q) fl_X3_28 dX3_init_77 (by show q < q + 9; omega) (app_at (i := 0) rfl) (ltb rfl) rfl rfl ?_
  refine jg_hs (S' := []) (h' := (apx f q ([.inl (3, [.ref (q + 1), .ref (q + 7), .ref (q + 8), .int 0, .int 0, .ref (q + 1), .int 0, .null, .int 0, .int 0]), .inl (0, [.int (nI 0), .ref (q + 2), .ref (q + 3), .ref (q + 4), .ref (q + 5), .ref (q + 6)]), .inr (0, 0, .inl (fun _ => 0)), .inr (0, 0, .inl (fun _ => 0)), .inr (0, 0, .inl (fun _ => 0)), .inr (0, 0, .inl (fun _ => 0)), .inr (0, 0, .inl (fun _ => 0)), .inr (4, 20, .inr (.inr (fun i => if i < 20 then some (q + 1) else none))), .inr (0, 20, .inl (fun _ => 0))]), q + 9)) rfl (mk_set (i := 0) (ltb rfl) rfl) ?_
  refine jg_aload_n dX3_init_80 rfl ?_
  refine jg_bipush (v := nI 30) dX3_init_81 (by decide) ?_
  refine jg_newa (at9 := .boolean) (ki := 2) (N := 30) (by decide) rfl ka_boolean dX3_init_83 (by decide) (by decide) (by decide) (by show q + 9 < 1000000; omega) (Nat.le_of_ble_eq_true rfl) (Nat.le_of_ble_eq_true rfl) ?_
  refine jg_hs (S' := [.ref (q + 9), .ref q]) (h' := (apx f q ([.inl (3, [.ref (q + 1), .ref (q + 7), .ref (q + 8), .int 0, .int 0, .ref (q + 1), .int 0, .null, .int 0, .int 0]), .inl (0, [.int (nI 0), .ref (q + 2), .ref (q + 3), .ref (q + 4), .ref (q + 5), .ref (q + 6)]), .inr (0, 0, .inl (fun _ => 0)), .inr (0, 0, .inl (fun _ => 0)), .inr (0, 0, .inl (fun _ => 0)), .inr (0, 0, .inl (fun _ => 0)), .inr (0, 0, .inl (fun _ => 0)), .inr (4, 20, .inr (.inr (fun i => if i < 20 then some (q + 1) else none))), .inr (0, 20, .inl (fun _ => 0)), .inr (2, 30, .inl (fun _ => 0))]), q + 10)) rfl (mk_push rfl rfl) ?_
  refine jg_putF (q := q) fl_X3_31 rfl rfl dX3_init_85 (by show q < q + 10; omega) (app_at (i := 0) rfl) (ltb rfl) rfl rfl ?_
  refine jg_hs (S' := []) (h' := (apx f q ([.inl (3, [.ref (q + 1), .ref (q + 7), .ref (q + 8), .int 0, .int 0, .ref (q + 1), .int 0, .ref (q + 9), .int 0, .int 0]), .inl (0, [.int (nI 0), .ref (q + 2), .ref (q + 3), .ref (q + 4), .ref (q + 5), .ref (q + 6)]), .inr (0, 0, .inl (fun _ => 0)), .inr (0, 0, .inl (fun _ => 0)), .inr (0, 0, .inl (fun _ => 0)), .inr (0, 0, .inl (fun _ => 0)), .inr (0, 0, .inl (fun _ => 0)), .inr (4, 20, .inr (.inr (fun i => if i < 20 then some (q + 1) else none))), .inr (0, 20, .inl (fun _ => 0)), .inr (2, 30, .inl (fun _ => 0))]), q + 10)) rfl (mk_set (i := 0) (ltb rfl) rfl) ?_
  exact jg_return dX3_init_88 rfl ⟨rfl, rfl⟩
theorem dX5_init_13 : decode cX5_init 13 = .ok (.iconst 0, 1) := by decide +kernel
theorem dX5_init_14 : decode cX5_init 14 = .ok (.istore_n 2, 1) := by decide +kernel
theorem dX5_init_15 : decode cX5_init 15 = .ok (.iload_n 2, 1) := by decide +kernel
theorem dX5_init_16 : decode cX5_init 16 = .ok (.bipush 10, 2) := by decide +kernel
theorem dX5_init_18 : decode cX5_init 18 = .ok (.if_icmp .ge 22, 3) := by decide +kernel
theorem dX5_init_21 : decode cX5_init 21 = .ok (.aload_n 0, 1) := by decide +kernel
theorem dX5_init_22 : decode cX5_init 22 = .ok (.getfield 11, 3) := by decide +kernel
theorem dX5_init_25 : decode cX5_init 25 = .ok (.iload_n 2, 1) := by decide +kernel
theorem dX5_init_26 : decode cX5_init 26 = .ok (.new 9, 3) := by decide +kernel
theorem dX5_init_29 : decode cX5_init 29 = .ok (.dup, 1) := by decide +kernel
theorem dX5_init_30 : decode cX5_init 30 = .ok (.invokespecial 17, 3) := by decide +kernel
theorem dX5_init_33 : decode cX5_init 33 = .ok (.aastore, 1) := by decide +kernel
theorem dX5_init_34 : decode cX5_init 34 = .ok (.iinc 2 1, 3) := by decide +kernel
theorem dX5_init_37 : decode cX5_init 37 = .ok (.goto (-22), 3) := by decide +kernel
theorem dX5_init_49 : decode cX5_init 49 = .ok (.iconst 0, 1) := by decide +kernel
theorem dX5_init_50 : decode cX5_init 50 = .ok (.istore_n 2, 1) := by decide +kernel
theorem dX5_init_51 : decode cX5_init 51 = .ok (.iload_n 2, 1) := by decide +kernel
theorem dX5_init_52 : decode cX5_init 52 = .ok (.bipush 80, 2) := by decide +kernel
theorem dX5_init_54 : decode cX5_init 54 = .ok (.if_icmp .ge 23, 3) := by decide +kernel
theorem dX5_init_57 : decode cX5_init 57 = .ok (.aload_n 0, 1) := by decide +kernel
theorem dX5_init_58 : decode cX5_init 58 = .ok (.getfield 20, 3) := by decide +kernel
theorem dX5_init_61 : decode cX5_init 61 = .ok (.iload_n 2, 1) := by decide +kernel
theorem dX5_init_62 : decode cX5_init 62 = .ok (.new 18, 3) := by decide +kernel
theorem dX5_init_65 : decode cX5_init 65 = .ok (.dup, 1) := by decide +kernel
theorem dX5_init_66 : decode cX5_init 66 = .ok (.aload_n 1, 1) := by decide +kernel
theorem dX5_init_67 : decode cX5_init 67 = .ok (.invokespecial 24, 3) := by decide +kernel
theorem dX5_init_70 : decode cX5_init 70 = .ok (.aastore, 1) := by decide +kernel
theorem dX5_init_71 : decode cX5_init 71 = .ok (.iinc 2 1, 3) := by decide +kernel
theorem dX5_init_74 : decode cX5_init 74 = .ok (.goto (-23), 3) := by decide +kernel
def cB1 : jg_C := .inl (1, [.int 0, .int 0, .int 0, .int 0, .int 0, .int 0, .int 0, .int 0, .int 0])
def cS1 (y : Nat) : jg_C := .inl (9, [.int 0, .int 0, .int 0, .int 0, .int 0, .int 0, .int 0, .int 0, .ref y, .int 0, .int 0, .int 0, .int 0, .int 0, .int 0, .int 0, .int 0, .int 0, .int 0])
def cP5 (q j : Nat) : List jg_C := .inl (5, [.ref (q + 1), .int 0, .null, .int 0, .int 0, .int 0, .null, .int 0]) :: .inr (5, 10, .inr (.inr (mk_F 10 (q + 1 + 1) j))) :: List.replicate j cB1
theorem mk_lp5 {Γ : jg_G} {a b : Nat} {Q : jg_Q} (f : Nat → jg_C) (q y : Nat) (hn : q + 12 ≤ 1000000) (K1 : jg Γ mX5_init 2 a b 40 [some (.ref q), some (.ref y), none] [] (apx f q (cP5 q 10), q + 12) Q) : ∀ i j : Nat, j + i = 10 → jg Γ mX5_init 2 (a + i) (b + i * 9) 15 [some (.ref q), some (.ref y), some (.int (nI j))] [] (apx f q (cP5 q j), q + (2 + j)) Q := by
  intro i
  induction i with
  | zero =>
    intro j hj
    obtain rfl : j = 10 := by omega
    refine jg_iload_n dX5_init_15 rfl ?_
    refine jg_bipush (v := nI 10) dX5_init_16 (by decide) ?_
    refine jg_icmp_ge (tgt := 40) dX5_init_18 (by decide) (fun _ => ?_) (fun c => absurd (Int32.le_refl _) c)
    exact jg_fg (L' := [some (.ref q), some (.ref y), none]) ⟨rfl, rfl, trivial⟩ (jg_less (by omega) (by omega) K1)
  | succ i ih =>
    intro j hj
    refine jg_iload_n dX5_init_15 rfl ?_
    refine jg_bipush (v := nI 10) dX5_init_16 (by decide) ?_
    refine jg_icmp_ge (tgt := 40) dX5_init_18 (by decide) (fun c => absurd c (nI_ge (show j < 10 by omega) (by decide))) (fun _ => ?_)
    refine jg_aload_n dX5_init_21 rfl ?_
    refine jg_get (q := q) (v := .ref (q + 1)) fl_X5_11 dX5_init_22 (by show q < q + (2 + j); omega) (app_at (i := 0) rfl) rfl ?_
    refine jg_iload_n dX5_init_25 rfl ?_
    refine jg_new (ci := 1) (N := 9) (fs := [.int 0, .int 0, .int 0, .int 0, .int 0, .int 0, .int 0, .int 0, .int 0]) jc_X1 kc_X5_9 kn_X1 wi_X1 (mk_df1 Γ) dX5_init_26 (by show q + (2 + j) < 1000000; omega) (by omega) (by omega) ?_
    refine jg_hs (S' := [.ref (q + (2 + j)), .int (nI j), .ref (q + 1)]) (h' := (apx f q (.inl (5, [.ref (q + 1), .int 0, .null, .int 0, .int 0, .int 0, .null, .int 0]) :: .inr (5, 10, .inr (.inr (mk_F 10 (q + 1 + 1) j))) :: List.replicate (j + 1) cB1), q + (2 + j + 1))) rfl (mk_push (xs := cP5 q j) (by unfold cP5; simp; omega) (by unfold cP5; rw [List.replicate_succ']; rfl)) ?_
    refine jg_dup dX5_init_29 rfl ?_
    have hb1 : (.inl (5, [.ref (q + 1), .int 0, .null, .int 0, .int 0, .int 0, .null, .int 0]) :: .inr (5, 10, .inr (.inr (mk_F 10 (q + 1 + 1) j))) :: List.replicate (j + 1) cB1 : List jg_C)[2 + j]? = some cB1 := by
      rw [show 2 + j = j + 1 + 1 by omega, List.getElem?_cons_succ, List.getElem?_cons_succ, List.getElem?_replicate, if_pos (by omega)]
    refine jg_callIN (q := q + (2 + j)) (As := []) (a' := 0) (b' := 0) (M' := mX1_init) (host := "SiltHarbour") (by decide +kernel) wn_X1_init rfl rfl wi_X1 wc_X1_init (by decide) (by decide +kernel) (by decide +kernel) dX5_init_30 rfl (by decide) (Nat.le_of_ble_eq_true rfl) rfl (by decide) (Nat.zero_le _) (Nat.zero_le _) (Nat.le_of_ble_eq_true rfl) (t_X1_init _ (q + (2 + j)) (by show q + (2 + j) < q + (2 + j + 1); omega) (app_at hb1) (jq (.inl none) _) ⟨rfl, rfl⟩) (fun v9 h9 e => ?_) (fun E9 h9 e => nomatch e.1)
    obtain ⟨e1, e2⟩ := e
    cases e1
    subst e2
    refine jg_hs (S' := [.ref (q + (2 + j)), .int (nI j), .ref (q + 1)]) (h' := (apx f q (.inl (5, [.ref (q + 1), .int 0, .null, .int 0, .int 0, .int 0, .null, .int 0]) :: .inr (5, 10, .inr (.inr (mk_F 10 (q + 1 + 1) j))) :: List.replicate (j + 1) cB1), q + (2 + j + 1))) rfl rfl ?_
    refine jg_aast (ki := 5) (ci := 1) (y := q + (2 + j)) (q := q + 1) (i := nI j) rfl rfl (Or.inr (Or.inl rfl)) dX5_init_33 (by show q + 1 < q + (2 + j + 1); omega) (app_at (i := 1) rfl) (by show q + (2 + j) < q + (2 + j + 1); omega) (app_at hb1) (vp_iL (iL_t (show j < 10 by omega) (by decide))) ?_
    refine jg_hs (S' := []) (h' := (apx f q (cP5 q (j + 1)), q + (2 + (j + 1)))) rfl ?_ ?_
    · refine mk_set (i := 1) (by simp) ?_
      rw [nI_clamp (by omega), show q + (2 + j) = q + 1 + 1 + j by omega, mk_F_up]
      rfl
    · refine jg_iinc (x := nI j) (v := nI (j + 1)) (L' := [some (.ref q), some (.ref y), some (.int (nI (j + 1)))]) dX5_init_34 rfl (by rw [show Int32.ofInt 1 = nI 1 by decide, nI_add]) (by decide) rfl ?_
      refine jg_goto (tgt := 15) dX5_init_37 (by decide) ?_
      exact jg_less (by omega) (by omega) (ih (j + 1) (by omega))
def cP6 (q y j : Nat) : List jg_C := ([.inl (5, [.ref (q + 1), .int 0, .ref (q + 12), .int 0, .int 0, .int 0, .null, .int 0])] ++ (.inr (5, 10, .inr (.inr (fun i => some (q + 1 + 1 + i)))) :: List.replicate 10 cB1)) ++ (.inr (6, 80, .inr (.inr (mk_F 80 (q + 12 + 1) j))) :: List.replicate j (cS1 y))
theorem mk_lp6 {Γ : jg_G} {a b : Nat} {Q : jg_Q} (f : Nat → jg_C) (q y : Nat) (hn : q + 93 ≤ 1000000) (K1 : jg Γ mX5_init 2 a b 77 [some (.ref q), none, none] [] (apx f q (cP6 q y 80), q + 93) Q) : ∀ i j : Nat, j + i = 80 → jg Γ mX5_init 2 (a + i) (b + i * 19) 51 [some (.ref q), some (.ref y), some (.int (nI j))] [] (apx f q (cP6 q y j), q + (13 + j)) Q := by
  intro i
  induction i with
  | zero =>
    intro j hj
    obtain rfl : j = 80 := by omega
    refine jg_iload_n dX5_init_51 rfl ?_
    refine jg_bipush (v := nI 80) dX5_init_52 (by decide) ?_
    refine jg_icmp_ge (tgt := 77) dX5_init_54 (by decide) (fun _ => ?_) (fun c => absurd (Int32.le_refl _) c)
    exact jg_fg (L' := [some (.ref q), none, none]) ⟨rfl, trivial⟩ (jg_less (by omega) (by omega) K1)
  | succ i ih =>
    intro j hj
    refine jg_iload_n dX5_init_51 rfl ?_
    refine jg_bipush (v := nI 80) dX5_init_52 (by decide) ?_
    refine jg_icmp_ge (tgt := 77) dX5_init_54 (by decide) (fun c => absurd c (nI_ge (show j < 80 by omega) (by decide))) (fun _ => ?_)
    refine jg_aload_n dX5_init_57 rfl ?_
    refine jg_get (q := q) (v := .ref (q + 12)) fl_X5_20 dX5_init_58 (by show q < q + (13 + j); omega) (app_at (i := 0) rfl) rfl ?_
    refine jg_iload_n dX5_init_61 rfl ?_
    refine jg_new (ci := 9) (N := 19) (fs := [.int 0, .int 0, .int 0, .int 0, .int 0, .int 0, .int 0, .int 0, .null, .int 0, .int 0, .int 0, .int 0, .int 0, .int 0, .int 0, .int 0, .int 0, .int 0]) jc_X9 kc_X5_18 kn_X9 wi_X9 (mk_df9 Γ) dX5_init_62 (by show q + (13 + j) < 1000000; omega) (by omega) (by omega) ?_
    refine jg_dup dX5_init_65 rfl ?_
    refine jg_aload_n dX5_init_66 rfl ?_
    refine jc_I (q := q + (13 + j)) (As := [.ref y]) (a' := 0) (b' := 0) ki_X5_24 dX5_init_67 rfl (by decide) (Nat.le_of_ble_eq_true rfl) rfl (by decide) (Nat.zero_le _) (Nat.zero_le _) (Nat.le_of_ble_eq_true rfl) (t_X9_init _ (q + (13 + j)) y (by show q + (13 + j) < q + (13 + j) + 1; omega) (va_up_self _ _ _)) ?_
    refine jg_hs (S' := [.ref (q + (13 + j)), .int (nI j), .ref (q + 12)]) (h' := (apx f q (([.inl (5, [.ref (q + 1), .int 0, .ref (q + 12), .int 0, .int 0, .int 0, .null, .int 0])] ++ (.inr (5, 10, .inr (.inr (fun i => some (q + 1 + 1 + i)))) :: List.replicate 10 cB1)) ++ (.inr (6, 80, .inr (.inr (mk_F 80 (q + 12 + 1) j))) :: List.replicate (j + 1) (cS1 y))), q + (13 + j + 1))) rfl ?_ ?_
    · show (va_up (va_up (apx f q (cP6 q y j)) (q + (13 + j)) _) (q + (13 + j)) (cS1 y), q + (13 + j) + 1) = _
      rw [mk_uu]
      refine mk_push ?_ ?_
      · unfold cP6; simp; omega
      · unfold cP6; rw [List.append_assoc, List.replicate_succ' (n := j)]; rfl
    have hb1 : (([.inl (5, [.ref (q + 1), .int 0, .ref (q + 12), .int 0, .int 0, .int 0, .null, .int 0])] ++ (.inr (5, 10, .inr (.inr (fun i => some (q + 1 + 1 + i)))) :: List.replicate 10 cB1)) ++ (.inr (6, 80, .inr (.inr (mk_F 80 (q + 12 + 1) j))) :: List.replicate (j + 1) (cS1 y)) : List jg_C)[13 + j]? = some (cS1 y) := by
      rw [List.getElem?_append_right (by simp; omega), show 13 + j - ([.inl (5, [.ref (q + 1), .int 0, .ref (q + 12), .int 0, .int 0, .int 0, .null, .int 0])] ++ (.inr (5, 10, .inr (.inr (fun i => some (q + 1 + 1 + i)))) :: List.replicate 10 cB1) : List jg_C).length = j + 1 by simp; omega, List.getElem?_cons_succ, List.getElem?_replicate, if_pos (by omega)]
    refine jg_aast (ki := 6) (ci := 9) (y := q + (13 + j)) (q := q + 12) (i := nI j) rfl rfl (Or.inr (Or.inr rfl)) dX5_init_70 (by show q + 12 < q + (13 + j + 1); omega) (app_at (i := 12) rfl) (by show q + (13 + j) < q + (13 + j + 1); omega) (app_at hb1) (vp_iL (iL_t (show j < 80 by omega) (by decide))) ?_
    refine jg_hs (S' := []) (h' := (apx f q (cP6 q y (j + 1)), q + (13 + (j + 1)))) rfl ?_ ?_
    · refine mk_set (i := 12) (by simp) ?_
      rw [nI_clamp (by omega), show q + (13 + j) = q + 12 + 1 + j by omega, mk_F_up]
      rfl
    · refine jg_iinc (x := nI j) (v := nI (j + 1)) (L' := [some (.ref q), some (.ref y), some (.int (nI (j + 1)))]) dX5_init_71 rfl (by rw [show Int32.ofInt 1 = nI 1 by decide, nI_add]) (by decide) rfl ?_
      refine jg_goto (tgt := 51) dX5_init_74 (by decide) ?_
      exact jg_less (by omega) (by omega) (ih (j + 1) (by omega))
theorem dX5_init_0 : decode cX5_init 0 = .ok (.aload_n 0, 1) := by decide +kernel
theorem dX5_init_1 : decode cX5_init 1 = .ok (.invokespecial 3, 3) := by decide +kernel
theorem dX5_init_4 : decode cX5_init 4 = .ok (.aload_n 0, 1) := by decide +kernel
theorem dX5_init_5 : decode cX5_init 5 = .ok (.bipush 10, 2) := by decide +kernel
theorem dX5_init_7 : decode cX5_init 7 = .ok (.anewarray 9, 3) := by decide +kernel
theorem dX5_init_10 : decode cX5_init 10 = .ok (.putfield 11, 3) := by decide +kernel
theorem dX5_init_40 : decode cX5_init 40 = .ok (.aload_n 0, 1) := by decide +kernel
theorem dX5_init_41 : decode cX5_init 41 = .ok (.bipush 80, 2) := by decide +kernel
theorem dX5_init_43 : decode cX5_init 43 = .ok (.anewarray 18, 3) := by decide +kernel
theorem dX5_init_46 : decode cX5_init 46 = .ok (.putfield 20, 3) := by decide +kernel
theorem dX5_init_77 : decode cX5_init 77 = .ok (.aload_n 0, 1) := by decide +kernel
theorem dX5_init_78 : decode cX5_init 78 = .ok (.iconst 2, 1) := by decide +kernel
theorem dX5_init_79 : decode cX5_init 79 = .ok (.putfield 27, 3) := by decide +kernel
theorem dX5_init_82 : decode cX5_init 82 = .ok (.aload_n 0, 1) := by decide +kernel
theorem dX5_init_83 : decode cX5_init 83 = .ok (.iconst 1, 1) := by decide +kernel
theorem dX5_init_84 : decode cX5_init 84 = .ok (.putfield 31, 3) := by decide +kernel
theorem dX5_init_87 : decode cX5_init 87 = .ok (.aload_n 0, 1) := by decide +kernel
theorem dX5_init_88 : decode cX5_init 88 = .ok (.iconst 4, 1) := by decide +kernel
theorem dX5_init_89 : decode cX5_init 89 = .ok (.newarray .int, 2) := by decide +kernel
theorem dX5_init_91 : decode cX5_init 91 = .ok (.putfield 34, 3) := by decide +kernel
theorem dX5_init_94 : decode cX5_init 94 = .ok (.return_, 1) := by decide +kernel
def cPo (q : Nat) (y : Nat) : List jg_C := [.inl (5, [.ref (q + 1), .int 0, .ref (q + 12), .int 0, .int (nI 2), .int (nI 1), .ref (q + 93), .int 0])] ++ (.inr (5, 10, .inr (.inr (fun i => some (q + 1 + 1 + i)))) :: List.replicate 10 cB1 ++ (.inr (6, 80, .inr (.inr (fun i => some (q + 12 + 1 + i)))) :: List.replicate 80 (cS1 y) ++ ([.inr (0, 4, .inl (fun _ => 0))])))
set_option maxHeartbeats 4000000 in
set_option maxRecDepth 20000 in
theorem t_X5_init {Γ : jg_G} (f : Nat → jg_C) (q : Nat) (y : Nat) (hn : q + 94 ≤ 1000000) : jc Γ mX5_init 2 93 1704 [some (.ref q), some (.ref y), none] (apx f q [.inl (5, [.null, .int 0, .null, .int 0, .int 0, .int 0, .null, .int 0])], q + 1) (.inl none) (apx f q (cPo q y), q + 94) := by
  refine jc_of ?_
  refine jg_aload_n dX5_init_0 rfl ?_
  refine jg_objI ko_X5_3 (jg_m1 36 rfl rfl) (jg_m1 37 rfl rfl) dX5_init_1 (by decide) (Nat.le_of_ble_eq_true rfl) ?_
  refine jg_aload_n dX5_init_4 rfl ?_
  refine jg_bipush (v := nI 10) dX5_init_5 (by decide) ?_
  refine jg_newq (ki := 5) (N := 10) (Or.inr (Or.inl ⟨rfl, rfl⟩)) kc_X5_9 dX5_init_7 (by decide) (by decide) (by decide) (by show q + 1 < 1000000; omega) (Nat.le_of_ble_eq_true rfl) (Nat.le_of_ble_eq_true rfl) ?_
  refine mk_sw (ceq_q (f' := mk_F 10 (q + 1 + 1) 0) (fun i hi => (if_pos ⟨Nat.zero_le _, hi⟩).symm)) ?_
  refine jg_hs (S' := [.ref (q + 1), .ref q]) (h' := (apx f q ([.inl (5, [.null, .int 0, .null, .int 0, .int 0, .int 0, .null, .int 0]), .inr (5, 10, .inr (.inr (mk_F 10 (q + 1 + 1) 0)))]), q + 2)) rfl (mk_push rfl rfl) ?_
  refine jg_putF (q := q) fl_X5_11 rfl rfl dX5_init_10 (by show q < q + 2; omega) (app_at (i := 0) rfl) (ltb rfl) rfl rfl ?_
  refine jg_hs (S' := []) (h' := (apx f q ([.inl (5, [.ref (q + 1), .int 0, .null, .int 0, .int 0, .int 0, .null, .int 0]), .inr (5, 10, .inr (.inr (mk_F 10 (q + 1 + 1) 0)))]), q + 2)) rfl (mk_set (i := 0) (ltb rfl) rfl) ?_
  refine jg_iconst (v := nI 0) dX5_init_13 (by decide) ?_
  refine jg_istore_n (L' := [some (.ref q), some (.ref y), some (.int (nI 0))]) dX5_init_14 (by decide) rfl ?_
  refine mk_lp5 f q y (by omega) ?_ 10 0 (by omega)
  refine jg_hs (S' := []) (h' := (apx f q ([.inl (5, [.ref (q + 1), .int 0, .null, .int 0, .int 0, .int 0, .null, .int 0])] ++ (.inr (5, 10, .inr (.inr (fun i => some (q + 1 + 1 + i)))) :: List.replicate 10 cB1)), q + 12)) rfl (by show (apx f q (cP5 q 10), q + 12) = _; unfold cP5; rw [mk_F_end]; rfl) ?_
  refine jg_aload_n dX5_init_40 rfl ?_
  refine jg_bipush (v := nI 80) dX5_init_41 (by decide) ?_
  refine jg_newq (ki := 6) (N := 80) (Or.inr (Or.inr ⟨rfl, rfl⟩)) kc_X5_18 dX5_init_43 (by decide) (by decide) (by decide) (by show q + 12 < 1000000; omega) (Nat.le_of_ble_eq_true rfl) (Nat.le_of_ble_eq_true rfl) ?_
  refine mk_sw (ceq_q (f' := mk_F 80 (q + 12 + 1) 0) (fun i hi => (if_pos ⟨Nat.zero_le _, hi⟩).symm)) ?_
  refine jg_hs (S' := [.ref (q + 12), .ref q]) (h' := (apx f q ([.inl (5, [.ref (q + 1), .int 0, .null, .int 0, .int 0, .int 0, .null, .int 0])] ++ (.inr (5, 10, .inr (.inr (fun i => some (q + 1 + 1 + i)))) :: List.replicate 10 cB1 ++ ([.inr (6, 80, .inr (.inr (mk_F 80 (q + 12 + 1) 0)))]))), q + 13)) rfl (mk_push rfl rfl) ?_
  refine jg_putF (q := q) fl_X5_20 rfl rfl dX5_init_46 (by show q < q + 13; omega) (app_at (i := 0) rfl) (ltb rfl) rfl rfl ?_
  refine jg_hs (S' := []) (h' := (apx f q ([.inl (5, [.ref (q + 1), .int 0, .ref (q + 12), .int 0, .int 0, .int 0, .null, .int 0])] ++ (.inr (5, 10, .inr (.inr (fun i => some (q + 1 + 1 + i)))) :: List.replicate 10 cB1 ++ ([.inr (6, 80, .inr (.inr (mk_F 80 (q + 12 + 1) 0)))]))), q + 13)) rfl (mk_set (i := 0) (ltb rfl) rfl) ?_
  refine jg_iconst (v := nI 0) dX5_init_49 (by decide) ?_
  refine jg_istore_n (L' := [some (.ref q), some (.ref y), some (.int (nI 0))]) dX5_init_50 (by decide) rfl ?_
  refine mk_lp6 f q y (by omega) ?_ 80 0 (by omega)
  refine jg_hs (S' := []) (h' := (apx f q ([.inl (5, [.ref (q + 1), .int 0, .ref (q + 12), .int 0, .int 0, .int 0, .null, .int 0])] ++ (.inr (5, 10, .inr (.inr (fun i => some (q + 1 + 1 + i)))) :: List.replicate 10 cB1 ++ (.inr (6, 80, .inr (.inr (fun i => some (q + 12 + 1 + i)))) :: List.replicate 80 (cS1 y)))), q + 93)) rfl (by show (apx f q (cP6 q y 80), q + 93) = _; unfold cP6; rw [mk_F_end]; rfl) ?_
  refine jg_aload_n dX5_init_77 rfl ?_
  refine jg_iconst (v := nI 2) dX5_init_78 (by decide) ?_
  refine jg_put (q := q) fl_X5_27 dX5_init_79 (by show q < q + 93; omega) (app_at (i := 0) rfl) (ltb rfl) rfl rfl ?_
  refine jg_hs (S' := []) (h' := (apx f q ([.inl (5, [.ref (q + 1), .int 0, .ref (q + 12), .int 0, .int (nI 2), .int 0, .null, .int 0])] ++ (.inr (5, 10, .inr (.inr (fun i => some (q + 1 + 1 + i)))) :: List.replicate 10 cB1 ++ (.inr (6, 80, .inr (.inr (fun i => some (q + 12 + 1 + i)))) :: List.replicate 80 (cS1 y)))), q + 93)) rfl (mk_set (i := 0) (ltb rfl) rfl) ?_
  refine jg_aload_n dX5_init_82 rfl ?_
  refine jg_iconst (v := nI 1) dX5_init_83 (by decide) ?_
  refine jg_put (q := q) fl_X5_31 dX5_init_84 (by show q < q + 93; omega) (app_at (i := 0) rfl) (ltb rfl) rfl rfl ?_
  refine jg_hs (S' := []) (h' := (apx f q ([.inl (5, [.ref (q + 1), .int 0, .ref (q + 12), .int 0, .int (nI 2), .int (nI 1), .null, .int 0])] ++ (.inr (5, 10, .inr (.inr (fun i => some (q + 1 + 1 + i)))) :: List.replicate 10 cB1 ++ (.inr (6, 80, .inr (.inr (fun i => some (q + 12 + 1 + i)))) :: List.replicate 80 (cS1 y)))), q + 93)) rfl (mk_set (i := 0) (ltb rfl) rfl) ?_
  refine jg_aload_n dX5_init_87 rfl ?_
  refine jg_iconst (v := nI 4) dX5_init_88 (by decide) ?_
  refine jg_newa (at9 := .int) (ki := 0) (N := 4) (by decide) rfl ka_int dX5_init_89 (by decide) (by decide) (by decide) (by show q + 93 < 1000000; omega) (Nat.le_of_ble_eq_true rfl) (Nat.le_of_ble_eq_true rfl) ?_
  refine jg_hs (S' := [.ref (q + 93), .ref q]) (h' := (apx f q ([.inl (5, [.ref (q + 1), .int 0, .ref (q + 12), .int 0, .int (nI 2), .int (nI 1), .null, .int 0])] ++ (.inr (5, 10, .inr (.inr (fun i => some (q + 1 + 1 + i)))) :: List.replicate 10 cB1 ++ (.inr (6, 80, .inr (.inr (fun i => some (q + 12 + 1 + i)))) :: List.replicate 80 (cS1 y) ++ ([.inr (0, 4, .inl (fun _ => 0))])))), q + 94)) rfl (mk_push rfl rfl) ?_
  refine jg_putF (q := q) fl_X5_34 rfl rfl dX5_init_91 (by show q < q + 94; omega) (app_at (i := 0) rfl) (ltb rfl) rfl rfl ?_
  refine jg_hs (S' := []) (h' := (apx f q ([.inl (5, [.ref (q + 1), .int 0, .ref (q + 12), .int 0, .int (nI 2), .int (nI 1), .ref (q + 93), .int 0])] ++ (.inr (5, 10, .inr (.inr (fun i => some (q + 1 + 1 + i)))) :: List.replicate 10 cB1 ++ (.inr (6, 80, .inr (.inr (fun i => some (q + 12 + 1 + i)))) :: List.replicate 80 (cS1 y) ++ ([.inr (0, 4, .inl (fun _ => 0))])))), q + 94)) rfl (mk_set (i := 0) (ltb rfl) rfl) ?_
  exact jg_return dX5_init_94 rfl ⟨rfl, rfl⟩
theorem dX2_init_0 : decode cX2_init 0 = .ok (.aload_n 0, 1) := by decide +kernel
theorem dX2_init_1 : decode cX2_init 1 = .ok (.invokespecial 3, 3) := by decide +kernel
theorem dX2_init_4 : decode cX2_init 4 = .ok (.aload_n 0, 1) := by decide +kernel
theorem dX2_init_5 : decode cX2_init 5 = .ok (.iconst 0, 1) := by decide +kernel
theorem dX2_init_6 : decode cX2_init 6 = .ok (.putfield 9, 3) := by decide +kernel
theorem dX2_init_9 : decode cX2_init 9 = .ok (.aload_n 0, 1) := by decide +kernel
theorem dX2_init_10 : decode cX2_init 10 = .ok (.new 15, 3) := by decide +kernel
theorem dX2_init_13 : decode cX2_init 13 = .ok (.dup, 1) := by decide +kernel
theorem dX2_init_14 : decode cX2_init 14 = .ok (.invokespecial 17, 3) := by decide +kernel
theorem dX2_init_17 : decode cX2_init 17 = .ok (.putfield 18, 3) := by decide +kernel
theorem dX2_init_20 : decode cX2_init 20 = .ok (.aload_n 0, 1) := by decide +kernel
theorem dX2_init_21 : decode cX2_init 21 = .ok (.new 22, 3) := by decide +kernel
theorem dX2_init_24 : decode cX2_init 24 = .ok (.dup, 1) := by decide +kernel
theorem dX2_init_25 : decode cX2_init 25 = .ok (.invokespecial 24, 3) := by decide +kernel
theorem dX2_init_28 : decode cX2_init 28 = .ok (.putfield 25, 3) := by decide +kernel
theorem dX2_init_31 : decode cX2_init 31 = .ok (.aload_n 0, 1) := by decide +kernel
theorem dX2_init_32 : decode cX2_init 32 = .ok (.new 29, 3) := by decide +kernel
theorem dX2_init_35 : decode cX2_init 35 = .ok (.dup, 1) := by decide +kernel
theorem dX2_init_36 : decode cX2_init 36 = .ok (.invokespecial 31, 3) := by decide +kernel
theorem dX2_init_39 : decode cX2_init 39 = .ok (.putfield 32, 3) := by decide +kernel
theorem dX2_init_42 : decode cX2_init 42 = .ok (.aload_n 0, 1) := by decide +kernel
theorem dX2_init_43 : decode cX2_init 43 = .ok (.new 36, 3) := by decide +kernel
theorem dX2_init_46 : decode cX2_init 46 = .ok (.dup, 1) := by decide +kernel
theorem dX2_init_47 : decode cX2_init 47 = .ok (.aload_n 0, 1) := by decide +kernel
theorem dX2_init_48 : decode cX2_init 48 = .ok (.getfield 32, 3) := by decide +kernel
theorem dX2_init_51 : decode cX2_init 51 = .ok (.getfield 38, 3) := by decide +kernel
theorem dX2_init_54 : decode cX2_init 54 = .ok (.invokespecial 42, 3) := by decide +kernel
theorem dX2_init_57 : decode cX2_init 57 = .ok (.putfield 45, 3) := by decide +kernel
theorem dX2_init_60 : decode cX2_init 60 = .ok (.aload_n 0, 1) := by decide +kernel
theorem dX2_init_61 : decode cX2_init 61 = .ok (.new 49, 3) := by decide +kernel
theorem dX2_init_64 : decode cX2_init 64 = .ok (.dup, 1) := by decide +kernel
theorem dX2_init_65 : decode cX2_init 65 = .ok (.invokespecial 51, 3) := by decide +kernel
theorem dX2_init_68 : decode cX2_init 68 = .ok (.putfield 52, 3) := by decide +kernel
theorem dX2_init_71 : decode cX2_init 71 = .ok (.aload_n 0, 1) := by decide +kernel
theorem dX2_init_72 : decode cX2_init 72 = .ok (.new 56, 3) := by decide +kernel
theorem dX2_init_75 : decode cX2_init 75 = .ok (.dup, 1) := by decide +kernel
theorem dX2_init_76 : decode cX2_init 76 = .ok (.invokespecial 58, 3) := by decide +kernel
theorem dX2_init_79 : decode cX2_init 79 = .ok (.putfield 59, 3) := by decide +kernel
theorem dX2_init_82 : decode cX2_init 82 = .ok (.aload_n 0, 1) := by decide +kernel
theorem dX2_init_83 : decode cX2_init 83 = .ok (.bipush 12, 2) := by decide +kernel
theorem dX2_init_85 : decode cX2_init 85 = .ok (.newarray .int, 2) := by decide +kernel
theorem dX2_init_87 : decode cX2_init 87 = .ok (.putfield 63, 3) := by decide +kernel
theorem dX2_init_90 : decode cX2_init 90 = .ok (.aload_n 0, 1) := by decide +kernel
theorem dX2_init_91 : decode cX2_init 91 = .ok (.bipush 24, 2) := by decide +kernel
theorem dX2_init_93 : decode cX2_init 93 = .ok (.newarray .int, 2) := by decide +kernel
theorem dX2_init_95 : decode cX2_init 95 = .ok (.putfield 67, 3) := by decide +kernel
theorem dX2_init_98 : decode cX2_init 98 = .ok (.aload_n 0, 1) := by decide +kernel
theorem dX2_init_99 : decode cX2_init 99 = .ok (.bipush 24, 2) := by decide +kernel
theorem dX2_init_101 : decode cX2_init 101 = .ok (.newarray .int, 2) := by decide +kernel
theorem dX2_init_103 : decode cX2_init 103 = .ok (.putfield 70, 3) := by decide +kernel
theorem dX2_init_106 : decode cX2_init 106 = .ok (.return_, 1) := by decide +kernel
def cBd (q : Nat)  : List jg_C := [.inl (2, [.int (nI 0), .ref (q + 1), .ref (q + 11), .ref (q + 27), .ref (q + 121), .ref (q + 17), .ref (q + 131), .ref (q + 167), .ref (q + 168), .ref (q + 169)])] ++ (cRv (q + 1) ++ (cSd (q + 11) ++ (cLw (q + 17) ++ (cPo (q + 27) (q + 17 + 1) ++ (cPu (q + 121) ++ (cPl (q + 131) ++ ([.inr (0, 12, .inl (fun _ => 0)), .inr (0, 24, .inl (fun _ => 0)), .inr (0, 24, .inl (fun _ => 0))])))))))
set_option maxHeartbeats 4000000 in
set_option maxRecDepth 20000 in
theorem t_X2_init {Γ : jg_G} (f : Nat → jg_C) (q : Nat)  (hn : q + 170 ≤ 1000000) : jc Γ mX2_init 3 169 3824 [some (.ref q)] (apx f q [.inl (2, [.int 0, .null, .null, .null, .null, .null, .null, .null, .null, .null])], q + 1) (.inl none) (apx f q (cBd q ), q + 170) := by
  refine jc_of ?_
  refine jg_aload_n dX2_init_0 rfl ?_
  refine jg_objI ko_X2_3 (jg_m1 36 rfl rfl) (jg_m1 37 rfl rfl) dX2_init_1 (by decide) (Nat.le_of_ble_eq_true rfl) ?_
  refine jg_aload_n dX2_init_4 rfl ?_
  refine jg_iconst (v := nI 0) dX2_init_5 (by decide) ?_
  refine jg_put (q := q) fl_X2_9 dX2_init_6 (by show q < q + 1; omega) (app_at (i := 0) rfl) (ltb rfl) rfl rfl ?_
  refine jg_hs (S' := []) (h' := (apx f q ([.inl (2, [.int (nI 0), .null, .null, .null, .null, .null, .null, .null, .null, .null])]), q + 1)) rfl (mk_set (i := 0) (ltb rfl) rfl) ?_
  refine jg_aload_n dX2_init_9 rfl ?_
  refine jg_new (ci := 8) (N := 14) (fs := [.null, .null, .null, .null, .null, .null, .int 0, .null, .null, .null, .int 0, .int 0, .int 0, .int 0]) jc_X8 kc_X2_15 kn_X8 wi_X8 (mk_df8 Γ) dX2_init_10 (by show q + 1 < 1000000; omega) (Nat.le_of_ble_eq_true rfl) (Nat.le_of_ble_eq_true rfl) ?_
  refine jg_hs (S' := [.ref (q + 1), .ref q]) (h' := (apx f q ([.inl (2, [.int (nI 0), .null, .null, .null, .null, .null, .null, .null, .null, .null]), .inl (8, [.null, .null, .null, .null, .null, .null, .int 0, .null, .null, .null, .int 0, .int 0, .int 0, .int 0])]), q + 2)) rfl (mk_push rfl rfl) ?_
  refine jg_dup dX2_init_13 rfl ?_
  refine jg_hs (S' := [.ref (q + 1), .ref (q + 1), .ref q]) (h' := (apx (apx f q ([.inl (2, [.int (nI 0), .null, .null, .null, .null, .null, .null, .null, .null, .null])])) (q + 1) [.inl (8, [.null, .null, .null, .null, .null, .null, .int 0, .null, .null, .null, .int 0, .int 0, .int 0, .int 0])], q + 1 + 1)) rfl (mk_split rfl rfl rfl) ?_
  refine jc_I (q := (q + 1)) (As := []) (a' := 9) (b' := 195) ki_X2_17 dX2_init_14 rfl (by decide) (Nat.le_of_ble_eq_true rfl) rfl (by decide) (Nat.le_of_ble_eq_true rfl) (Nat.le_of_ble_eq_true rfl) (Nat.le_of_ble_eq_true rfl) (t_X8_init (apx f q ([.inl (2, [.int (nI 0), .null, .null, .null, .null, .null, .null, .null, .null, .null])])) (q + 1)  (by omega)) ?_
  refine jg_hs (S' := [.ref (q + 1), .ref q]) (h' := (apx f q ([.inl (2, [.int (nI 0), .null, .null, .null, .null, .null, .null, .null, .null, .null])] ++ (cRv (q + 1))), q + 11)) rfl (mk_app rfl rfl rfl) ?_
  refine jg_putF (q := q) fl_X2_18 rfl rfl dX2_init_17 (by show q < q + 11; omega) (app_at (i := 0) rfl) (ltb rfl) rfl rfl ?_
  refine jg_hs (S' := []) (h' := (apx f q ([.inl (2, [.int (nI 0), .ref (q + 1), .null, .null, .null, .null, .null, .null, .null, .null])] ++ (cRv (q + 1))), q + 11)) rfl (mk_set (i := 0) (ltb rfl) rfl) ?_
  refine jg_aload_n dX2_init_20 rfl ?_
  refine jg_new (ci := 10) (N := 6) (fs := [.null, .null, .null, .null, .int 0, .null]) jc_X10 kc_X2_22 kn_X10 wi_X10 (mk_df10 Γ) dX2_init_21 (by show q + 11 < 1000000; omega) (Nat.le_of_ble_eq_true rfl) (Nat.le_of_ble_eq_true rfl) ?_
  refine jg_hs (S' := [.ref (q + 11), .ref q]) (h' := (apx f q ([.inl (2, [.int (nI 0), .ref (q + 1), .null, .null, .null, .null, .null, .null, .null, .null])] ++ (cRv (q + 1) ++ ([.inl (10, [.null, .null, .null, .null, .int 0, .null])]))), q + 12)) rfl (mk_push rfl rfl) ?_
  refine jg_dup dX2_init_24 rfl ?_
  refine jg_hs (S' := [.ref (q + 11), .ref (q + 11), .ref q]) (h' := (apx (apx f q ([.inl (2, [.int (nI 0), .ref (q + 1), .null, .null, .null, .null, .null, .null, .null, .null])] ++ (cRv (q + 1)))) (q + 11) [.inl (10, [.null, .null, .null, .null, .int 0, .null])], q + 11 + 1)) rfl (mk_split rfl rfl rfl) ?_
  refine jc_I (q := (q + 11)) (As := []) (a' := 5) (b' := 824) ki_X2_24 dX2_init_25 rfl (by decide) (Nat.le_of_ble_eq_true rfl) rfl (by decide) (Nat.le_of_ble_eq_true rfl) (Nat.le_of_ble_eq_true rfl) (Nat.le_of_ble_eq_true rfl) (t_X10_init (apx f q ([.inl (2, [.int (nI 0), .ref (q + 1), .null, .null, .null, .null, .null, .null, .null, .null])] ++ (cRv (q + 1)))) (q + 11)  (by omega)) ?_
  refine jg_hs (S' := [.ref (q + 11), .ref q]) (h' := (apx f q ([.inl (2, [.int (nI 0), .ref (q + 1), .null, .null, .null, .null, .null, .null, .null, .null])] ++ (cRv (q + 1) ++ (cSd (q + 11)))), q + 17)) rfl (mk_app rfl rfl rfl) ?_
  refine jg_putF (q := q) fl_X2_25 rfl rfl dX2_init_28 (by show q < q + 17; omega) (app_at (i := 0) rfl) (ltb rfl) rfl rfl ?_
  refine jg_hs (S' := []) (h' := (apx f q ([.inl (2, [.int (nI 0), .ref (q + 1), .ref (q + 11), .null, .null, .null, .null, .null, .null, .null])] ++ (cRv (q + 1) ++ (cSd (q + 11)))), q + 17)) rfl (mk_set (i := 0) (ltb rfl) rfl) ?_
  refine jg_aload_n dX2_init_31 rfl ?_
  refine jg_new (ci := 3) (N := 10) (fs := [.null, .null, .null, .int 0, .int 0, .null, .int 0, .null, .int 0, .int 0]) jc_X3 kc_X2_29 kn_X3 wi_X3 (mk_df3 Γ) dX2_init_32 (by show q + 17 < 1000000; omega) (Nat.le_of_ble_eq_true rfl) (Nat.le_of_ble_eq_true rfl) ?_
  refine jg_hs (S' := [.ref (q + 17), .ref q]) (h' := (apx f q ([.inl (2, [.int (nI 0), .ref (q + 1), .ref (q + 11), .null, .null, .null, .null, .null, .null, .null])] ++ (cRv (q + 1) ++ (cSd (q + 11) ++ ([.inl (3, [.null, .null, .null, .int 0, .int 0, .null, .int 0, .null, .int 0, .int 0])])))), q + 18)) rfl (mk_push rfl rfl) ?_
  refine jg_dup dX2_init_35 rfl ?_
  refine jg_hs (S' := [.ref (q + 17), .ref (q + 17), .ref q]) (h' := (apx (apx f q ([.inl (2, [.int (nI 0), .ref (q + 1), .ref (q + 11), .null, .null, .null, .null, .null, .null, .null])] ++ (cRv (q + 1) ++ (cSd (q + 11))))) (q + 17) [.inl (3, [.null, .null, .null, .int 0, .int 0, .null, .int 0, .null, .int 0, .int 0])], q + 17 + 1)) rfl (mk_split rfl rfl rfl) ?_
  refine jc_I (q := (q + 17)) (As := []) (a' := 9) (b' := 76) ki_X2_31 dX2_init_36 rfl (by decide) (Nat.le_of_ble_eq_true rfl) rfl (by decide) (Nat.le_of_ble_eq_true rfl) (Nat.le_of_ble_eq_true rfl) (Nat.le_of_ble_eq_true rfl) (t_X3_init (apx f q ([.inl (2, [.int (nI 0), .ref (q + 1), .ref (q + 11), .null, .null, .null, .null, .null, .null, .null])] ++ (cRv (q + 1) ++ (cSd (q + 11))))) (q + 17)  (by omega)) ?_
  refine jg_hs (S' := [.ref (q + 17), .ref q]) (h' := (apx f q ([.inl (2, [.int (nI 0), .ref (q + 1), .ref (q + 11), .null, .null, .null, .null, .null, .null, .null])] ++ (cRv (q + 1) ++ (cSd (q + 11) ++ (cLw (q + 17))))), q + 27)) rfl (mk_app rfl rfl rfl) ?_
  refine jg_putF (q := q) fl_X2_32 rfl rfl dX2_init_39 (by show q < q + 27; omega) (app_at (i := 0) rfl) (ltb rfl) rfl rfl ?_
  refine jg_hs (S' := []) (h' := (apx f q ([.inl (2, [.int (nI 0), .ref (q + 1), .ref (q + 11), .null, .null, .ref (q + 17), .null, .null, .null, .null])] ++ (cRv (q + 1) ++ (cSd (q + 11) ++ (cLw (q + 17))))), q + 27)) rfl (mk_set (i := 0) (ltb rfl) rfl) ?_
  refine jg_aload_n dX2_init_42 rfl ?_
  refine jg_new (ci := 5) (N := 8) (fs := [.null, .int 0, .null, .int 0, .int 0, .int 0, .null, .int 0]) jc_X5 kc_X2_36 kn_X5 wi_X5 (mk_df5 Γ) dX2_init_43 (by show q + 27 < 1000000; omega) (Nat.le_of_ble_eq_true rfl) (Nat.le_of_ble_eq_true rfl) ?_
  refine jg_hs (S' := [.ref (q + 27), .ref q]) (h' := (apx f q ([.inl (2, [.int (nI 0), .ref (q + 1), .ref (q + 11), .null, .null, .ref (q + 17), .null, .null, .null, .null])] ++ (cRv (q + 1) ++ (cSd (q + 11) ++ (cLw (q + 17) ++ ([.inl (5, [.null, .int 0, .null, .int 0, .int 0, .int 0, .null, .int 0])]))))), q + 28)) rfl (mk_push rfl rfl) ?_
  refine jg_dup dX2_init_46 rfl ?_
  refine jg_aload_n dX2_init_47 rfl ?_
  refine jg_get (q := q) (v := .ref (q + 17)) fl_X2_32 dX2_init_48 (by show q < q + 28; omega) (app_at (i := 0) rfl) rfl ?_
  refine jg_get (q := (q + 17)) (v := .ref (q + 17 + 1)) fl_X2_38 dX2_init_51 (by show (q + 17) < q + 28; omega) (app_at (i := 17) rfl) rfl ?_
  refine jg_hs (S' := [.ref (q + 17 + 1), .ref (q + 27), .ref (q + 27), .ref q]) (h' := (apx (apx f q ([.inl (2, [.int (nI 0), .ref (q + 1), .ref (q + 11), .null, .null, .ref (q + 17), .null, .null, .null, .null])] ++ (cRv (q + 1) ++ (cSd (q + 11) ++ (cLw (q + 17)))))) (q + 27) [.inl (5, [.null, .int 0, .null, .int 0, .int 0, .int 0, .null, .int 0])], q + 27 + 1)) rfl (mk_split rfl rfl rfl) ?_
  refine jc_I (q := (q + 27)) (As := [.ref (q + 17 + 1)]) (a' := 93) (b' := 1704) ki_X2_42 dX2_init_54 rfl (by decide) (Nat.le_of_ble_eq_true rfl) rfl (by decide) (Nat.le_of_ble_eq_true rfl) (Nat.le_of_ble_eq_true rfl) (Nat.le_of_ble_eq_true rfl) (t_X5_init (apx f q ([.inl (2, [.int (nI 0), .ref (q + 1), .ref (q + 11), .null, .null, .ref (q + 17), .null, .null, .null, .null])] ++ (cRv (q + 1) ++ (cSd (q + 11) ++ (cLw (q + 17)))))) (q + 27) (q + 17 + 1) (by omega)) ?_
  refine jg_hs (S' := [.ref (q + 27), .ref q]) (h' := (apx f q ([.inl (2, [.int (nI 0), .ref (q + 1), .ref (q + 11), .null, .null, .ref (q + 17), .null, .null, .null, .null])] ++ (cRv (q + 1) ++ (cSd (q + 11) ++ (cLw (q + 17) ++ (cPo (q + 27) (q + 17 + 1)))))), q + 121)) rfl (mk_app rfl rfl rfl) ?_
  refine jg_putF (q := q) fl_X2_45 rfl rfl dX2_init_57 (by show q < q + 121; omega) (app_at (i := 0) rfl) (ltb rfl) rfl rfl ?_
  refine jg_hs (S' := []) (h' := (apx f q ([.inl (2, [.int (nI 0), .ref (q + 1), .ref (q + 11), .ref (q + 27), .null, .ref (q + 17), .null, .null, .null, .null])] ++ (cRv (q + 1) ++ (cSd (q + 11) ++ (cLw (q + 17) ++ (cPo (q + 27) (q + 17 + 1)))))), q + 121)) rfl (mk_set (i := 0) (ltb rfl) rfl) ?_
  refine jg_aload_n dX2_init_60 rfl ?_
  refine jg_new (ci := 6) (N := 14) (fs := [.int 0, .int 0, .int 0, .null, .null, .null, .int 0, .null, .null, .null, .null, .null, .null, .int 0]) jc_X6 kc_X2_49 kn_X6 wi_X6 (mk_df6 Γ) dX2_init_61 (by show q + 121 < 1000000; omega) (Nat.le_of_ble_eq_true rfl) (Nat.le_of_ble_eq_true rfl) ?_
  refine jg_hs (S' := [.ref (q + 121), .ref q]) (h' := (apx f q ([.inl (2, [.int (nI 0), .ref (q + 1), .ref (q + 11), .ref (q + 27), .null, .ref (q + 17), .null, .null, .null, .null])] ++ (cRv (q + 1) ++ (cSd (q + 11) ++ (cLw (q + 17) ++ (cPo (q + 27) (q + 17 + 1) ++ ([.inl (6, [.int 0, .int 0, .int 0, .null, .null, .null, .int 0, .null, .null, .null, .null, .null, .null, .int 0])])))))), q + 122)) rfl (mk_push rfl rfl) ?_
  refine jg_dup dX2_init_64 rfl ?_
  refine jg_hs (S' := [.ref (q + 121), .ref (q + 121), .ref q]) (h' := (apx (apx f q ([.inl (2, [.int (nI 0), .ref (q + 1), .ref (q + 11), .ref (q + 27), .null, .ref (q + 17), .null, .null, .null, .null])] ++ (cRv (q + 1) ++ (cSd (q + 11) ++ (cLw (q + 17) ++ (cPo (q + 27) (q + 17 + 1))))))) (q + 121) [.inl (6, [.int 0, .int 0, .int 0, .null, .null, .null, .int 0, .null, .null, .null, .null, .null, .null, .int 0])], q + 121 + 1)) rfl (mk_split rfl rfl rfl) ?_
  refine jc_I (q := (q + 121)) (As := []) (a' := 9) (b' := 210) ki_X2_51 dX2_init_65 rfl (by decide) (Nat.le_of_ble_eq_true rfl) rfl (by decide) (Nat.le_of_ble_eq_true rfl) (Nat.le_of_ble_eq_true rfl) (Nat.le_of_ble_eq_true rfl) (t_X6_init (apx f q ([.inl (2, [.int (nI 0), .ref (q + 1), .ref (q + 11), .ref (q + 27), .null, .ref (q + 17), .null, .null, .null, .null])] ++ (cRv (q + 1) ++ (cSd (q + 11) ++ (cLw (q + 17) ++ (cPo (q + 27) (q + 17 + 1))))))) (q + 121)  (by omega)) ?_
  refine jg_hs (S' := [.ref (q + 121), .ref q]) (h' := (apx f q ([.inl (2, [.int (nI 0), .ref (q + 1), .ref (q + 11), .ref (q + 27), .null, .ref (q + 17), .null, .null, .null, .null])] ++ (cRv (q + 1) ++ (cSd (q + 11) ++ (cLw (q + 17) ++ (cPo (q + 27) (q + 17 + 1) ++ (cPu (q + 121))))))), q + 131)) rfl (mk_app rfl rfl rfl) ?_
  refine jg_putF (q := q) fl_X2_52 rfl rfl dX2_init_68 (by show q < q + 131; omega) (app_at (i := 0) rfl) (ltb rfl) rfl rfl ?_
  refine jg_hs (S' := []) (h' := (apx f q ([.inl (2, [.int (nI 0), .ref (q + 1), .ref (q + 11), .ref (q + 27), .ref (q + 121), .ref (q + 17), .null, .null, .null, .null])] ++ (cRv (q + 1) ++ (cSd (q + 11) ++ (cLw (q + 17) ++ (cPo (q + 27) (q + 17 + 1) ++ (cPu (q + 121))))))), q + 131)) rfl (mk_set (i := 0) (ltb rfl) rfl) ?_
  refine jg_aload_n dX2_init_71 rfl ?_
  refine jg_new (ci := 4) (N := 12) (fs := [.null, .null, .null, .int 0, .null, .null, .null, .int 0, .null, .null, .null, .null]) jc_X4 kc_X2_56 kn_X4 wi_X4 (mk_df4 Γ) dX2_init_72 (by show q + 131 < 1000000; omega) (Nat.le_of_ble_eq_true rfl) (Nat.le_of_ble_eq_true rfl) ?_
  refine jg_hs (S' := [.ref (q + 131), .ref q]) (h' := (apx f q ([.inl (2, [.int (nI 0), .ref (q + 1), .ref (q + 11), .ref (q + 27), .ref (q + 121), .ref (q + 17), .null, .null, .null, .null])] ++ (cRv (q + 1) ++ (cSd (q + 11) ++ (cLw (q + 17) ++ (cPo (q + 27) (q + 17 + 1) ++ (cPu (q + 121) ++ ([.inl (4, [.null, .null, .null, .int 0, .null, .null, .null, .int 0, .null, .null, .null, .null])]))))))), q + 132)) rfl (mk_push rfl rfl) ?_
  refine jg_dup dX2_init_75 rfl ?_
  refine jg_hs (S' := [.ref (q + 131), .ref (q + 131), .ref q]) (h' := (apx (apx f q ([.inl (2, [.int (nI 0), .ref (q + 1), .ref (q + 11), .ref (q + 27), .ref (q + 121), .ref (q + 17), .null, .null, .null, .null])] ++ (cRv (q + 1) ++ (cSd (q + 11) ++ (cLw (q + 17) ++ (cPo (q + 27) (q + 17 + 1) ++ (cPu (q + 121)))))))) (q + 131) [.inl (4, [.null, .null, .null, .int 0, .null, .null, .null, .int 0, .null, .null, .null, .null])], q + 131 + 1)) rfl (mk_split rfl rfl rfl) ?_
  refine jc_I (q := (q + 131)) (As := []) (a' := 35) (b' := 691) ki_X2_58 dX2_init_76 rfl (by decide) (Nat.le_of_ble_eq_true rfl) rfl (by decide) (Nat.le_of_ble_eq_true rfl) (Nat.le_of_ble_eq_true rfl) (Nat.le_of_ble_eq_true rfl) (t_X4_init (apx f q ([.inl (2, [.int (nI 0), .ref (q + 1), .ref (q + 11), .ref (q + 27), .ref (q + 121), .ref (q + 17), .null, .null, .null, .null])] ++ (cRv (q + 1) ++ (cSd (q + 11) ++ (cLw (q + 17) ++ (cPo (q + 27) (q + 17 + 1) ++ (cPu (q + 121)))))))) (q + 131)  (by omega)) ?_
  refine jg_hs (S' := [.ref (q + 131), .ref q]) (h' := (apx f q ([.inl (2, [.int (nI 0), .ref (q + 1), .ref (q + 11), .ref (q + 27), .ref (q + 121), .ref (q + 17), .null, .null, .null, .null])] ++ (cRv (q + 1) ++ (cSd (q + 11) ++ (cLw (q + 17) ++ (cPo (q + 27) (q + 17 + 1) ++ (cPu (q + 121) ++ (cPl (q + 131)))))))), q + 167)) rfl (mk_app rfl rfl rfl) ?_
  refine jg_putF (q := q) fl_X2_59 rfl rfl dX2_init_79 (by show q < q + 167; omega) (app_at (i := 0) rfl) (ltb rfl) rfl rfl ?_
  refine jg_hs (S' := []) (h' := (apx f q ([.inl (2, [.int (nI 0), .ref (q + 1), .ref (q + 11), .ref (q + 27), .ref (q + 121), .ref (q + 17), .ref (q + 131), .null, .null, .null])] ++ (cRv (q + 1) ++ (cSd (q + 11) ++ (cLw (q + 17) ++ (cPo (q + 27) (q + 17 + 1) ++ (cPu (q + 121) ++ (cPl (q + 131)))))))), q + 167)) rfl (mk_set (i := 0) (ltb rfl) rfl) ?_
  refine jg_aload_n dX2_init_82 rfl ?_
  refine jg_bipush (v := nI 12) dX2_init_83 (by decide) ?_
  refine jg_newa (at9 := .int) (ki := 0) (N := 12) (by decide) rfl ka_int dX2_init_85 (by decide) (by decide) (by decide) (by show q + 167 < 1000000; omega) (Nat.le_of_ble_eq_true rfl) (Nat.le_of_ble_eq_true rfl) ?_
  refine jg_hs (S' := [.ref (q + 167), .ref q]) (h' := (apx f q ([.inl (2, [.int (nI 0), .ref (q + 1), .ref (q + 11), .ref (q + 27), .ref (q + 121), .ref (q + 17), .ref (q + 131), .null, .null, .null])] ++ (cRv (q + 1) ++ (cSd (q + 11) ++ (cLw (q + 17) ++ (cPo (q + 27) (q + 17 + 1) ++ (cPu (q + 121) ++ (cPl (q + 131) ++ ([.inr (0, 12, .inl (fun _ => 0))])))))))), q + 168)) rfl (mk_push rfl rfl) ?_
  refine jg_putF (q := q) fl_X2_63 rfl rfl dX2_init_87 (by show q < q + 168; omega) (app_at (i := 0) rfl) (ltb rfl) rfl rfl ?_
  refine jg_hs (S' := []) (h' := (apx f q ([.inl (2, [.int (nI 0), .ref (q + 1), .ref (q + 11), .ref (q + 27), .ref (q + 121), .ref (q + 17), .ref (q + 131), .ref (q + 167), .null, .null])] ++ (cRv (q + 1) ++ (cSd (q + 11) ++ (cLw (q + 17) ++ (cPo (q + 27) (q + 17 + 1) ++ (cPu (q + 121) ++ (cPl (q + 131) ++ ([.inr (0, 12, .inl (fun _ => 0))])))))))), q + 168)) rfl (mk_set (i := 0) (ltb rfl) rfl) ?_
  refine jg_aload_n dX2_init_90 rfl ?_
  refine jg_bipush (v := nI 24) dX2_init_91 (by decide) ?_
  refine jg_newa (at9 := .int) (ki := 0) (N := 24) (by decide) rfl ka_int dX2_init_93 (by decide) (by decide) (by decide) (by show q + 168 < 1000000; omega) (Nat.le_of_ble_eq_true rfl) (Nat.le_of_ble_eq_true rfl) ?_
  refine jg_hs (S' := [.ref (q + 168), .ref q]) (h' := (apx f q ([.inl (2, [.int (nI 0), .ref (q + 1), .ref (q + 11), .ref (q + 27), .ref (q + 121), .ref (q + 17), .ref (q + 131), .ref (q + 167), .null, .null])] ++ (cRv (q + 1) ++ (cSd (q + 11) ++ (cLw (q + 17) ++ (cPo (q + 27) (q + 17 + 1) ++ (cPu (q + 121) ++ (cPl (q + 131) ++ ([.inr (0, 12, .inl (fun _ => 0)), .inr (0, 24, .inl (fun _ => 0))])))))))), q + 169)) rfl (mk_push rfl rfl) ?_
  refine jg_putF (q := q) fl_X2_67 rfl rfl dX2_init_95 (by show q < q + 169; omega) (app_at (i := 0) rfl) (ltb rfl) rfl rfl ?_
  refine jg_hs (S' := []) (h' := (apx f q ([.inl (2, [.int (nI 0), .ref (q + 1), .ref (q + 11), .ref (q + 27), .ref (q + 121), .ref (q + 17), .ref (q + 131), .ref (q + 167), .ref (q + 168), .null])] ++ (cRv (q + 1) ++ (cSd (q + 11) ++ (cLw (q + 17) ++ (cPo (q + 27) (q + 17 + 1) ++ (cPu (q + 121) ++ (cPl (q + 131) ++ ([.inr (0, 12, .inl (fun _ => 0)), .inr (0, 24, .inl (fun _ => 0))])))))))), q + 169)) rfl (mk_set (i := 0) (ltb rfl) rfl) ?_
  refine jg_aload_n dX2_init_98 rfl ?_
  refine jg_bipush (v := nI 24) dX2_init_99 (by decide) ?_
  refine jg_newa (at9 := .int) (ki := 0) (N := 24) (by decide) rfl ka_int dX2_init_101 (by decide) (by decide) (by decide) (by show q + 169 < 1000000; omega) (Nat.le_of_ble_eq_true rfl) (Nat.le_of_ble_eq_true rfl) ?_
  refine jg_hs (S' := [.ref (q + 169), .ref q]) (h' := (apx f q ([.inl (2, [.int (nI 0), .ref (q + 1), .ref (q + 11), .ref (q + 27), .ref (q + 121), .ref (q + 17), .ref (q + 131), .ref (q + 167), .ref (q + 168), .null])] ++ (cRv (q + 1) ++ (cSd (q + 11) ++ (cLw (q + 17) ++ (cPo (q + 27) (q + 17 + 1) ++ (cPu (q + 121) ++ (cPl (q + 131) ++ ([.inr (0, 12, .inl (fun _ => 0)), .inr (0, 24, .inl (fun _ => 0)), .inr (0, 24, .inl (fun _ => 0))])))))))), q + 170)) rfl (mk_push rfl rfl) ?_
  refine jg_putF (q := q) fl_X2_70 rfl rfl dX2_init_103 (by show q < q + 170; omega) (app_at (i := 0) rfl) (ltb rfl) rfl rfl ?_
  refine jg_hs (S' := []) (h' := (apx f q ([.inl (2, [.int (nI 0), .ref (q + 1), .ref (q + 11), .ref (q + 27), .ref (q + 121), .ref (q + 17), .ref (q + 131), .ref (q + 167), .ref (q + 168), .ref (q + 169)])] ++ (cRv (q + 1) ++ (cSd (q + 11) ++ (cLw (q + 17) ++ (cPo (q + 27) (q + 17 + 1) ++ (cPu (q + 121) ++ (cPl (q + 131) ++ ([.inr (0, 12, .inl (fun _ => 0)), .inr (0, 24, .inl (fun _ => 0)), .inr (0, 24, .inl (fun _ => 0))])))))))), q + 170)) rfl (mk_set (i := 0) (ltb rfl) rfl) ?_
  exact jg_return dX2_init_106 rfl ⟨rfl, rfl⟩
theorem dX11_init_0 : decode cX11_init 0 = .ok (.aload_n 0, 1) := by decide +kernel
theorem dX11_init_1 : decode cX11_init 1 = .ok (.invokespecial 1, 3) := by decide +kernel
theorem dX11_init_4 : decode cX11_init 4 = .ok (.aload_n 0, 1) := by decide +kernel
theorem dX11_init_5 : decode cX11_init 5 = .ok (.sipush 400, 3) := by decide +kernel
theorem dX11_init_8 : decode cX11_init 8 = .ok (.newarray .byte, 2) := by decide +kernel
theorem dX11_init_10 : decode cX11_init 10 = .ok (.putfield 9, 3) := by decide +kernel
theorem dX11_init_13 : decode cX11_init 13 = .ok (.aload_n 0, 1) := by decide +kernel
theorem dX11_init_14 : decode cX11_init 14 = .ok (.iconst 0, 1) := by decide +kernel
theorem dX11_init_15 : decode cX11_init 15 = .ok (.putfield 13, 3) := by decide +kernel
theorem dX11_init_18 : decode cX11_init 18 = .ok (.aload_n 0, 1) := by decide +kernel
theorem dX11_init_19 : decode cX11_init 19 = .ok (.new 17, 3) := by decide +kernel
theorem dX11_init_22 : decode cX11_init 22 = .ok (.dup, 1) := by decide +kernel
theorem dX11_init_23 : decode cX11_init 23 = .ok (.invokespecial 19, 3) := by decide +kernel
theorem dX11_init_26 : decode cX11_init 26 = .ok (.putfield 20, 3) := by decide +kernel
theorem dX11_init_29 : decode cX11_init 29 = .ok (.aload_n 0, 1) := by decide +kernel
theorem dX11_init_30 : decode cX11_init 30 = .ok (.new 24, 3) := by decide +kernel
theorem dX11_init_33 : decode cX11_init 33 = .ok (.dup, 1) := by decide +kernel
theorem dX11_init_34 : decode cX11_init 34 = .ok (.invokespecial 26, 3) := by decide +kernel
theorem dX11_init_37 : decode cX11_init 37 = .ok (.putfield 27, 3) := by decide +kernel
theorem dX11_init_40 : decode cX11_init 40 = .ok (.aload_n 0, 1) := by decide +kernel
theorem dX11_init_41 : decode cX11_init 41 = .ok (.aconst_null, 1) := by decide +kernel
theorem dX11_init_42 : decode cX11_init 42 = .ok (.putfield 31, 3) := by decide +kernel
theorem dX11_init_45 : decode cX11_init 45 = .ok (.return_, 1) := by decide +kernel
def cSi (q : Nat)  : List jg_C := [.inl (11, [.ref (q + 1), .int (nI 0), .ref (q + 2), .ref (q + 10), .null]), .inr (1, 400, .inl (fun _ => 0))] ++ (cRd (q + 2) ++ (cBd (q + 10)))
set_option maxHeartbeats 4000000 in
set_option maxRecDepth 20000 in
theorem t_X11_init {Γ : jg_G} (f : Nat → jg_C) (q : Nat)  (hn : q + 180 ≤ 1000000) : jc Γ mX11_init 4 179 5908 [some (.ref q)] (apx f q [.inl (11, [.null, .int 0, .null, .null, .null])], q + 1) (.inl none) (apx f q (cSi q ), q + 180) := by
  refine jc_of ?_
  refine jg_aload_n dX11_init_0 rfl ?_
  refine jg_objI ko_X11_1 (jg_m1 36 rfl rfl) (jg_m1 37 rfl rfl) dX11_init_1 (by decide) (Nat.le_of_ble_eq_true rfl) ?_
  refine jg_aload_n dX11_init_4 rfl ?_
  refine jg_sipush (v := nI 400) dX11_init_5 (by decide) ?_
  refine jg_newa (at9 := .byte) (ki := 1) (N := 400) (by decide) rfl ka_byte dX11_init_8 (by decide) (by decide) (by decide) (by show q + 1 < 1000000; omega) (Nat.le_of_ble_eq_true rfl) (Nat.le_of_ble_eq_true rfl) ?_
  refine jg_hs (S' := [.ref (q + 1), .ref q]) (h' := (apx f q ([.inl (11, [.null, .int 0, .null, .null, .null]), .inr (1, 400, .inl (fun _ => 0))]), q + 2)) rfl (mk_push rfl rfl) ?_
  refine jg_putF (q := q) fl_X11_9 rfl rfl dX11_init_10 (by show q < q + 2; omega) (app_at (i := 0) rfl) (ltb rfl) rfl rfl ?_
  refine jg_hs (S' := []) (h' := (apx f q ([.inl (11, [.ref (q + 1), .int 0, .null, .null, .null]), .inr (1, 400, .inl (fun _ => 0))]), q + 2)) rfl (mk_set (i := 0) (ltb rfl) rfl) ?_
  refine jg_aload_n dX11_init_13 rfl ?_
  refine jg_iconst (v := nI 0) dX11_init_14 (by decide) ?_
  refine jg_put (q := q) fl_X11_13 dX11_init_15 (by show q < q + 2; omega) (app_at (i := 0) rfl) (ltb rfl) rfl rfl ?_
  refine jg_hs (S' := []) (h' := (apx f q ([.inl (11, [.ref (q + 1), .int (nI 0), .null, .null, .null]), .inr (1, 400, .inl (fun _ => 0))]), q + 2)) rfl (mk_set (i := 0) (ltb rfl) rfl) ?_
  refine jg_aload_n dX11_init_18 rfl ?_
  refine jg_new (ci := 7) (N := 12) (fs := [.int 0, .null, .null, .int 0, .int 0, .null, .null, .null, .int 0, .null, .null, .int 0]) jc_X7 kc_X11_17 kn_X7 wi_X7 (mk_df7 Γ) dX11_init_19 (by show q + 2 < 1000000; omega) (Nat.le_of_ble_eq_true rfl) (Nat.le_of_ble_eq_true rfl) ?_
  refine jg_hs (S' := [.ref (q + 2), .ref q]) (h' := (apx f q ([.inl (11, [.ref (q + 1), .int (nI 0), .null, .null, .null]), .inr (1, 400, .inl (fun _ => 0)), .inl (7, [.int 0, .null, .null, .int 0, .int 0, .null, .null, .null, .int 0, .null, .null, .int 0])]), q + 3)) rfl (mk_push rfl rfl) ?_
  refine jg_dup dX11_init_22 rfl ?_
  refine jg_hs (S' := [.ref (q + 2), .ref (q + 2), .ref q]) (h' := (apx (apx f q ([.inl (11, [.ref (q + 1), .int (nI 0), .null, .null, .null]), .inr (1, 400, .inl (fun _ => 0))])) (q + 2) [.inl (7, [.int 0, .null, .null, .int 0, .int 0, .null, .null, .null, .int 0, .null, .null, .int 0])], q + 2 + 1)) rfl (mk_split rfl rfl rfl) ?_
  refine jc_I (q := (q + 2)) (As := []) (a' := 7) (b' := 1662) ki_X11_19 dX11_init_23 rfl (by decide) (Nat.le_of_ble_eq_true rfl) rfl (by decide) (Nat.le_of_ble_eq_true rfl) (Nat.le_of_ble_eq_true rfl) (Nat.le_of_ble_eq_true rfl) (t_X7_init (apx f q ([.inl (11, [.ref (q + 1), .int (nI 0), .null, .null, .null]), .inr (1, 400, .inl (fun _ => 0))])) (q + 2)  (by omega)) ?_
  refine jg_hs (S' := [.ref (q + 2), .ref q]) (h' := (apx f q ([.inl (11, [.ref (q + 1), .int (nI 0), .null, .null, .null]), .inr (1, 400, .inl (fun _ => 0))] ++ (cRd (q + 2))), q + 10)) rfl (mk_app rfl rfl rfl) ?_
  refine jg_putF (q := q) fl_X11_20 rfl rfl dX11_init_26 (by show q < q + 10; omega) (app_at (i := 0) rfl) (ltb rfl) rfl rfl ?_
  refine jg_hs (S' := []) (h' := (apx f q ([.inl (11, [.ref (q + 1), .int (nI 0), .ref (q + 2), .null, .null]), .inr (1, 400, .inl (fun _ => 0))] ++ (cRd (q + 2))), q + 10)) rfl (mk_set (i := 0) (ltb rfl) rfl) ?_
  refine jg_aload_n dX11_init_29 rfl ?_
  refine jg_new (ci := 2) (N := 10) (fs := [.int 0, .null, .null, .null, .null, .null, .null, .null, .null, .null]) jc_X2 kc_X11_24 kn_X2 wi_X2 (mk_df2 Γ) dX11_init_30 (by show q + 10 < 1000000; omega) (Nat.le_of_ble_eq_true rfl) (Nat.le_of_ble_eq_true rfl) ?_
  refine jg_hs (S' := [.ref (q + 10), .ref q]) (h' := (apx f q ([.inl (11, [.ref (q + 1), .int (nI 0), .ref (q + 2), .null, .null]), .inr (1, 400, .inl (fun _ => 0))] ++ (cRd (q + 2) ++ ([.inl (2, [.int 0, .null, .null, .null, .null, .null, .null, .null, .null, .null])]))), q + 11)) rfl (mk_push rfl rfl) ?_
  refine jg_dup dX11_init_33 rfl ?_
  refine jg_hs (S' := [.ref (q + 10), .ref (q + 10), .ref q]) (h' := (apx (apx f q ([.inl (11, [.ref (q + 1), .int (nI 0), .ref (q + 2), .null, .null]), .inr (1, 400, .inl (fun _ => 0))] ++ (cRd (q + 2)))) (q + 10) [.inl (2, [.int 0, .null, .null, .null, .null, .null, .null, .null, .null, .null])], q + 10 + 1)) rfl (mk_split rfl rfl rfl) ?_
  refine jc_I (q := (q + 10)) (As := []) (a' := 169) (b' := 3824) ki_X11_26 dX11_init_34 rfl (by decide) (Nat.le_of_ble_eq_true rfl) rfl (by decide) (Nat.le_of_ble_eq_true rfl) (Nat.le_of_ble_eq_true rfl) (Nat.le_of_ble_eq_true rfl) (t_X2_init (apx f q ([.inl (11, [.ref (q + 1), .int (nI 0), .ref (q + 2), .null, .null]), .inr (1, 400, .inl (fun _ => 0))] ++ (cRd (q + 2)))) (q + 10)  (by omega)) ?_
  refine jg_hs (S' := [.ref (q + 10), .ref q]) (h' := (apx f q ([.inl (11, [.ref (q + 1), .int (nI 0), .ref (q + 2), .null, .null]), .inr (1, 400, .inl (fun _ => 0))] ++ (cRd (q + 2) ++ (cBd (q + 10)))), q + 180)) rfl (mk_app rfl rfl rfl) ?_
  refine jg_putF (q := q) fl_X11_27 rfl rfl dX11_init_37 (by show q < q + 180; omega) (app_at (i := 0) rfl) (ltb rfl) rfl rfl ?_
  refine jg_hs (S' := []) (h' := (apx f q ([.inl (11, [.ref (q + 1), .int (nI 0), .ref (q + 2), .ref (q + 10), .null]), .inr (1, 400, .inl (fun _ => 0))] ++ (cRd (q + 2) ++ (cBd (q + 10)))), q + 180)) rfl (mk_set (i := 0) (ltb rfl) rfl) ?_
  refine jg_aload_n dX11_init_40 rfl ?_
  refine jg_null dX11_init_41 ?_
  refine jg_put (q := q) fl_X11_31 dX11_init_42 (by show q < q + 180; omega) (app_at (i := 0) rfl) (ltb rfl) rfl rfl ?_
  refine jg_hs (S' := []) (h' := (apx f q ([.inl (11, [.ref (q + 1), .int (nI 0), .ref (q + 2), .ref (q + 10), .null]), .inr (1, 400, .inl (fun _ => 0))] ++ (cRd (q + 2) ++ (cBd (q + 10)))), q + 180)) rfl (mk_set (i := 0) (ltb rfl) rfl) ?_
  exact jg_return dX11_init_45 rfl ⟨rfl, rfl⟩
