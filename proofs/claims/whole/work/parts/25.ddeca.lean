/-! THE CLASS AS FUNCTIONS, what calls itself (by program wip/whole/cdec2.py) -/
theorem dX7_readAll_0 : decode cX7_readAll 0 = .ok (.aload_n 0, 1) := by decide +kernel
theorem dX7_readAll_1 : decode cX7_readAll 1 = .ok (.iload_n 1, 1) := by decide +kernel
theorem dX7_readAll_2 : decode cX7_readAll 2 = .ok (.invokevirtual 139, 3) := by decide +kernel
theorem dX7_readAll_5 : decode cX7_readAll 5 = .ok (.ifCond .ne 5, 3) := by decide +kernel
theorem dX7_readAll_8 : decode cX7_readAll 8 = .ok (.iconst 0, 1) := by decide +kernel
theorem dX7_readAll_9 : decode cX7_readAll 9 = .ok (.ireturn, 1) := by decide +kernel
theorem dX7_readAll_10 : decode cX7_readAll 10 = .ok (.aload_n 0, 1) := by decide +kernel
theorem dX7_readAll_11 : decode cX7_readAll 11 = .ok (.getfield 47, 3) := by decide +kernel
theorem dX7_readAll_14 : decode cX7_readAll 14 = .ok (.aload_n 0, 1) := by decide +kernel
theorem dX7_readAll_15 : decode cX7_readAll 15 = .ok (.getfield 64, 3) := by decide +kernel
theorem dX7_readAll_18 : decode cX7_readAll 18 = .ok (.if_icmp .ge 48, 3) := by decide +kernel
theorem dX7_readAll_21 : decode cX7_readAll 21 = .ok (.aload_n 0, 1) := by decide +kernel
theorem dX7_readAll_22 : decode cX7_readAll 22 = .ok (.getfield 15, 3) := by decide +kernel
theorem dX7_readAll_25 : decode cX7_readAll 25 = .ok (.aload_n 0, 1) := by decide +kernel
theorem dX7_readAll_26 : decode cX7_readAll 26 = .ok (.getfield 47, 3) := by decide +kernel
theorem dX7_readAll_29 : decode cX7_readAll 29 = .ok (.iaload, 1) := by decide +kernel
theorem dX7_readAll_30 : decode cX7_readAll 30 = .ok (.sipush 404, 3) := by decide +kernel
theorem dX7_readAll_33 : decode cX7_readAll 33 = .ok (.if_icmp .ne 33, 3) := by decide +kernel
theorem dX7_readAll_36 : decode cX7_readAll 36 = .ok (.aload_n 0, 1) := by decide +kernel
theorem dX7_readAll_37 : decode cX7_readAll 37 = .ok (.dup, 1) := by decide +kernel
theorem dX7_readAll_38 : decode cX7_readAll 38 = .ok (.getfield 47, 3) := by decide +kernel
theorem dX7_readAll_41 : decode cX7_readAll 41 = .ok (.iconst 1, 1) := by decide +kernel
theorem dX7_readAll_42 : decode cX7_readAll 42 = .ok (.iadd, 1) := by decide +kernel
theorem dX7_readAll_43 : decode cX7_readAll 43 = .ok (.putfield 47, 3) := by decide +kernel
theorem dX7_readAll_46 : decode cX7_readAll 46 = .ok (.aload_n 0, 1) := by decide +kernel
theorem dX7_readAll_47 : decode cX7_readAll 47 = .ok (.iload_n 1, 1) := by decide +kernel
theorem dX7_readAll_48 : decode cX7_readAll 48 = .ok (.invokevirtual 139, 3) := by decide +kernel
theorem dX7_readAll_51 : decode cX7_readAll 51 = .ok (.ifCond .ne 5, 3) := by decide +kernel
theorem dX7_readAll_54 : decode cX7_readAll 54 = .ok (.iconst 0, 1) := by decide +kernel
theorem dX7_readAll_55 : decode cX7_readAll 55 = .ok (.ireturn, 1) := by decide +kernel
theorem dX7_readAll_56 : decode cX7_readAll 56 = .ok (.aload_n 0, 1) := by decide +kernel
theorem dX7_readAll_57 : decode cX7_readAll 57 = .ok (.bipush 25, 2) := by decide +kernel
theorem dX7_readAll_59 : decode cX7_readAll 59 = .ok (.iconst 0, 1) := by decide +kernel
theorem dX7_readAll_60 : decode cX7_readAll 60 = .ok (.invokevirtual 136, 3) := by decide +kernel
theorem dX7_readAll_63 : decode cX7_readAll 63 = .ok (.goto (-53), 3) := by decide +kernel
theorem dX7_readAll_66 : decode cX7_readAll 66 = .ok (.iconst 1, 1) := by decide +kernel
theorem dX7_readAll_67 : decode cX7_readAll 67 = .ok (.ireturn, 1) := by decide +kernel
noncomputable def o_X7_readAll_10 (F : Nat) (τ : cT) (n : Nat) (o : Nat) (rA : cS → Int32 → Option (Int32 × cS)) (l1 : Int32)  : Nat → cS → Option ((cS) ⊕ (Int32 × cS))
  | 0, _ => none
  | f + 1, s => if (s.1 (o + 2) 3) ≤ (s.1 (o + 2) 4) then (some (.inl s)) else (if iL (s.1 (o + 2) 4) 401 then (if (cg s (o + 3) (s.1 (o + 2) 4)) = (nI 404) then ((rA (cp s (o + 2) 4 ((s.1 (o + 2) 4) + (nI 1))) l1).bind fun x6 => (if x6.1 = 0 then (some (.inr (nI 0, x6.2))) else ((o_X7_addStep τ n o x6.2 (nI 25) (nI 0)).bind fun x8 => (o_X7_readAll_10 F τ n o rA l1 f x8)))) else (some (.inl s))) else none)
set_option maxHeartbeats 4000000 in
theorem t_X7_readAll_10 {Γ : jg_G} {g : Nat → jg_C} (F : Nat) (τ : cT) (n : Nat) (o : Nat) (rA : cS → Int32 → Option (Int32 × cS)) (l1 : Int32)  (hO : Sh τ n o) (dA : Nat) (h9 : 9 ≤ dA) (hA : ∀ s a1 x, rA s a1 = some x → jc Γ mX7_readAtom dA 0 0 [some (.ref (o + 2)), some (.int a1), none, none] (ct_h g τ s, n) (.inl (some (.int x.1))) (ct_h g τ x.2, n)) (Q : jg_Q) {x : (cS) ⊕ (Int32 × cS)} (K1 : ∀ y, x = .inl y → jg Γ mX7_readAll (dA + 1) 0 0 66 [none, none] [] (ct_h g τ y, n) Q) (K2 : ∀ z, x = .inr z → Q (.inl (some (.int z.1))) (ct_h g τ z.2, n)) : ∀ (f : Nat) (s : cS), o_X7_readAll_10 F τ n o rA l1 f s = some x → jg Γ mX7_readAll (dA + 1) 0 0 10 [some (.ref (o + 2)), some (.int l1)] [] (ct_h g τ s, n) Q := by
  intro f
  induction f with
  | zero => intro s h; rw [o_X7_readAll_10] at h; cases h
  | succ f ih =>
   intro s h
   rw [o_X7_readAll_10] at h
   refine jg_aload_n dX7_readAll_10 rfl ?_
   refine cs_get (s := s) (w := .int (s.1 (o + 2) 4)) fl_X7_47 dX7_readAll_11 (hO.ob 2 (by decide) rfl) rfl ?_
   refine jg_aload_n dX7_readAll_14 rfl ?_
   refine cs_get (s := s) (w := .int (s.1 (o + 2) 3)) fl_X7_64 dX7_readAll_15 (hO.ob 2 (by decide) rfl) rfl ?_
   refine jg_icmp_ge (x := (s.1 (o + 2) 4)) (y := (s.1 (o + 2) 3)) (tgt := 66) dX7_readAll_18 (by decide) (fun c3 => ?_) (fun c3 => ?_)
   · replace h := it_t c3 h
     refine jg_fg (L' := [none, none]) (by repeat (first | exact trivial | refine ⟨rfl, ?_⟩ | show jg_le _ _)) ?_
     obtain rfl := Option.some.inj h
     exact K1 _ rfl
   · replace h := it_f c3 h
     refine jg_aload_n dX7_readAll_21 rfl ?_
     refine cs_get (s := s) (w := .ref (o + 3)) fl_X7_15 dX7_readAll_22 (hO.ob 2 (by decide) rfl) rfl ?_
     refine jg_aload_n dX7_readAll_25 rfl ?_
     refine cs_get (s := s) (w := .int (s.1 (o + 2) 4)) fl_X7_47 dX7_readAll_26 (hO.ob 2 (by decide) rfl) rfl ?_
     obtain ⟨q4, h⟩ := gd_some h
     refine cs_lda (s := s) (q := (o + 3)) (i := (s.1 (o + 2) 4)) dX7_readAll_29 (hO.ar 3 (by decide) rfl) q4 ?_
     refine jg_sipush (v := nI 404) dX7_readAll_30 (by decide) ?_
     refine jg_icmp_ne (x := (cg s (o + 3) (s.1 (o + 2) 4))) (y := (nI 404)) (tgt := 66) dX7_readAll_33 (by decide) (fun c5 => ?_) (fun c5 => ?_)
     · replace h := it_f c5 h
       refine jg_fg (L' := [none, none]) (by repeat (first | exact trivial | refine ⟨rfl, ?_⟩ | show jg_le _ _)) ?_
       obtain rfl := Option.some.inj h
       exact K1 _ rfl
     · replace h := it_t c5 h
       refine jg_aload_n dX7_readAll_36 rfl ?_
       refine jg_dup dX7_readAll_37 rfl ?_
       refine cs_get (s := s) (w := .int (s.1 (o + 2) 4)) fl_X7_47 dX7_readAll_38 (hO.ob 2 (by decide) rfl) rfl ?_
       refine jg_iconst (v := nI 1) dX7_readAll_41 (by decide) ?_
       refine jg_iadd (x := (s.1 (o + 2) 4)) (y := (nI 1)) dX7_readAll_42  ?_
       refine cs_put (s := s) (k := 4) (x := ((s.1 (o + 2) 4) + (nI 1))) fl_X7_47 dX7_readAll_43 (hO.ob 2 (by decide) rfl) (ltb rfl) (rfl) rfl rfl ?_
       refine jg_aload_n dX7_readAll_46 rfl ?_
       refine jg_iload_n dX7_readAll_47 rfl ?_
       obtain ⟨x6, e_x6, h⟩ := bd_some h
       refine cs_call (q := (o + 2)) (As := [.int l1]) kv_X7_139 dX7_readAll_48 (hO.ob 2 (by decide) rfl) rfl rfl (by decide) (Nat.le_of_ble_eq_true rfl) rfl (by omega) (Nat.le_of_ble_eq_true rfl) (hA (cp s (o + 2) 4 ((s.1 (o + 2) 4) + (nI 1))) l1 _ e_x6) ?_
       refine jg_if_ne (x := x6.1) (tgt := 56) dX7_readAll_51 (by decide) (fun c7 => ?_) (fun c7 => ?_)
       · replace h := it_f c7 h
         refine jg_aload_n dX7_readAll_56 rfl ?_
         refine jg_bipush (v := nI 25) dX7_readAll_57 (by decide) ?_
         refine jg_iconst (v := nI 0) dX7_readAll_59 (by decide) ?_
         obtain ⟨x8, e_x8, h⟩ := bd_some h
         refine cs_call (q := (o + 2)) (As := [.int (nI 25), .int (nI 0)]) kv_X7_136 dX7_readAll_60 (hO.ob 2 (by decide) rfl) rfl rfl (by decide) (Nat.le_of_ble_eq_true rfl) rfl (by omega) (Nat.le_of_ble_eq_true rfl) (t_X7_addStep τ n o x6.2 (nI 25) (nI 0) hO e_x8) ?_
         refine jg_goto (tgt := 10) dX7_readAll_63 (by decide) ?_
         refine jg_fg (L' := [some (.ref (o + 2)), some (.int l1)]) (by repeat (first | exact trivial | refine ⟨rfl, ?_⟩ | show jg_le _ _)) ?_
         exact ih x8 h
       · replace h := it_t c7 h
         refine jg_iconst (v := nI 0) dX7_readAll_54 (by decide) ?_
         obtain rfl := Option.some.inj h
         exact jg_zreturn dX7_readAll_55 rfl (rfl) (K2 _ rfl)
noncomputable def o_X7_readAll (F : Nat) (τ : cT) (n : Nat) (o : Nat) (rA : cS → Int32 → Option (Int32 × cS)) (s : cS) (a1 : Int32) : Option (Int32 × cS) := (rA s a1).bind fun x1 => (if x1.1 = 0 then (some (nI 0, x1.2)) else ((o_X7_readAll_10 F τ n o rA a1 F x1.2).bind fun x9 => (Sum.elim (fun y10 => some (nI 1, y10)) (fun z11 => some z11) x9)))
set_option maxHeartbeats 4000000 in
theorem t_X7_readAll {Γ : jg_G} {g : Nat → jg_C} (F : Nat) (τ : cT) (n : Nat) (o : Nat) (rA : cS → Int32 → Option (Int32 × cS)) (s : cS) (a1 : Int32) (hO : Sh τ n o) (dA : Nat) (h9 : 9 ≤ dA) (hA : ∀ s a1 x, rA s a1 = some x → jc Γ mX7_readAtom dA 0 0 [some (.ref (o + 2)), some (.int a1), none, none] (ct_h g τ s, n) (.inl (some (.int x.1))) (ct_h g τ x.2, n)) {x : Int32 × cS} (h : o_X7_readAll F τ n o rA s a1 = some x) : jc Γ mX7_readAll (dA + 1) 0 0 [some (.ref (o + 2)), some (.int a1)] (ct_h g τ s, n) (.inl (some (.int x.1))) (ct_h g τ x.2, n) := by
  refine jc_of ?_
  rw [o_X7_readAll] at h
  refine jg_aload_n dX7_readAll_0 rfl ?_
  refine jg_iload_n dX7_readAll_1 rfl ?_
  obtain ⟨x1, e_x1, h⟩ := bd_some h
  refine cs_call (q := (o + 2)) (As := [.int a1]) kv_X7_139 dX7_readAll_2 (hO.ob 2 (by decide) rfl) rfl rfl (by decide) (Nat.le_of_ble_eq_true rfl) rfl (by omega) (Nat.le_of_ble_eq_true rfl) (hA s a1 _ e_x1) ?_
  refine jg_if_ne (x := x1.1) (tgt := 10) dX7_readAll_5 (by decide) (fun c2 => ?_) (fun c2 => ?_)
  · replace h := it_f c2 h
    obtain ⟨x9, e_x9, h⟩ := bd_some h
    refine jg_fg (L' := [some (.ref (o + 2)), some (.int a1)]) (by repeat (first | exact trivial | refine ⟨rfl, ?_⟩ | show jg_le _ _)) ?_
    refine t_X7_readAll_10  F τ n o rA a1 hO dA h9 hA _ (x := x9) ?_ ?_ F x1.2 e_x9
    · intro y10 ey; subst ey; replace h := se_l h
      refine jg_iconst (v := nI 1) dX7_readAll_66 (by decide) ?_
      obtain rfl := Option.some.inj h
      exact jg_zreturn dX7_readAll_67 rfl (rfl) ⟨rfl, rfl⟩
    · intro z11 ez; subst ez; replace h := se_r h
      obtain rfl := Option.some.inj h
      exact ⟨rfl, rfl⟩
  · replace h := it_t c2 h
    refine jg_iconst (v := nI 0) dX7_readAll_8 (by decide) ?_
    obtain rfl := Option.some.inj h
    exact jg_zreturn dX7_readAll_9 rfl (rfl) ⟨rfl, rfl⟩
theorem dX7_readAny_0 : decode cX7_readAny 0 = .ok (.aload_n 0, 1) := by decide +kernel
theorem dX7_readAny_1 : decode cX7_readAny 1 = .ok (.iload_n 1, 1) := by decide +kernel
theorem dX7_readAny_2 : decode cX7_readAny 2 = .ok (.invokevirtual 133, 3) := by decide +kernel
theorem dX7_readAny_5 : decode cX7_readAny 5 = .ok (.ifCond .ne 5, 3) := by decide +kernel
theorem dX7_readAny_8 : decode cX7_readAny 8 = .ok (.iconst 0, 1) := by decide +kernel
theorem dX7_readAny_9 : decode cX7_readAny 9 = .ok (.ireturn, 1) := by decide +kernel
theorem dX7_readAny_10 : decode cX7_readAny 10 = .ok (.aload_n 0, 1) := by decide +kernel
theorem dX7_readAny_11 : decode cX7_readAny 11 = .ok (.getfield 47, 3) := by decide +kernel
theorem dX7_readAny_14 : decode cX7_readAny 14 = .ok (.aload_n 0, 1) := by decide +kernel
theorem dX7_readAny_15 : decode cX7_readAny 15 = .ok (.getfield 64, 3) := by decide +kernel
theorem dX7_readAny_18 : decode cX7_readAny 18 = .ok (.if_icmp .ge 48, 3) := by decide +kernel
theorem dX7_readAny_21 : decode cX7_readAny 21 = .ok (.aload_n 0, 1) := by decide +kernel
theorem dX7_readAny_22 : decode cX7_readAny 22 = .ok (.getfield 15, 3) := by decide +kernel
theorem dX7_readAny_25 : decode cX7_readAny 25 = .ok (.aload_n 0, 1) := by decide +kernel
theorem dX7_readAny_26 : decode cX7_readAny 26 = .ok (.getfield 47, 3) := by decide +kernel
theorem dX7_readAny_29 : decode cX7_readAny 29 = .ok (.iaload, 1) := by decide +kernel
theorem dX7_readAny_30 : decode cX7_readAny 30 = .ok (.sipush 403, 3) := by decide +kernel
theorem dX7_readAny_33 : decode cX7_readAny 33 = .ok (.if_icmp .ne 33, 3) := by decide +kernel
theorem dX7_readAny_36 : decode cX7_readAny 36 = .ok (.aload_n 0, 1) := by decide +kernel
theorem dX7_readAny_37 : decode cX7_readAny 37 = .ok (.dup, 1) := by decide +kernel
theorem dX7_readAny_38 : decode cX7_readAny 38 = .ok (.getfield 47, 3) := by decide +kernel
theorem dX7_readAny_41 : decode cX7_readAny 41 = .ok (.iconst 1, 1) := by decide +kernel
theorem dX7_readAny_42 : decode cX7_readAny 42 = .ok (.iadd, 1) := by decide +kernel
theorem dX7_readAny_43 : decode cX7_readAny 43 = .ok (.putfield 47, 3) := by decide +kernel
theorem dX7_readAny_46 : decode cX7_readAny 46 = .ok (.aload_n 0, 1) := by decide +kernel
theorem dX7_readAny_47 : decode cX7_readAny 47 = .ok (.iload_n 1, 1) := by decide +kernel
theorem dX7_readAny_48 : decode cX7_readAny 48 = .ok (.invokevirtual 133, 3) := by decide +kernel
theorem dX7_readAny_51 : decode cX7_readAny 51 = .ok (.ifCond .ne 5, 3) := by decide +kernel
theorem dX7_readAny_54 : decode cX7_readAny 54 = .ok (.iconst 0, 1) := by decide +kernel
theorem dX7_readAny_55 : decode cX7_readAny 55 = .ok (.ireturn, 1) := by decide +kernel
theorem dX7_readAny_56 : decode cX7_readAny 56 = .ok (.aload_n 0, 1) := by decide +kernel
theorem dX7_readAny_57 : decode cX7_readAny 57 = .ok (.bipush 26, 2) := by decide +kernel
theorem dX7_readAny_59 : decode cX7_readAny 59 = .ok (.iconst 0, 1) := by decide +kernel
theorem dX7_readAny_60 : decode cX7_readAny 60 = .ok (.invokevirtual 136, 3) := by decide +kernel
theorem dX7_readAny_63 : decode cX7_readAny 63 = .ok (.goto (-53), 3) := by decide +kernel
theorem dX7_readAny_66 : decode cX7_readAny 66 = .ok (.iconst 1, 1) := by decide +kernel
theorem dX7_readAny_67 : decode cX7_readAny 67 = .ok (.ireturn, 1) := by decide +kernel
noncomputable def o_X7_readAny_10 (F : Nat) (τ : cT) (n : Nat) (o : Nat) (rA : cS → Int32 → Option (Int32 × cS)) (l1 : Int32)  : Nat → cS → Option ((cS) ⊕ (Int32 × cS))
  | 0, _ => none
  | f + 1, s => if (s.1 (o + 2) 3) ≤ (s.1 (o + 2) 4) then (some (.inl s)) else (if iL (s.1 (o + 2) 4) 401 then (if (cg s (o + 3) (s.1 (o + 2) 4)) = (nI 403) then ((o_X7_readAll F τ n o rA (cp s (o + 2) 4 ((s.1 (o + 2) 4) + (nI 1))) l1).bind fun x6 => (if x6.1 = 0 then (some (.inr (nI 0, x6.2))) else ((o_X7_addStep τ n o x6.2 (nI 26) (nI 0)).bind fun x8 => (o_X7_readAny_10 F τ n o rA l1 f x8)))) else (some (.inl s))) else none)
set_option maxHeartbeats 4000000 in
theorem t_X7_readAny_10 {Γ : jg_G} {g : Nat → jg_C} (F : Nat) (τ : cT) (n : Nat) (o : Nat) (rA : cS → Int32 → Option (Int32 × cS)) (l1 : Int32)  (hO : Sh τ n o) (dA : Nat) (h9 : 9 ≤ dA) (hA : ∀ s a1 x, rA s a1 = some x → jc Γ mX7_readAtom dA 0 0 [some (.ref (o + 2)), some (.int a1), none, none] (ct_h g τ s, n) (.inl (some (.int x.1))) (ct_h g τ x.2, n)) (Q : jg_Q) {x : (cS) ⊕ (Int32 × cS)} (K1 : ∀ y, x = .inl y → jg Γ mX7_readAny (dA + 2) 0 0 66 [none, none] [] (ct_h g τ y, n) Q) (K2 : ∀ z, x = .inr z → Q (.inl (some (.int z.1))) (ct_h g τ z.2, n)) : ∀ (f : Nat) (s : cS), o_X7_readAny_10 F τ n o rA l1 f s = some x → jg Γ mX7_readAny (dA + 2) 0 0 10 [some (.ref (o + 2)), some (.int l1)] [] (ct_h g τ s, n) Q := by
  intro f
  induction f with
  | zero => intro s h; rw [o_X7_readAny_10] at h; cases h
  | succ f ih =>
   intro s h
   rw [o_X7_readAny_10] at h
   refine jg_aload_n dX7_readAny_10 rfl ?_
   refine cs_get (s := s) (w := .int (s.1 (o + 2) 4)) fl_X7_47 dX7_readAny_11 (hO.ob 2 (by decide) rfl) rfl ?_
   refine jg_aload_n dX7_readAny_14 rfl ?_
   refine cs_get (s := s) (w := .int (s.1 (o + 2) 3)) fl_X7_64 dX7_readAny_15 (hO.ob 2 (by decide) rfl) rfl ?_
   refine jg_icmp_ge (x := (s.1 (o + 2) 4)) (y := (s.1 (o + 2) 3)) (tgt := 66) dX7_readAny_18 (by decide) (fun c3 => ?_) (fun c3 => ?_)
   · replace h := it_t c3 h
     refine jg_fg (L' := [none, none]) (by repeat (first | exact trivial | refine ⟨rfl, ?_⟩ | show jg_le _ _)) ?_
     obtain rfl := Option.some.inj h
     exact K1 _ rfl
   · replace h := it_f c3 h
     refine jg_aload_n dX7_readAny_21 rfl ?_
     refine cs_get (s := s) (w := .ref (o + 3)) fl_X7_15 dX7_readAny_22 (hO.ob 2 (by decide) rfl) rfl ?_
     refine jg_aload_n dX7_readAny_25 rfl ?_
     refine cs_get (s := s) (w := .int (s.1 (o + 2) 4)) fl_X7_47 dX7_readAny_26 (hO.ob 2 (by decide) rfl) rfl ?_
     obtain ⟨q4, h⟩ := gd_some h
     refine cs_lda (s := s) (q := (o + 3)) (i := (s.1 (o + 2) 4)) dX7_readAny_29 (hO.ar 3 (by decide) rfl) q4 ?_
     refine jg_sipush (v := nI 403) dX7_readAny_30 (by decide) ?_
     refine jg_icmp_ne (x := (cg s (o + 3) (s.1 (o + 2) 4))) (y := (nI 403)) (tgt := 66) dX7_readAny_33 (by decide) (fun c5 => ?_) (fun c5 => ?_)
     · replace h := it_f c5 h
       refine jg_fg (L' := [none, none]) (by repeat (first | exact trivial | refine ⟨rfl, ?_⟩ | show jg_le _ _)) ?_
       obtain rfl := Option.some.inj h
       exact K1 _ rfl
     · replace h := it_t c5 h
       refine jg_aload_n dX7_readAny_36 rfl ?_
       refine jg_dup dX7_readAny_37 rfl ?_
       refine cs_get (s := s) (w := .int (s.1 (o + 2) 4)) fl_X7_47 dX7_readAny_38 (hO.ob 2 (by decide) rfl) rfl ?_
       refine jg_iconst (v := nI 1) dX7_readAny_41 (by decide) ?_
       refine jg_iadd (x := (s.1 (o + 2) 4)) (y := (nI 1)) dX7_readAny_42  ?_
       refine cs_put (s := s) (k := 4) (x := ((s.1 (o + 2) 4) + (nI 1))) fl_X7_47 dX7_readAny_43 (hO.ob 2 (by decide) rfl) (ltb rfl) (rfl) rfl rfl ?_
       refine jg_aload_n dX7_readAny_46 rfl ?_
       refine jg_iload_n dX7_readAny_47 rfl ?_
       obtain ⟨x6, e_x6, h⟩ := bd_some h
       refine cs_call (q := (o + 2)) (As := [.int l1]) kv_X7_133 dX7_readAny_48 (hO.ob 2 (by decide) rfl) rfl rfl (by decide) (Nat.le_of_ble_eq_true rfl) rfl (by omega) (Nat.le_of_ble_eq_true rfl) (t_X7_readAll F τ n o rA (cp s (o + 2) 4 ((s.1 (o + 2) 4) + (nI 1))) l1 hO dA h9 hA e_x6) ?_
       refine jg_if_ne (x := x6.1) (tgt := 56) dX7_readAny_51 (by decide) (fun c7 => ?_) (fun c7 => ?_)
       · replace h := it_f c7 h
         refine jg_aload_n dX7_readAny_56 rfl ?_
         refine jg_bipush (v := nI 26) dX7_readAny_57 (by decide) ?_
         refine jg_iconst (v := nI 0) dX7_readAny_59 (by decide) ?_
         obtain ⟨x8, e_x8, h⟩ := bd_some h
         refine cs_call (q := (o + 2)) (As := [.int (nI 26), .int (nI 0)]) kv_X7_136 dX7_readAny_60 (hO.ob 2 (by decide) rfl) rfl rfl (by decide) (Nat.le_of_ble_eq_true rfl) rfl (by omega) (Nat.le_of_ble_eq_true rfl) (t_X7_addStep τ n o x6.2 (nI 26) (nI 0) hO e_x8) ?_
         refine jg_goto (tgt := 10) dX7_readAny_63 (by decide) ?_
         refine jg_fg (L' := [some (.ref (o + 2)), some (.int l1)]) (by repeat (first | exact trivial | refine ⟨rfl, ?_⟩ | show jg_le _ _)) ?_
         exact ih x8 h
       · replace h := it_t c7 h
         refine jg_iconst (v := nI 0) dX7_readAny_54 (by decide) ?_
         obtain rfl := Option.some.inj h
         exact jg_zreturn dX7_readAny_55 rfl (rfl) (K2 _ rfl)
noncomputable def o_X7_readAny (F : Nat) (τ : cT) (n : Nat) (o : Nat) (rA : cS → Int32 → Option (Int32 × cS)) (s : cS) (a1 : Int32) : Option (Int32 × cS) := (o_X7_readAll F τ n o rA s a1).bind fun x1 => (if x1.1 = 0 then (some (nI 0, x1.2)) else ((o_X7_readAny_10 F τ n o rA a1 F x1.2).bind fun x9 => (Sum.elim (fun y10 => some (nI 1, y10)) (fun z11 => some z11) x9)))
set_option maxHeartbeats 4000000 in
theorem t_X7_readAny {Γ : jg_G} {g : Nat → jg_C} (F : Nat) (τ : cT) (n : Nat) (o : Nat) (rA : cS → Int32 → Option (Int32 × cS)) (s : cS) (a1 : Int32) (hO : Sh τ n o) (dA : Nat) (h9 : 9 ≤ dA) (hA : ∀ s a1 x, rA s a1 = some x → jc Γ mX7_readAtom dA 0 0 [some (.ref (o + 2)), some (.int a1), none, none] (ct_h g τ s, n) (.inl (some (.int x.1))) (ct_h g τ x.2, n)) {x : Int32 × cS} (h : o_X7_readAny F τ n o rA s a1 = some x) : jc Γ mX7_readAny (dA + 2) 0 0 [some (.ref (o + 2)), some (.int a1)] (ct_h g τ s, n) (.inl (some (.int x.1))) (ct_h g τ x.2, n) := by
  refine jc_of ?_
  rw [o_X7_readAny] at h
  refine jg_aload_n dX7_readAny_0 rfl ?_
  refine jg_iload_n dX7_readAny_1 rfl ?_
  obtain ⟨x1, e_x1, h⟩ := bd_some h
  refine cs_call (q := (o + 2)) (As := [.int a1]) kv_X7_133 dX7_readAny_2 (hO.ob 2 (by decide) rfl) rfl rfl (by decide) (Nat.le_of_ble_eq_true rfl) rfl (by omega) (Nat.le_of_ble_eq_true rfl) (t_X7_readAll F τ n o rA s a1 hO dA h9 hA e_x1) ?_
  refine jg_if_ne (x := x1.1) (tgt := 10) dX7_readAny_5 (by decide) (fun c2 => ?_) (fun c2 => ?_)
  · replace h := it_f c2 h
    obtain ⟨x9, e_x9, h⟩ := bd_some h
    refine jg_fg (L' := [some (.ref (o + 2)), some (.int a1)]) (by repeat (first | exact trivial | refine ⟨rfl, ?_⟩ | show jg_le _ _)) ?_
    refine t_X7_readAny_10  F τ n o rA a1 hO dA h9 hA _ (x := x9) ?_ ?_ F x1.2 e_x9
    · intro y10 ey; subst ey; replace h := se_l h
      refine jg_iconst (v := nI 1) dX7_readAny_66 (by decide) ?_
      obtain rfl := Option.some.inj h
      exact jg_zreturn dX7_readAny_67 rfl (rfl) ⟨rfl, rfl⟩
    · intro z11 ez; subst ez; replace h := se_r h
      obtain rfl := Option.some.inj h
      exact ⟨rfl, rfl⟩
  · replace h := it_t c2 h
    refine jg_iconst (v := nI 0) dX7_readAny_8 (by decide) ?_
    obtain rfl := Option.some.inj h
    exact jg_zreturn dX7_readAny_9 rfl (rfl) ⟨rfl, rfl⟩
theorem dX7_readClosed_0 : decode cX7_readClosed 0 = .ok (.aload_n 0, 1) := by decide +kernel
theorem dX7_readClosed_1 : decode cX7_readClosed 1 = .ok (.iload_n 1, 1) := by decide +kernel
theorem dX7_readClosed_2 : decode cX7_readClosed 2 = .ok (.invokevirtual 129, 3) := by decide +kernel
theorem dX7_readClosed_5 : decode cX7_readClosed 5 = .ok (.ifCond .eq 12, 3) := by decide +kernel
theorem dX7_readClosed_8 : decode cX7_readClosed 8 = .ok (.aload_n 0, 1) := by decide +kernel
theorem dX7_readClosed_9 : decode cX7_readClosed 9 = .ok (.invokevirtual 56, 3) := by decide +kernel
theorem dX7_readClosed_12 : decode cX7_readClosed 12 = .ok (.bipush 41, 2) := by decide +kernel
theorem dX7_readClosed_14 : decode cX7_readClosed 14 = .ok (.if_icmp .eq 5, 3) := by decide +kernel
theorem dX7_readClosed_17 : decode cX7_readClosed 17 = .ok (.iconst 0, 1) := by decide +kernel
theorem dX7_readClosed_18 : decode cX7_readClosed 18 = .ok (.ireturn, 1) := by decide +kernel
theorem dX7_readClosed_19 : decode cX7_readClosed 19 = .ok (.aload_n 0, 1) := by decide +kernel
theorem dX7_readClosed_20 : decode cX7_readClosed 20 = .ok (.dup, 1) := by decide +kernel
theorem dX7_readClosed_21 : decode cX7_readClosed 21 = .ok (.getfield 47, 3) := by decide +kernel
theorem dX7_readClosed_24 : decode cX7_readClosed 24 = .ok (.iconst 1, 1) := by decide +kernel
theorem dX7_readClosed_25 : decode cX7_readClosed 25 = .ok (.iadd, 1) := by decide +kernel
theorem dX7_readClosed_26 : decode cX7_readClosed 26 = .ok (.putfield 47, 3) := by decide +kernel
theorem dX7_readClosed_29 : decode cX7_readClosed 29 = .ok (.iconst 1, 1) := by decide +kernel
theorem dX7_readClosed_30 : decode cX7_readClosed 30 = .ok (.ireturn, 1) := by decide +kernel
noncomputable def o_X7_readClosed (F : Nat) (τ : cT) (n : Nat) (o : Nat) (rA : cS → Int32 → Option (Int32 × cS)) (s : cS) (a1 : Int32) : Option (Int32 × cS) := (o_X7_readAny F τ n o rA s a1).bind fun x1 => (if x1.1 = 0 then (some (nI 0, x1.2)) else ((o_X7_thing τ n o x1.2).bind fun x3 => (if x3 = (nI 41) then (some (nI 1, cp x1.2 (o + 2) 4 ((x1.2.1 (o + 2) 4) + (nI 1)))) else (some (nI 0, x1.2)))))
set_option maxHeartbeats 4000000 in
theorem t_X7_readClosed {Γ : jg_G} {g : Nat → jg_C} (F : Nat) (τ : cT) (n : Nat) (o : Nat) (rA : cS → Int32 → Option (Int32 × cS)) (s : cS) (a1 : Int32) (hO : Sh τ n o) (dA : Nat) (h9 : 9 ≤ dA) (hA : ∀ s a1 x, rA s a1 = some x → jc Γ mX7_readAtom dA 0 0 [some (.ref (o + 2)), some (.int a1), none, none] (ct_h g τ s, n) (.inl (some (.int x.1))) (ct_h g τ x.2, n)) {x : Int32 × cS} (h : o_X7_readClosed F τ n o rA s a1 = some x) : jc Γ mX7_readClosed (dA + 3) 0 0 [some (.ref (o + 2)), some (.int a1)] (ct_h g τ s, n) (.inl (some (.int x.1))) (ct_h g τ x.2, n) := by
  refine jc_of ?_
  rw [o_X7_readClosed] at h
  refine jg_aload_n dX7_readClosed_0 rfl ?_
  refine jg_iload_n dX7_readClosed_1 rfl ?_
  obtain ⟨x1, e_x1, h⟩ := bd_some h
  refine cs_call (q := (o + 2)) (As := [.int a1]) kv_X7_129 dX7_readClosed_2 (hO.ob 2 (by decide) rfl) rfl rfl (by decide) (Nat.le_of_ble_eq_true rfl) rfl (by omega) (Nat.le_of_ble_eq_true rfl) (t_X7_readAny F τ n o rA s a1 hO dA h9 hA e_x1) ?_
  refine jg_if_eq (x := x1.1) (tgt := 17) dX7_readClosed_5 (by decide) (fun c2 => ?_) (fun c2 => ?_)
  · replace h := it_t c2 h
    refine jg_iconst (v := nI 0) dX7_readClosed_17 (by decide) ?_
    obtain rfl := Option.some.inj h
    exact jg_zreturn dX7_readClosed_18 rfl (rfl) ⟨rfl, rfl⟩
  · replace h := it_f c2 h
    refine jg_aload_n dX7_readClosed_8 rfl ?_
    obtain ⟨x3, e_x3, h⟩ := bd_some h
    refine cs_call (q := (o + 2)) (As := []) kv_X7_56 dX7_readClosed_9 (hO.ob 2 (by decide) rfl) rfl rfl (by decide) (Nat.le_of_ble_eq_true rfl) rfl (by omega) (Nat.le_of_ble_eq_true rfl) (t_X7_thing τ n o x1.2 hO e_x3) ?_
    refine jg_bipush (v := nI 41) dX7_readClosed_12 (by decide) ?_
    refine jg_icmp_eq (x := x3) (y := (nI 41)) (tgt := 19) dX7_readClosed_14 (by decide) (fun c4 => ?_) (fun c4 => ?_)
    · replace h := it_t c4 h
      refine jg_aload_n dX7_readClosed_19 rfl ?_
      refine jg_dup dX7_readClosed_20 rfl ?_
      refine cs_get (s := x1.2) (w := .int (x1.2.1 (o + 2) 4)) fl_X7_47 dX7_readClosed_21 (hO.ob 2 (by decide) rfl) rfl ?_
      refine jg_iconst (v := nI 1) dX7_readClosed_24 (by decide) ?_
      refine jg_iadd (x := (x1.2.1 (o + 2) 4)) (y := (nI 1)) dX7_readClosed_25  ?_
      refine cs_put (s := x1.2) (k := 4) (x := ((x1.2.1 (o + 2) 4) + (nI 1))) fl_X7_47 dX7_readClosed_26 (hO.ob 2 (by decide) rfl) (ltb rfl) (rfl) rfl rfl ?_
      refine jg_iconst (v := nI 1) dX7_readClosed_29 (by decide) ?_
      obtain rfl := Option.some.inj h
      exact jg_zreturn dX7_readClosed_30 rfl (rfl) ⟨rfl, rfl⟩
    · replace h := it_f c4 h
      refine jg_iconst (v := nI 0) dX7_readClosed_17 (by decide) ?_
      obtain rfl := Option.some.inj h
      exact jg_zreturn dX7_readClosed_18 rfl (rfl) ⟨rfl, rfl⟩
theorem dX7_readDenied_0 : decode cX7_readDenied 0 = .ok (.aload_n 0, 1) := by decide +kernel
theorem dX7_readDenied_1 : decode cX7_readDenied 1 = .ok (.iload_n 1, 1) := by decide +kernel
theorem dX7_readDenied_2 : decode cX7_readDenied 2 = .ok (.invokevirtual 139, 3) := by decide +kernel
theorem dX7_readDenied_5 : decode cX7_readDenied 5 = .ok (.ifCond .ne 5, 3) := by decide +kernel
theorem dX7_readDenied_8 : decode cX7_readDenied 8 = .ok (.iconst 0, 1) := by decide +kernel
theorem dX7_readDenied_9 : decode cX7_readDenied 9 = .ok (.ireturn, 1) := by decide +kernel
theorem dX7_readDenied_10 : decode cX7_readDenied 10 = .ok (.aload_n 0, 1) := by decide +kernel
theorem dX7_readDenied_11 : decode cX7_readDenied 11 = .ok (.bipush 24, 2) := by decide +kernel
theorem dX7_readDenied_13 : decode cX7_readDenied 13 = .ok (.iconst 0, 1) := by decide +kernel
theorem dX7_readDenied_14 : decode cX7_readDenied 14 = .ok (.invokevirtual 136, 3) := by decide +kernel
theorem dX7_readDenied_17 : decode cX7_readDenied 17 = .ok (.iconst 1, 1) := by decide +kernel
theorem dX7_readDenied_18 : decode cX7_readDenied 18 = .ok (.ireturn, 1) := by decide +kernel
noncomputable def o_X7_readDenied (F : Nat) (τ : cT) (n : Nat) (o : Nat) (rA : cS → Int32 → Option (Int32 × cS)) (s : cS) (a1 : Int32) : Option (Int32 × cS) := (rA s a1).bind fun x1 => (if x1.1 = 0 then (some (nI 0, x1.2)) else ((o_X7_addStep τ n o x1.2 (nI 24) (nI 0)).bind fun x3 => (some (nI 1, x3))))
set_option maxHeartbeats 4000000 in
theorem t_X7_readDenied {Γ : jg_G} {g : Nat → jg_C} (F : Nat) (τ : cT) (n : Nat) (o : Nat) (rA : cS → Int32 → Option (Int32 × cS)) (s : cS) (a1 : Int32) (hO : Sh τ n o) (dA : Nat) (h9 : 9 ≤ dA) (hA : ∀ s a1 x, rA s a1 = some x → jc Γ mX7_readAtom dA 0 0 [some (.ref (o + 2)), some (.int a1), none, none] (ct_h g τ s, n) (.inl (some (.int x.1))) (ct_h g τ x.2, n)) {x : Int32 × cS} (h : o_X7_readDenied F τ n o rA s a1 = some x) : jc Γ mX7_readDenied (dA + 1) 0 0 [some (.ref (o + 2)), some (.int a1)] (ct_h g τ s, n) (.inl (some (.int x.1))) (ct_h g τ x.2, n) := by
  refine jc_of ?_
  rw [o_X7_readDenied] at h
  refine jg_aload_n dX7_readDenied_0 rfl ?_
  refine jg_iload_n dX7_readDenied_1 rfl ?_
  obtain ⟨x1, e_x1, h⟩ := bd_some h
  refine cs_call (q := (o + 2)) (As := [.int a1]) kv_X7_139 dX7_readDenied_2 (hO.ob 2 (by decide) rfl) rfl rfl (by decide) (Nat.le_of_ble_eq_true rfl) rfl (by omega) (Nat.le_of_ble_eq_true rfl) (hA s a1 _ e_x1) ?_
  refine jg_if_ne (x := x1.1) (tgt := 10) dX7_readDenied_5 (by decide) (fun c2 => ?_) (fun c2 => ?_)
  · replace h := it_f c2 h
    refine jg_aload_n dX7_readDenied_10 rfl ?_
    refine jg_bipush (v := nI 24) dX7_readDenied_11 (by decide) ?_
    refine jg_iconst (v := nI 0) dX7_readDenied_13 (by decide) ?_
    obtain ⟨x3, e_x3, h⟩ := bd_some h
    refine cs_call (q := (o + 2)) (As := [.int (nI 24), .int (nI 0)]) kv_X7_136 dX7_readDenied_14 (hO.ob 2 (by decide) rfl) rfl rfl (by decide) (Nat.le_of_ble_eq_true rfl) rfl (by omega) (Nat.le_of_ble_eq_true rfl) (t_X7_addStep τ n o x1.2 (nI 24) (nI 0) hO e_x3) ?_
    refine jg_iconst (v := nI 1) dX7_readDenied_17 (by decide) ?_
    obtain rfl := Option.some.inj h
    exact jg_zreturn dX7_readDenied_18 rfl (rfl) ⟨rfl, rfl⟩
  · replace h := it_t c2 h
    refine jg_iconst (v := nI 0) dX7_readDenied_8 (by decide) ?_
    obtain rfl := Option.some.inj h
    exact jg_zreturn dX7_readDenied_9 rfl (rfl) ⟨rfl, rfl⟩
theorem dX7_readAtom_0 : decode cX7_readAtom 0 = .ok (.aload_n 0, 1) := by decide +kernel
theorem dX7_readAtom_1 : decode cX7_readAtom 1 = .ok (.invokevirtual 56, 3) := by decide +kernel
theorem dX7_readAtom_4 : decode cX7_readAtom 4 = .ok (.istore_n 2, 1) := by decide +kernel
theorem dX7_readAtom_5 : decode cX7_readAtom 5 = .ok (.iload_n 2, 1) := by decide +kernel
theorem dX7_readAtom_6 : decode cX7_readAtom 6 = .ok (.sipush 405, 3) := by decide +kernel
theorem dX7_readAtom_9 : decode cX7_readAtom 9 = .ok (.if_icmp .eq 9, 3) := by decide +kernel
theorem dX7_readAtom_12 : decode cX7_readAtom 12 = .ok (.iload_n 2, 1) := by decide +kernel
theorem dX7_readAtom_13 : decode cX7_readAtom 13 = .ok (.bipush 40, 2) := by decide +kernel
theorem dX7_readAtom_15 : decode cX7_readAtom 15 = .ok (.if_icmp .ne 45, 3) := by decide +kernel
theorem dX7_readAtom_18 : decode cX7_readAtom 18 = .ok (.iload_n 1, 1) := by decide +kernel
theorem dX7_readAtom_19 : decode cX7_readAtom 19 = .ok (.bipush 6, 2) := by decide +kernel
theorem dX7_readAtom_21 : decode cX7_readAtom 21 = .ok (.if_icmp .lt 5, 3) := by decide +kernel
theorem dX7_readAtom_24 : decode cX7_readAtom 24 = .ok (.iconst 0, 1) := by decide +kernel
theorem dX7_readAtom_25 : decode cX7_readAtom 25 = .ok (.ireturn, 1) := by decide +kernel
theorem dX7_readAtom_26 : decode cX7_readAtom 26 = .ok (.aload_n 0, 1) := by decide +kernel
theorem dX7_readAtom_27 : decode cX7_readAtom 27 = .ok (.dup, 1) := by decide +kernel
theorem dX7_readAtom_28 : decode cX7_readAtom 28 = .ok (.getfield 47, 3) := by decide +kernel
theorem dX7_readAtom_31 : decode cX7_readAtom 31 = .ok (.iconst 1, 1) := by decide +kernel
theorem dX7_readAtom_32 : decode cX7_readAtom 32 = .ok (.iadd, 1) := by decide +kernel
theorem dX7_readAtom_33 : decode cX7_readAtom 33 = .ok (.putfield 47, 3) := by decide +kernel
theorem dX7_readAtom_36 : decode cX7_readAtom 36 = .ok (.iload_n 2, 1) := by decide +kernel
theorem dX7_readAtom_37 : decode cX7_readAtom 37 = .ok (.bipush 40, 2) := by decide +kernel
theorem dX7_readAtom_39 : decode cX7_readAtom 39 = .ok (.if_icmp .ne 13, 3) := by decide +kernel
theorem dX7_readAtom_42 : decode cX7_readAtom 42 = .ok (.aload_n 0, 1) := by decide +kernel
theorem dX7_readAtom_43 : decode cX7_readAtom 43 = .ok (.iload_n 1, 1) := by decide +kernel
theorem dX7_readAtom_44 : decode cX7_readAtom 44 = .ok (.iconst 1, 1) := by decide +kernel
theorem dX7_readAtom_45 : decode cX7_readAtom 45 = .ok (.iadd, 1) := by decide +kernel
theorem dX7_readAtom_46 : decode cX7_readAtom 46 = .ok (.invokevirtual 142, 3) := by decide +kernel
theorem dX7_readAtom_49 : decode cX7_readAtom 49 = .ok (.goto 10, 3) := by decide +kernel
theorem dX7_readAtom_52 : decode cX7_readAtom 52 = .ok (.aload_n 0, 1) := by decide +kernel
theorem dX7_readAtom_53 : decode cX7_readAtom 53 = .ok (.iload_n 1, 1) := by decide +kernel
theorem dX7_readAtom_54 : decode cX7_readAtom 54 = .ok (.iconst 1, 1) := by decide +kernel
theorem dX7_readAtom_55 : decode cX7_readAtom 55 = .ok (.iadd, 1) := by decide +kernel
theorem dX7_readAtom_56 : decode cX7_readAtom 56 = .ok (.invokevirtual 145, 3) := by decide +kernel
theorem dX7_readAtom_59 : decode cX7_readAtom 59 = .ok (.ireturn, 1) := by decide +kernel
theorem dX7_readAtom_60 : decode cX7_readAtom 60 = .ok (.iload_n 2, 1) := by decide +kernel
theorem dX7_readAtom_61 : decode cX7_readAtom 61 = .ok (.sipush 300, 3) := by decide +kernel
theorem dX7_readAtom_64 : decode cX7_readAtom 64 = .ok (.isub, 1) := by decide +kernel
theorem dX7_readAtom_65 : decode cX7_readAtom 65 = .ok (.istore_n 3, 1) := by decide +kernel
theorem dX7_readAtom_66 : decode cX7_readAtom 66 = .ok (.iload_n 3, 1) := by decide +kernel
theorem dX7_readAtom_67 : decode cX7_readAtom 67 = .ok (.ifCond .lt 9, 3) := by decide +kernel
theorem dX7_readAtom_70 : decode cX7_readAtom 70 = .ok (.iload_n 3, 1) := by decide +kernel
theorem dX7_readAtom_71 : decode cX7_readAtom 71 = .ok (.bipush 12, 2) := by decide +kernel
theorem dX7_readAtom_73 : decode cX7_readAtom 73 = .ok (.if_icmp .lt 5, 3) := by decide +kernel
theorem dX7_readAtom_76 : decode cX7_readAtom 76 = .ok (.iconst 0, 1) := by decide +kernel
theorem dX7_readAtom_77 : decode cX7_readAtom 77 = .ok (.ireturn, 1) := by decide +kernel
theorem dX7_readAtom_78 : decode cX7_readAtom 78 = .ok (.aload_n 0, 1) := by decide +kernel
theorem dX7_readAtom_79 : decode cX7_readAtom 79 = .ok (.dup, 1) := by decide +kernel
theorem dX7_readAtom_80 : decode cX7_readAtom 80 = .ok (.getfield 47, 3) := by decide +kernel
theorem dX7_readAtom_83 : decode cX7_readAtom 83 = .ok (.iconst 1, 1) := by decide +kernel
theorem dX7_readAtom_84 : decode cX7_readAtom 84 = .ok (.iadd, 1) := by decide +kernel
theorem dX7_readAtom_85 : decode cX7_readAtom 85 = .ok (.putfield 47, 3) := by decide +kernel
theorem dX7_readAtom_88 : decode cX7_readAtom 88 = .ok (.iload_n 3, 1) := by decide +kernel
theorem dX7_readAtom_89 : decode cX7_readAtom 89 = .ok (.bipush 7, 2) := by decide +kernel
theorem dX7_readAtom_91 : decode cX7_readAtom 91 = .ok (.if_icmp .ge 14, 3) := by decide +kernel
theorem dX7_readAtom_94 : decode cX7_readAtom 94 = .ok (.aload_n 0, 1) := by decide +kernel
theorem dX7_readAtom_95 : decode cX7_readAtom 95 = .ok (.bipush 12, 2) := by decide +kernel
theorem dX7_readAtom_97 : decode cX7_readAtom 97 = .ok (.iload_n 3, 1) := by decide +kernel
theorem dX7_readAtom_98 : decode cX7_readAtom 98 = .ok (.iadd, 1) := by decide +kernel
theorem dX7_readAtom_99 : decode cX7_readAtom 99 = .ok (.iconst 0, 1) := by decide +kernel
theorem dX7_readAtom_100 : decode cX7_readAtom 100 = .ok (.invokevirtual 136, 3) := by decide +kernel
theorem dX7_readAtom_103 : decode cX7_readAtom 103 = .ok (.iconst 1, 1) := by decide +kernel
theorem dX7_readAtom_104 : decode cX7_readAtom 104 = .ok (.ireturn, 1) := by decide +kernel
theorem dX7_readAtom_105 : decode cX7_readAtom 105 = .ok (.aload_n 0, 1) := by decide +kernel
theorem dX7_readAtom_106 : decode cX7_readAtom 106 = .ok (.iload_n 3, 1) := by decide +kernel
theorem dX7_readAtom_107 : decode cX7_readAtom 107 = .ok (.invokevirtual 148, 3) := by decide +kernel
theorem dX7_readAtom_110 : decode cX7_readAtom 110 = .ok (.ireturn, 1) := by decide +kernel
noncomputable def o_X7_readAtom (F : Nat) (τ : cT) (n : Nat) (o : Nat) (rA : cS → Int32 → Option (Int32 × cS)) (s : cS) (a1 : Int32) : Option (Int32 × cS) := (o_X7_thing τ n o s).bind fun x1 => (if x1 = (nI 405) then (if a1 < (nI 6) then (if x1 = (nI 40) then ((o_X7_readClosed F τ n o rA (cp s (o + 2) 4 ((s.1 (o + 2) 4) + (nI 1))) (a1 + (nI 1))).bind fun x6 => (if zb x6.1 then some (x6.1, x6.2) else none)) else ((o_X7_readDenied F τ n o rA (cp s (o + 2) 4 ((s.1 (o + 2) 4) + (nI 1))) (a1 + (nI 1))).bind fun x5 => (if zb x5.1 then some (x5.1, x5.2) else none))) else (some (nI 0, s))) else (if x1 = (nI 40) then (if a1 < (nI 6) then (if x1 = (nI 40) then ((o_X7_readClosed F τ n o rA (cp s (o + 2) 4 ((s.1 (o + 2) 4) + (nI 1))) (a1 + (nI 1))).bind fun x16 => (if zb x16.1 then some (x16.1, x16.2) else none)) else ((o_X7_readDenied F τ n o rA (cp s (o + 2) 4 ((s.1 (o + 2) 4) + (nI 1))) (a1 + (nI 1))).bind fun x15 => (if zb x15.1 then some (x15.1, x15.2) else none))) else (some (nI 0, s))) else (if (x1 - (nI 300)) < 0 then (some (nI 0, s)) else (if (x1 - (nI 300)) < (nI 12) then (if (nI 7) ≤ (x1 - (nI 300)) then ((o_X7_readLimit τ n o (cp s (o + 2) 4 ((s.1 (o + 2) 4) + (nI 1))) (x1 - (nI 300))).bind fun x11 => (if zb x11.1 then some (x11.1, x11.2) else none)) else ((o_X7_addStep τ n o (cp s (o + 2) 4 ((s.1 (o + 2) 4) + (nI 1))) ((nI 12) + (x1 - (nI 300))) (nI 0)).bind fun x12 => (some (nI 1, x12)))) else (some (nI 0, s))))))
set_option maxHeartbeats 4000000 in
theorem t_X7_readAtom {Γ : jg_G} {g : Nat → jg_C} (F : Nat) (τ : cT) (n : Nat) (o : Nat) (rA : cS → Int32 → Option (Int32 × cS)) (s : cS) (a1 : Int32) (hO : Sh τ n o) (dA : Nat) (h9 : 9 ≤ dA) (hA : ∀ s a1 x, rA s a1 = some x → jc Γ mX7_readAtom dA 0 0 [some (.ref (o + 2)), some (.int a1), none, none] (ct_h g τ s, n) (.inl (some (.int x.1))) (ct_h g τ x.2, n)) {x : Int32 × cS} (h : o_X7_readAtom F τ n o rA s a1 = some x) : jc Γ mX7_readAtom (dA + 4) 0 0 [some (.ref (o + 2)), some (.int a1), none, none] (ct_h g τ s, n) (.inl (some (.int x.1))) (ct_h g τ x.2, n) := by
  refine jc_of ?_
  rw [o_X7_readAtom] at h
  refine jg_aload_n dX7_readAtom_0 rfl ?_
  obtain ⟨x1, e_x1, h⟩ := bd_some h
  refine cs_call (q := (o + 2)) (As := []) kv_X7_56 dX7_readAtom_1 (hO.ob 2 (by decide) rfl) rfl rfl (by decide) (Nat.le_of_ble_eq_true rfl) rfl (by omega) (Nat.le_of_ble_eq_true rfl) (t_X7_thing τ n o s hO e_x1) ?_
  refine jg_istore_n (L' := [some (.ref (o + 2)), some (.int a1), some (.int x1), none]) dX7_readAtom_4 (by decide) rfl ?_
  refine jg_iload_n dX7_readAtom_5 rfl ?_
  refine jg_sipush (v := nI 405) dX7_readAtom_6 (by decide) ?_
  refine jg_icmp_eq (x := x1) (y := (nI 405)) (tgt := 18) dX7_readAtom_9 (by decide) (fun c2 => ?_) (fun c2 => ?_)
  · replace h := it_t c2 h
    refine jg_iload_n dX7_readAtom_18 rfl ?_
    refine jg_bipush (v := nI 6) dX7_readAtom_19 (by decide) ?_
    refine jg_icmp_lt (x := a1) (y := (nI 6)) (tgt := 26) dX7_readAtom_21 (by decide) (fun c3 => ?_) (fun c3 => ?_)
    · replace h := it_t c3 h
      refine jg_aload_n dX7_readAtom_26 rfl ?_
      refine jg_dup dX7_readAtom_27 rfl ?_
      refine cs_get (s := s) (w := .int (s.1 (o + 2) 4)) fl_X7_47 dX7_readAtom_28 (hO.ob 2 (by decide) rfl) rfl ?_
      refine jg_iconst (v := nI 1) dX7_readAtom_31 (by decide) ?_
      refine jg_iadd (x := (s.1 (o + 2) 4)) (y := (nI 1)) dX7_readAtom_32  ?_
      refine cs_put (s := s) (k := 4) (x := ((s.1 (o + 2) 4) + (nI 1))) fl_X7_47 dX7_readAtom_33 (hO.ob 2 (by decide) rfl) (ltb rfl) (rfl) rfl rfl ?_
      refine jg_iload_n dX7_readAtom_36 rfl ?_
      refine jg_bipush (v := nI 40) dX7_readAtom_37 (by decide) ?_
      refine jg_icmp_ne (x := x1) (y := (nI 40)) (tgt := 52) dX7_readAtom_39 (by decide) (fun c4 => ?_) (fun c4 => ?_)
      · replace h := it_f c4 h
        refine jg_aload_n dX7_readAtom_52 rfl ?_
        refine jg_iload_n dX7_readAtom_53 rfl ?_
        refine jg_iconst (v := nI 1) dX7_readAtom_54 (by decide) ?_
        refine jg_iadd (x := a1) (y := (nI 1)) dX7_readAtom_55  ?_
        obtain ⟨x5, e_x5, h⟩ := bd_some h
        refine cs_call (q := (o + 2)) (As := [.int (a1 + (nI 1))]) kv_X7_145 dX7_readAtom_56 (hO.ob 2 (by decide) rfl) rfl rfl (by decide) (Nat.le_of_ble_eq_true rfl) rfl (by omega) (Nat.le_of_ble_eq_true rfl) (t_X7_readDenied F τ n o rA (cp s (o + 2) 4 ((s.1 (o + 2) 4) + (nI 1))) (a1 + (nI 1)) hO dA h9 hA e_x5) ?_
        obtain ⟨q9, h⟩ := gd_some h
        obtain rfl := Option.some.inj h
        exact jg_zreturn dX7_readAtom_59 rfl (zb_nar q9) ⟨rfl, rfl⟩
      · replace h := it_t c4 h
        refine jg_aload_n dX7_readAtom_42 rfl ?_
        refine jg_iload_n dX7_readAtom_43 rfl ?_
        refine jg_iconst (v := nI 1) dX7_readAtom_44 (by decide) ?_
        refine jg_iadd (x := a1) (y := (nI 1)) dX7_readAtom_45  ?_
        obtain ⟨x6, e_x6, h⟩ := bd_some h
        refine cs_call (q := (o + 2)) (As := [.int (a1 + (nI 1))]) kv_X7_142 dX7_readAtom_46 (hO.ob 2 (by decide) rfl) rfl rfl (by decide) (Nat.le_of_ble_eq_true rfl) rfl (by omega) (Nat.le_of_ble_eq_true rfl) (t_X7_readClosed F τ n o rA (cp s (o + 2) 4 ((s.1 (o + 2) 4) + (nI 1))) (a1 + (nI 1)) hO dA h9 hA e_x6) ?_
        refine jg_goto (tgt := 59) dX7_readAtom_49 (by decide) ?_
        obtain ⟨q9, h⟩ := gd_some h
        obtain rfl := Option.some.inj h
        exact jg_zreturn dX7_readAtom_59 rfl (zb_nar q9) ⟨rfl, rfl⟩
    · replace h := it_f c3 h
      refine jg_iconst (v := nI 0) dX7_readAtom_24 (by decide) ?_
      obtain rfl := Option.some.inj h
      exact jg_zreturn dX7_readAtom_25 rfl (rfl) ⟨rfl, rfl⟩
  · replace h := it_f c2 h
    refine jg_iload_n dX7_readAtom_12 rfl ?_
    refine jg_bipush (v := nI 40) dX7_readAtom_13 (by decide) ?_
    refine jg_icmp_ne (x := x1) (y := (nI 40)) (tgt := 60) dX7_readAtom_15 (by decide) (fun c7 => ?_) (fun c7 => ?_)
    · replace h := it_f c7 h
      refine jg_iload_n dX7_readAtom_60 rfl ?_
      refine jg_sipush (v := nI 300) dX7_readAtom_61 (by decide) ?_
      refine jg_isub (x := x1) (y := (nI 300)) dX7_readAtom_64  ?_
      refine jg_istore_n (L' := [some (.ref (o + 2)), some (.int a1), some (.int x1), some (.int (x1 - (nI 300)))]) dX7_readAtom_65 (by decide) rfl ?_
      refine jg_iload_n dX7_readAtom_66 rfl ?_
      refine jg_if_lt (x := (x1 - (nI 300))) (tgt := 76) dX7_readAtom_67 (by decide) (fun c8 => ?_) (fun c8 => ?_)
      · replace h := it_t c8 h
        refine jg_iconst (v := nI 0) dX7_readAtom_76 (by decide) ?_
        obtain rfl := Option.some.inj h
        exact jg_zreturn dX7_readAtom_77 rfl (rfl) ⟨rfl, rfl⟩
      · replace h := it_f c8 h
        refine jg_iload_n dX7_readAtom_70 rfl ?_
        refine jg_bipush (v := nI 12) dX7_readAtom_71 (by decide) ?_
        refine jg_icmp_lt (x := (x1 - (nI 300))) (y := (nI 12)) (tgt := 78) dX7_readAtom_73 (by decide) (fun c9 => ?_) (fun c9 => ?_)
        · replace h := it_t c9 h
          refine jg_aload_n dX7_readAtom_78 rfl ?_
          refine jg_dup dX7_readAtom_79 rfl ?_
          refine cs_get (s := s) (w := .int (s.1 (o + 2) 4)) fl_X7_47 dX7_readAtom_80 (hO.ob 2 (by decide) rfl) rfl ?_
          refine jg_iconst (v := nI 1) dX7_readAtom_83 (by decide) ?_
          refine jg_iadd (x := (s.1 (o + 2) 4)) (y := (nI 1)) dX7_readAtom_84  ?_
          refine cs_put (s := s) (k := 4) (x := ((s.1 (o + 2) 4) + (nI 1))) fl_X7_47 dX7_readAtom_85 (hO.ob 2 (by decide) rfl) (ltb rfl) (rfl) rfl rfl ?_
          refine jg_iload_n dX7_readAtom_88 rfl ?_
          refine jg_bipush (v := nI 7) dX7_readAtom_89 (by decide) ?_
          refine jg_icmp_ge (x := (x1 - (nI 300))) (y := (nI 7)) (tgt := 105) dX7_readAtom_91 (by decide) (fun c10 => ?_) (fun c10 => ?_)
          · replace h := it_t c10 h
            refine jg_aload_n dX7_readAtom_105 rfl ?_
            refine jg_iload_n dX7_readAtom_106 rfl ?_
            obtain ⟨x11, e_x11, h⟩ := bd_some h
            refine cs_call (q := (o + 2)) (As := [.int (x1 - (nI 300))]) kv_X7_148 dX7_readAtom_107 (hO.ob 2 (by decide) rfl) rfl rfl (by decide) (Nat.le_of_ble_eq_true rfl) rfl (by omega) (Nat.le_of_ble_eq_true rfl) (t_X7_readLimit τ n o (cp s (o + 2) 4 ((s.1 (o + 2) 4) + (nI 1))) (x1 - (nI 300)) hO e_x11) ?_
            obtain ⟨q9, h⟩ := gd_some h
            obtain rfl := Option.some.inj h
            exact jg_zreturn dX7_readAtom_110 rfl (zb_nar q9) ⟨rfl, rfl⟩
          · replace h := it_f c10 h
            refine jg_aload_n dX7_readAtom_94 rfl ?_
            refine jg_bipush (v := nI 12) dX7_readAtom_95 (by decide) ?_
            refine jg_iload_n dX7_readAtom_97 rfl ?_
            refine jg_iadd (x := (nI 12)) (y := (x1 - (nI 300))) dX7_readAtom_98  ?_
            refine jg_iconst (v := nI 0) dX7_readAtom_99 (by decide) ?_
            obtain ⟨x12, e_x12, h⟩ := bd_some h
            refine cs_call (q := (o + 2)) (As := [.int ((nI 12) + (x1 - (nI 300))), .int (nI 0)]) kv_X7_136 dX7_readAtom_100 (hO.ob 2 (by decide) rfl) rfl rfl (by decide) (Nat.le_of_ble_eq_true rfl) rfl (by omega) (Nat.le_of_ble_eq_true rfl) (t_X7_addStep τ n o (cp s (o + 2) 4 ((s.1 (o + 2) 4) + (nI 1))) ((nI 12) + (x1 - (nI 300))) (nI 0) hO e_x12) ?_
            refine jg_iconst (v := nI 1) dX7_readAtom_103 (by decide) ?_
            obtain rfl := Option.some.inj h
            exact jg_zreturn dX7_readAtom_104 rfl (rfl) ⟨rfl, rfl⟩
        · replace h := it_f c9 h
          refine jg_iconst (v := nI 0) dX7_readAtom_76 (by decide) ?_
          obtain rfl := Option.some.inj h
          exact jg_zreturn dX7_readAtom_77 rfl (rfl) ⟨rfl, rfl⟩
    · replace h := it_t c7 h
      refine jg_iload_n dX7_readAtom_18 rfl ?_
      refine jg_bipush (v := nI 6) dX7_readAtom_19 (by decide) ?_
      refine jg_icmp_lt (x := a1) (y := (nI 6)) (tgt := 26) dX7_readAtom_21 (by decide) (fun c13 => ?_) (fun c13 => ?_)
      · replace h := it_t c13 h
        refine jg_aload_n dX7_readAtom_26 rfl ?_
        refine jg_dup dX7_readAtom_27 rfl ?_
        refine cs_get (s := s) (w := .int (s.1 (o + 2) 4)) fl_X7_47 dX7_readAtom_28 (hO.ob 2 (by decide) rfl) rfl ?_
        refine jg_iconst (v := nI 1) dX7_readAtom_31 (by decide) ?_
        refine jg_iadd (x := (s.1 (o + 2) 4)) (y := (nI 1)) dX7_readAtom_32  ?_
        refine cs_put (s := s) (k := 4) (x := ((s.1 (o + 2) 4) + (nI 1))) fl_X7_47 dX7_readAtom_33 (hO.ob 2 (by decide) rfl) (ltb rfl) (rfl) rfl rfl ?_
        refine jg_iload_n dX7_readAtom_36 rfl ?_
        refine jg_bipush (v := nI 40) dX7_readAtom_37 (by decide) ?_
        refine jg_icmp_ne (x := x1) (y := (nI 40)) (tgt := 52) dX7_readAtom_39 (by decide) (fun c14 => ?_) (fun c14 => ?_)
        · replace h := it_f c14 h
          refine jg_aload_n dX7_readAtom_52 rfl ?_
          refine jg_iload_n dX7_readAtom_53 rfl ?_
          refine jg_iconst (v := nI 1) dX7_readAtom_54 (by decide) ?_
          refine jg_iadd (x := a1) (y := (nI 1)) dX7_readAtom_55  ?_
          obtain ⟨x15, e_x15, h⟩ := bd_some h
          refine cs_call (q := (o + 2)) (As := [.int (a1 + (nI 1))]) kv_X7_145 dX7_readAtom_56 (hO.ob 2 (by decide) rfl) rfl rfl (by decide) (Nat.le_of_ble_eq_true rfl) rfl (by omega) (Nat.le_of_ble_eq_true rfl) (t_X7_readDenied F τ n o rA (cp s (o + 2) 4 ((s.1 (o + 2) 4) + (nI 1))) (a1 + (nI 1)) hO dA h9 hA e_x15) ?_
          obtain ⟨q9, h⟩ := gd_some h
          obtain rfl := Option.some.inj h
          exact jg_zreturn dX7_readAtom_59 rfl (zb_nar q9) ⟨rfl, rfl⟩
        · replace h := it_t c14 h
          refine jg_aload_n dX7_readAtom_42 rfl ?_
          refine jg_iload_n dX7_readAtom_43 rfl ?_
          refine jg_iconst (v := nI 1) dX7_readAtom_44 (by decide) ?_
          refine jg_iadd (x := a1) (y := (nI 1)) dX7_readAtom_45  ?_
          obtain ⟨x16, e_x16, h⟩ := bd_some h
          refine cs_call (q := (o + 2)) (As := [.int (a1 + (nI 1))]) kv_X7_142 dX7_readAtom_46 (hO.ob 2 (by decide) rfl) rfl rfl (by decide) (Nat.le_of_ble_eq_true rfl) rfl (by omega) (Nat.le_of_ble_eq_true rfl) (t_X7_readClosed F τ n o rA (cp s (o + 2) 4 ((s.1 (o + 2) 4) + (nI 1))) (a1 + (nI 1)) hO dA h9 hA e_x16) ?_
          refine jg_goto (tgt := 59) dX7_readAtom_49 (by decide) ?_
          obtain ⟨q9, h⟩ := gd_some h
          obtain rfl := Option.some.inj h
          exact jg_zreturn dX7_readAtom_59 rfl (zb_nar q9) ⟨rfl, rfl⟩
      · replace h := it_f c13 h
        refine jg_iconst (v := nI 0) dX7_readAtom_24 (by decide) ?_
        obtain rfl := Option.some.inj h
        exact jg_zreturn dX7_readAtom_25 rfl (rfl) ⟨rfl, rfl⟩
noncomputable def o_crA (F : Nat) (τ : cT) (n o : Nat) : Nat → cS → Int32 → Option (Int32 × cS)
  | 0, _, _ => none
  | f + 1, s, a1 => o_X7_readAtom F τ n o (o_crA F τ n o f) s a1
theorem t_crA {Γ : jg_G} {g : Nat → jg_C} (F : Nat) (τ : cT) (n o : Nat) (hO : Sh τ n o) : ∀ (f : Nat) (s : cS) (a1 : Int32) (x : Int32 × cS), o_crA F τ n o f s a1 = some x → jc Γ mX7_readAtom (9 + 4 * f) 0 0 [some (.ref (o + 2)), some (.int a1), none, none] (ct_h g τ s, n) (.inl (some (.int x.1))) (ct_h g τ x.2, n) := by
  intro f
  induction f with
  | zero => intro s a1 x h; cases h
  | succ f ih =>
    intro s a1 x h
    rw [o_crA] at h
    exact t_X7_readAtom F τ n o _ s a1 hO (9 + 4 * f) (by omega) ih h
noncomputable def o_crY (F : Nat) (τ : cT) (n o : Nat) (s : cS) (a1 : Int32) : Option (Int32 × cS) := o_X7_readAny F τ n o (o_crA F τ n o 8) s a1
theorem t_crY {Γ : jg_G} {g : Nat → jg_C} (F : Nat) (τ : cT) (n o : Nat) (s : cS) (a1 : Int32) (hO : Sh τ n o) {x : Int32 × cS} (h : o_crY F τ n o s a1 = some x) : jc Γ mX7_readAny 43 0 0 [some (.ref (o + 2)), some (.int a1)] (ct_h g τ s, n) (.inl (some (.int x.1))) (ct_h g τ x.2, n) := t_X7_readAny F τ n o _ s a1 hO 41 (by omega) (t_crA F τ n o hO 8) h
theorem dX7_readLine_0 : decode cX7_readLine 0 = .ok (.aload_n 0, 1) := by decide +kernel
theorem dX7_readLine_1 : decode cX7_readLine 1 = .ok (.invokevirtual 56, 3) := by decide +kernel
theorem dX7_readLine_4 : decode cX7_readLine 4 = .ok (.sipush 200, 3) := by decide +kernel
theorem dX7_readLine_7 : decode cX7_readLine 7 = .ok (.isub, 1) := by decide +kernel
theorem dX7_readLine_8 : decode cX7_readLine 8 = .ok (.istore_n 1, 1) := by decide +kernel
theorem dX7_readLine_9 : decode cX7_readLine 9 = .ok (.iload_n 1, 1) := by decide +kernel
theorem dX7_readLine_10 : decode cX7_readLine 10 = .ok (.ifCond .lt 18, 3) := by decide +kernel
theorem dX7_readLine_13 : decode cX7_readLine 13 = .ok (.iload_n 1, 1) := by decide +kernel
theorem dX7_readLine_14 : decode cX7_readLine 14 = .ok (.bipush 7, 2) := by decide +kernel
theorem dX7_readLine_16 : decode cX7_readLine 16 = .ok (.if_icmp .gt 12, 3) := by decide +kernel
theorem dX7_readLine_19 : decode cX7_readLine 19 = .ok (.aload_n 0, 1) := by decide +kernel
theorem dX7_readLine_20 : decode cX7_readLine 20 = .ok (.getfield 50, 3) := by decide +kernel
theorem dX7_readLine_23 : decode cX7_readLine 23 = .ok (.bipush 20, 2) := by decide +kernel
theorem dX7_readLine_25 : decode cX7_readLine 25 = .ok (.if_icmp .lt 5, 3) := by decide +kernel
theorem dX7_readLine_28 : decode cX7_readLine 28 = .ok (.iconst 0, 1) := by decide +kernel
theorem dX7_readLine_29 : decode cX7_readLine 29 = .ok (.ireturn, 1) := by decide +kernel
theorem dX7_readLine_30 : decode cX7_readLine 30 = .ok (.aload_n 0, 1) := by decide +kernel
theorem dX7_readLine_31 : decode cX7_readLine 31 = .ok (.dup, 1) := by decide +kernel
theorem dX7_readLine_32 : decode cX7_readLine 32 = .ok (.getfield 47, 3) := by decide +kernel
theorem dX7_readLine_35 : decode cX7_readLine 35 = .ok (.iconst 1, 1) := by decide +kernel
theorem dX7_readLine_36 : decode cX7_readLine 36 = .ok (.iadd, 1) := by decide +kernel
theorem dX7_readLine_37 : decode cX7_readLine 37 = .ok (.putfield 47, 3) := by decide +kernel
theorem dX7_readLine_40 : decode cX7_readLine 40 = .ok (.iload_n 1, 1) := by decide +kernel
theorem dX7_readLine_41 : decode cX7_readLine 41 = .ok (.iconst 4, 1) := by decide +kernel
theorem dX7_readLine_42 : decode cX7_readLine 42 = .ok (.if_icmp .ne 13, 3) := by decide +kernel
theorem dX7_readLine_45 : decode cX7_readLine 45 = .ok (.aload_n 0, 1) := by decide +kernel
theorem dX7_readLine_46 : decode cX7_readLine 46 = .ok (.invokevirtual 56, 3) := by decide +kernel
theorem dX7_readLine_49 : decode cX7_readLine 49 = .ok (.invokestatic 122, 3) := by decide +kernel
theorem dX7_readLine_52 : decode cX7_readLine 52 = .ok (.goto 11, 3) := by decide +kernel
theorem dX7_readLine_55 : decode cX7_readLine 55 = .ok (.aload_n 0, 1) := by decide +kernel
theorem dX7_readLine_56 : decode cX7_readLine 56 = .ok (.invokevirtual 56, 3) := by decide +kernel
theorem dX7_readLine_59 : decode cX7_readLine 59 = .ok (.sipush 1000, 3) := by decide +kernel
theorem dX7_readLine_62 : decode cX7_readLine 62 = .ok (.isub, 1) := by decide +kernel
theorem dX7_readLine_63 : decode cX7_readLine 63 = .ok (.istore_n 2, 1) := by decide +kernel
theorem dX7_readLine_64 : decode cX7_readLine 64 = .ok (.iload_n 2, 1) := by decide +kernel
theorem dX7_readLine_65 : decode cX7_readLine 65 = .ok (.ifCond .lt 11, 3) := by decide +kernel
theorem dX7_readLine_68 : decode cX7_readLine 68 = .ok (.iload_n 2, 1) := by decide +kernel
theorem dX7_readLine_69 : decode cX7_readLine 69 = .ok (.iload_n 1, 1) := by decide +kernel
theorem dX7_readLine_70 : decode cX7_readLine 70 = .ok (.invokestatic 126, 3) := by decide +kernel
theorem dX7_readLine_73 : decode cX7_readLine 73 = .ok (.if_icmp .le 5, 3) := by decide +kernel
theorem dX7_readLine_76 : decode cX7_readLine 76 = .ok (.iconst 0, 1) := by decide +kernel
theorem dX7_readLine_77 : decode cX7_readLine 77 = .ok (.ireturn, 1) := by decide +kernel
theorem dX7_readLine_78 : decode cX7_readLine 78 = .ok (.aload_n 0, 1) := by decide +kernel
theorem dX7_readLine_79 : decode cX7_readLine 79 = .ok (.dup, 1) := by decide +kernel
theorem dX7_readLine_80 : decode cX7_readLine 80 = .ok (.getfield 47, 3) := by decide +kernel
theorem dX7_readLine_83 : decode cX7_readLine 83 = .ok (.iconst 1, 1) := by decide +kernel
theorem dX7_readLine_84 : decode cX7_readLine 84 = .ok (.iadd, 1) := by decide +kernel
theorem dX7_readLine_85 : decode cX7_readLine 85 = .ok (.putfield 47, 3) := by decide +kernel
theorem dX7_readLine_88 : decode cX7_readLine 88 = .ok (.iload_n 1, 1) := by decide +kernel
theorem dX7_readLine_89 : decode cX7_readLine 89 = .ok (.iconst 4, 1) := by decide +kernel
theorem dX7_readLine_90 : decode cX7_readLine 90 = .ok (.if_icmp .ne 26, 3) := by decide +kernel
theorem dX7_readLine_93 : decode cX7_readLine 93 = .ok (.aload_n 0, 1) := by decide +kernel
theorem dX7_readLine_94 : decode cX7_readLine 94 = .ok (.invokevirtual 56, 3) := by decide +kernel
theorem dX7_readLine_97 : decode cX7_readLine 97 = .ok (.sipush 406, 3) := by decide +kernel
theorem dX7_readLine_100 : decode cX7_readLine 100 = .ok (.if_icmp .ne 16, 3) := by decide +kernel
theorem dX7_readLine_103 : decode cX7_readLine 103 = .ok (.iinc 2 4, 3) := by decide +kernel
theorem dX7_readLine_106 : decode cX7_readLine 106 = .ok (.aload_n 0, 1) := by decide +kernel
theorem dX7_readLine_107 : decode cX7_readLine 107 = .ok (.dup, 1) := by decide +kernel
theorem dX7_readLine_108 : decode cX7_readLine 108 = .ok (.getfield 47, 3) := by decide +kernel
theorem dX7_readLine_111 : decode cX7_readLine 111 = .ok (.iconst 1, 1) := by decide +kernel
theorem dX7_readLine_112 : decode cX7_readLine 112 = .ok (.iadd, 1) := by decide +kernel
theorem dX7_readLine_113 : decode cX7_readLine 113 = .ok (.putfield 47, 3) := by decide +kernel
theorem dX7_readLine_116 : decode cX7_readLine 116 = .ok (.iload_n 1, 1) := by decide +kernel
theorem dX7_readLine_117 : decode cX7_readLine 117 = .ok (.iconst 3, 1) := by decide +kernel
theorem dX7_readLine_118 : decode cX7_readLine 118 = .ok (.if_icmp .gt 33, 3) := by decide +kernel
theorem dX7_readLine_121 : decode cX7_readLine 121 = .ok (.aload_n 0, 1) := by decide +kernel
theorem dX7_readLine_122 : decode cX7_readLine 122 = .ok (.invokevirtual 56, 3) := by decide +kernel
theorem dX7_readLine_125 : decode cX7_readLine 125 = .ok (.sipush 402, 3) := by decide +kernel
theorem dX7_readLine_128 : decode cX7_readLine 128 = .ok (.if_icmp .ne 23, 3) := by decide +kernel
theorem dX7_readLine_131 : decode cX7_readLine 131 = .ok (.aload_n 0, 1) := by decide +kernel
theorem dX7_readLine_132 : decode cX7_readLine 132 = .ok (.dup, 1) := by decide +kernel
theorem dX7_readLine_133 : decode cX7_readLine 133 = .ok (.getfield 47, 3) := by decide +kernel
theorem dX7_readLine_136 : decode cX7_readLine 136 = .ok (.iconst 1, 1) := by decide +kernel
theorem dX7_readLine_137 : decode cX7_readLine 137 = .ok (.iadd, 1) := by decide +kernel
theorem dX7_readLine_138 : decode cX7_readLine 138 = .ok (.putfield 47, 3) := by decide +kernel
theorem dX7_readLine_141 : decode cX7_readLine 141 = .ok (.aload_n 0, 1) := by decide +kernel
theorem dX7_readLine_142 : decode cX7_readLine 142 = .ok (.iconst 0, 1) := by decide +kernel
theorem dX7_readLine_143 : decode cX7_readLine 143 = .ok (.invokevirtual 129, 3) := by decide +kernel
theorem dX7_readLine_146 : decode cX7_readLine 146 = .ok (.ifCond .ne 5, 3) := by decide +kernel
theorem dX7_readLine_149 : decode cX7_readLine 149 = .ok (.iconst 0, 1) := by decide +kernel
theorem dX7_readLine_150 : decode cX7_readLine 150 = .ok (.ireturn, 1) := by decide +kernel
theorem dX7_readLine_151 : decode cX7_readLine 151 = .ok (.aload_n 0, 1) := by decide +kernel
theorem dX7_readLine_152 : decode cX7_readLine 152 = .ok (.getfield 22, 3) := by decide +kernel
theorem dX7_readLine_155 : decode cX7_readLine 155 = .ok (.aload_n 0, 1) := by decide +kernel
theorem dX7_readLine_156 : decode cX7_readLine 156 = .ok (.getfield 50, 3) := by decide +kernel
theorem dX7_readLine_159 : decode cX7_readLine 159 = .ok (.iload_n 1, 1) := by decide +kernel
theorem dX7_readLine_160 : decode cX7_readLine 160 = .ok (.iastore, 1) := by decide +kernel
theorem dX7_readLine_161 : decode cX7_readLine 161 = .ok (.aload_n 0, 1) := by decide +kernel
theorem dX7_readLine_162 : decode cX7_readLine 162 = .ok (.getfield 25, 3) := by decide +kernel
theorem dX7_readLine_165 : decode cX7_readLine 165 = .ok (.aload_n 0, 1) := by decide +kernel
theorem dX7_readLine_166 : decode cX7_readLine 166 = .ok (.getfield 50, 3) := by decide +kernel
theorem dX7_readLine_169 : decode cX7_readLine 169 = .ok (.iload_n 2, 1) := by decide +kernel
theorem dX7_readLine_170 : decode cX7_readLine 170 = .ok (.iastore, 1) := by decide +kernel
theorem dX7_readLine_171 : decode cX7_readLine 171 = .ok (.aload_n 0, 1) := by decide +kernel
theorem dX7_readLine_172 : decode cX7_readLine 172 = .ok (.getfield 28, 3) := by decide +kernel
theorem dX7_readLine_175 : decode cX7_readLine 175 = .ok (.aload_n 0, 1) := by decide +kernel
theorem dX7_readLine_176 : decode cX7_readLine 176 = .ok (.getfield 50, 3) := by decide +kernel
theorem dX7_readLine_179 : decode cX7_readLine 179 = .ok (.aload_n 0, 1) := by decide +kernel
theorem dX7_readLine_180 : decode cX7_readLine 180 = .ok (.getfield 53, 3) := by decide +kernel
theorem dX7_readLine_183 : decode cX7_readLine 183 = .ok (.iastore, 1) := by decide +kernel
theorem dX7_readLine_184 : decode cX7_readLine 184 = .ok (.aload_n 0, 1) := by decide +kernel
theorem dX7_readLine_185 : decode cX7_readLine 185 = .ok (.dup, 1) := by decide +kernel
theorem dX7_readLine_186 : decode cX7_readLine 186 = .ok (.getfield 50, 3) := by decide +kernel
theorem dX7_readLine_189 : decode cX7_readLine 189 = .ok (.iconst 1, 1) := by decide +kernel
theorem dX7_readLine_190 : decode cX7_readLine 190 = .ok (.iadd, 1) := by decide +kernel
theorem dX7_readLine_191 : decode cX7_readLine 191 = .ok (.putfield 50, 3) := by decide +kernel
theorem dX7_readLine_194 : decode cX7_readLine 194 = .ok (.iconst 1, 1) := by decide +kernel
theorem dX7_readLine_195 : decode cX7_readLine 195 = .ok (.ireturn, 1) := by decide +kernel
noncomputable def o_X7_readLine (F : Nat) (τ : cT) (n : Nat) (o : Nat) (s : cS) : Option (Int32 × cS) := (o_X7_thing τ n o s).bind fun x1 => (if (x1 - (nI 200)) < 0 then (some (nI 0, s)) else (if (nI 7) < (x1 - (nI 200)) then (some (nI 0, s)) else (if (s.1 (o + 2) 8) < (nI 20) then (if (x1 - (nI 200)) = (nI 4) then ((o_X7_thing τ n o (cp s (o + 2) 4 ((s.1 (o + 2) 4) + (nI 1)))).bind fun x75 => ((o_X7_keyOf τ n (cp s (o + 2) 4 ((s.1 (o + 2) 4) + (nI 1))) x75).bind fun x76 => (if x76 < 0 then (some (nI 0, cp s (o + 2) 4 ((s.1 (o + 2) 4) + (nI 1)))) else ((o_X7_mostOf τ n (cp s (o + 2) 4 ((s.1 (o + 2) 4) + (nI 1))) (x1 - (nI 200))).bind fun x78 => (if x76 ≤ x78 then ((some (cp (cp s (o + 2) 4 ((s.1 (o + 2) 4) + (nI 1))) (o + 2) 4 (((cp s (o + 2) 4 ((s.1 (o + 2) 4) + (nI 1))).1 (o + 2) 4) + (nI 1)))).bind fun x80 => (if (x1 - (nI 200)) = (nI 4) then ((o_X7_thing τ n o x80).bind fun x102 => (if x102 = (nI 406) then (if (nI 3) < (x1 - (nI 200)) then (if iL ((cp x80 (o + 2) 4 ((x80.1 (o + 2) 4) + (nI 1))).1 (o + 2) 8) 20 then ((some (ca (cp x80 (o + 2) 4 ((x80.1 (o + 2) 4) + (nI 1))) (o + 5) ((cp x80 (o + 2) 4 ((x80.1 (o + 2) 4) + (nI 1))).1 (o + 2) 8) (x1 - (nI 200)))).bind fun x126 => (if iL (x126.1 (o + 2) 8) 20 then (if iL ((ca x126 (o + 6) (x126.1 (o + 2) 8) (x76 + nI 4)).1 (o + 2) 8) 20 then ((some (ca (ca x126 (o + 6) (x126.1 (o + 2) 8) (x76 + nI 4)) (o + 7) ((ca x126 (o + 6) (x126.1 (o + 2) 8) (x76 + nI 4)).1 (o + 2) 8) ((ca x126 (o + 6) (x126.1 (o + 2) 8) (x76 + nI 4)).1 (o + 2) 11))).bind fun x129 => (some (nI 1, cp x129 (o + 2) 8 ((x129.1 (o + 2) 8) + (nI 1))))) else none) else none)) else none) else ((o_X7_thing τ n o (cp x80 (o + 2) 4 ((x80.1 (o + 2) 4) + (nI 1)))).bind fun x130 => (if x130 = (nI 402) then ((some (cp (cp x80 (o + 2) 4 ((x80.1 (o + 2) 4) + (nI 1))) (o + 2) 4 (((cp x80 (o + 2) 4 ((x80.1 (o + 2) 4) + (nI 1))).1 (o + 2) 4) + (nI 1)))).bind fun x137 => ((o_crY F τ n o x137 (nI 0)).bind fun x138 => (if x138.1 = 0 then (some (nI 0, x138.2)) else (if iL (x138.2.1 (o + 2) 8) 20 then (if iL ((ca x138.2 (o + 5) (x138.2.1 (o + 2) 8) (x1 - (nI 200))).1 (o + 2) 8) 20 then ((some (ca (ca x138.2 (o + 5) (x138.2.1 (o + 2) 8) (x1 - (nI 200))) (o + 6) ((ca x138.2 (o + 5) (x138.2.1 (o + 2) 8) (x1 - (nI 200))).1 (o + 2) 8) (x76 + nI 4))).bind fun x142 => (if iL (x142.1 (o + 2) 8) 20 then ((some (cp (ca x142 (o + 7) (x142.1 (o + 2) 8) (x142.1 (o + 2) 11)) (o + 2) 8 (((ca x142 (o + 7) (x142.1 (o + 2) 8) (x142.1 (o + 2) 11)).1 (o + 2) 8) + (nI 1)))).bind fun x144 => (some (nI 1, x144))) else none)) else none) else none)))) else (if iL ((cp x80 (o + 2) 4 ((x80.1 (o + 2) 4) + (nI 1))).1 (o + 2) 8) 20 then ((some (ca (cp x80 (o + 2) 4 ((x80.1 (o + 2) 4) + (nI 1))) (o + 5) ((cp x80 (o + 2) 4 ((x80.1 (o + 2) 4) + (nI 1))).1 (o + 2) 8) (x1 - (nI 200)))).bind fun x133 => (if iL (x133.1 (o + 2) 8) 20 then (if iL ((ca x133 (o + 6) (x133.1 (o + 2) 8) (x76 + nI 4)).1 (o + 2) 8) 20 then ((some (ca (ca x133 (o + 6) (x133.1 (o + 2) 8) (x76 + nI 4)) (o + 7) ((ca x133 (o + 6) (x133.1 (o + 2) 8) (x76 + nI 4)).1 (o + 2) 8) ((ca x133 (o + 6) (x133.1 (o + 2) 8) (x76 + nI 4)).1 (o + 2) 11))).bind fun x136 => (some (nI 1, cp x136 (o + 2) 8 ((x136.1 (o + 2) 8) + (nI 1))))) else none) else none)) else none)))) else (if (nI 3) < (x1 - (nI 200)) then (if iL (x80.1 (o + 2) 8) 20 then (if iL ((ca x80 (o + 5) (x80.1 (o + 2) 8) (x1 - (nI 200))).1 (o + 2) 8) 20 then ((some (ca (ca x80 (o + 5) (x80.1 (o + 2) 8) (x1 - (nI 200))) (o + 6) ((ca x80 (o + 5) (x80.1 (o + 2) 8) (x1 - (nI 200))).1 (o + 2) 8) x76)).bind fun x107 => (if iL (x107.1 (o + 2) 8) 20 then ((some (cp (ca x107 (o + 7) (x107.1 (o + 2) 8) (x107.1 (o + 2) 11)) (o + 2) 8 (((ca x107 (o + 7) (x107.1 (o + 2) 8) (x107.1 (o + 2) 11)).1 (o + 2) 8) + (nI 1)))).bind fun x109 => (some (nI 1, x109))) else none)) else none) else none) else ((o_X7_thing τ n o x80).bind fun x110 => (if x110 = (nI 402) then ((o_crY F τ n o (cp x80 (o + 2) 4 ((x80.1 (o + 2) 4) + (nI 1))) (nI 0)).bind fun x117 => (if x117.1 = 0 then (some (nI 0, x117.2)) else (if iL (x117.2.1 (o + 2) 8) 20 then (if iL ((ca x117.2 (o + 5) (x117.2.1 (o + 2) 8) (x1 - (nI 200))).1 (o + 2) 8) 20 then ((some (ca (ca x117.2 (o + 5) (x117.2.1 (o + 2) 8) (x1 - (nI 200))) (o + 6) ((ca x117.2 (o + 5) (x117.2.1 (o + 2) 8) (x1 - (nI 200))).1 (o + 2) 8) x76)).bind fun x121 => (if iL (x121.1 (o + 2) 8) 20 then ((some (cp (ca x121 (o + 7) (x121.1 (o + 2) 8) (x121.1 (o + 2) 11)) (o + 2) 8 (((ca x121 (o + 7) (x121.1 (o + 2) 8) (x121.1 (o + 2) 11)).1 (o + 2) 8) + (nI 1)))).bind fun x123 => (some (nI 1, x123))) else none)) else none) else none))) else (if iL (x80.1 (o + 2) 8) 20 then (if iL ((ca x80 (o + 5) (x80.1 (o + 2) 8) (x1 - (nI 200))).1 (o + 2) 8) 20 then ((some (ca (ca x80 (o + 5) (x80.1 (o + 2) 8) (x1 - (nI 200))) (o + 6) ((ca x80 (o + 5) (x80.1 (o + 2) 8) (x1 - (nI 200))).1 (o + 2) 8) x76)).bind fun x114 => (if iL (x114.1 (o + 2) 8) 20 then ((some (cp (ca x114 (o + 7) (x114.1 (o + 2) 8) (x114.1 (o + 2) 11)) (o + 2) 8 (((ca x114 (o + 7) (x114.1 (o + 2) 8) (x114.1 (o + 2) 11)).1 (o + 2) 8) + (nI 1)))).bind fun x116 => (some (nI 1, x116))) else none)) else none) else none)))))) else (if (nI 3) < (x1 - (nI 200)) then (if iL (x80.1 (o + 2) 8) 20 then (if iL ((ca x80 (o + 5) (x80.1 (o + 2) 8) (x1 - (nI 200))).1 (o + 2) 8) 20 then ((some (ca (ca x80 (o + 5) (x80.1 (o + 2) 8) (x1 - (nI 200))) (o + 6) ((ca x80 (o + 5) (x80.1 (o + 2) 8) (x1 - (nI 200))).1 (o + 2) 8) x76)).bind fun x85 => (if iL (x85.1 (o + 2) 8) 20 then ((some (cp (ca x85 (o + 7) (x85.1 (o + 2) 8) (x85.1 (o + 2) 11)) (o + 2) 8 (((ca x85 (o + 7) (x85.1 (o + 2) 8) (x85.1 (o + 2) 11)).1 (o + 2) 8) + (nI 1)))).bind fun x87 => (some (nI 1, x87))) else none)) else none) else none) else ((o_X7_thing τ n o x80).bind fun x88 => (if x88 = (nI 402) then ((o_crY F τ n o (cp x80 (o + 2) 4 ((x80.1 (o + 2) 4) + (nI 1))) (nI 0)).bind fun x95 => (if x95.1 = 0 then (some (nI 0, x95.2)) else (if iL (x95.2.1 (o + 2) 8) 20 then (if iL ((ca x95.2 (o + 5) (x95.2.1 (o + 2) 8) (x1 - (nI 200))).1 (o + 2) 8) 20 then ((some (ca (ca x95.2 (o + 5) (x95.2.1 (o + 2) 8) (x1 - (nI 200))) (o + 6) ((ca x95.2 (o + 5) (x95.2.1 (o + 2) 8) (x1 - (nI 200))).1 (o + 2) 8) x76)).bind fun x99 => (if iL (x99.1 (o + 2) 8) 20 then ((some (cp (ca x99 (o + 7) (x99.1 (o + 2) 8) (x99.1 (o + 2) 11)) (o + 2) 8 (((ca x99 (o + 7) (x99.1 (o + 2) 8) (x99.1 (o + 2) 11)).1 (o + 2) 8) + (nI 1)))).bind fun x101 => (some (nI 1, x101))) else none)) else none) else none))) else (if iL (x80.1 (o + 2) 8) 20 then (if iL ((ca x80 (o + 5) (x80.1 (o + 2) 8) (x1 - (nI 200))).1 (o + 2) 8) 20 then ((some (ca (ca x80 (o + 5) (x80.1 (o + 2) 8) (x1 - (nI 200))) (o + 6) ((ca x80 (o + 5) (x80.1 (o + 2) 8) (x1 - (nI 200))).1 (o + 2) 8) x76)).bind fun x92 => (if iL (x92.1 (o + 2) 8) 20 then ((some (cp (ca x92 (o + 7) (x92.1 (o + 2) 8) (x92.1 (o + 2) 11)) (o + 2) 8 (((ca x92 (o + 7) (x92.1 (o + 2) 8) (x92.1 (o + 2) 11)).1 (o + 2) 8) + (nI 1)))).bind fun x94 => (some (nI 1, x94))) else none)) else none) else none)))))) else (some (nI 0, cp s (o + 2) 4 ((s.1 (o + 2) 4) + (nI 1))))))))) else ((o_X7_thing τ n o (cp s (o + 2) 4 ((s.1 (o + 2) 4) + (nI 1)))).bind fun x6 => (if (x6 - (nI 1000)) < 0 then (some (nI 0, cp s (o + 2) 4 ((s.1 (o + 2) 4) + (nI 1)))) else ((o_X7_mostOf τ n (cp s (o + 2) 4 ((s.1 (o + 2) 4) + (nI 1))) (x1 - (nI 200))).bind fun x8 => (if (x6 - (nI 1000)) ≤ x8 then ((some (cp (cp s (o + 2) 4 ((s.1 (o + 2) 4) + (nI 1))) (o + 2) 4 (((cp s (o + 2) 4 ((s.1 (o + 2) 4) + (nI 1))).1 (o + 2) 4) + (nI 1)))).bind fun x10 => (if (x1 - (nI 200)) = (nI 4) then ((o_X7_thing τ n o x10).bind fun x32 => (if x32 = (nI 406) then (if (nI 3) < (x1 - (nI 200)) then (if iL ((cp x10 (o + 2) 4 ((x10.1 (o + 2) 4) + (nI 1))).1 (o + 2) 8) 20 then ((some (ca (cp x10 (o + 2) 4 ((x10.1 (o + 2) 4) + (nI 1))) (o + 5) ((cp x10 (o + 2) 4 ((x10.1 (o + 2) 4) + (nI 1))).1 (o + 2) 8) (x1 - (nI 200)))).bind fun x56 => (if iL (x56.1 (o + 2) 8) 20 then (if iL ((ca x56 (o + 6) (x56.1 (o + 2) 8) (x6 - (nI 1000) + nI 4)).1 (o + 2) 8) 20 then ((some (ca (ca x56 (o + 6) (x56.1 (o + 2) 8) (x6 - (nI 1000) + nI 4)) (o + 7) ((ca x56 (o + 6) (x56.1 (o + 2) 8) (x6 - (nI 1000) + nI 4)).1 (o + 2) 8) ((ca x56 (o + 6) (x56.1 (o + 2) 8) (x6 - (nI 1000) + nI 4)).1 (o + 2) 11))).bind fun x59 => (some (nI 1, cp x59 (o + 2) 8 ((x59.1 (o + 2) 8) + (nI 1))))) else none) else none)) else none) else ((o_X7_thing τ n o (cp x10 (o + 2) 4 ((x10.1 (o + 2) 4) + (nI 1)))).bind fun x60 => (if x60 = (nI 402) then ((some (cp (cp x10 (o + 2) 4 ((x10.1 (o + 2) 4) + (nI 1))) (o + 2) 4 (((cp x10 (o + 2) 4 ((x10.1 (o + 2) 4) + (nI 1))).1 (o + 2) 4) + (nI 1)))).bind fun x67 => ((o_crY F τ n o x67 (nI 0)).bind fun x68 => (if x68.1 = 0 then (some (nI 0, x68.2)) else (if iL (x68.2.1 (o + 2) 8) 20 then (if iL ((ca x68.2 (o + 5) (x68.2.1 (o + 2) 8) (x1 - (nI 200))).1 (o + 2) 8) 20 then ((some (ca (ca x68.2 (o + 5) (x68.2.1 (o + 2) 8) (x1 - (nI 200))) (o + 6) ((ca x68.2 (o + 5) (x68.2.1 (o + 2) 8) (x1 - (nI 200))).1 (o + 2) 8) (x6 - (nI 1000) + nI 4))).bind fun x72 => (if iL (x72.1 (o + 2) 8) 20 then ((some (cp (ca x72 (o + 7) (x72.1 (o + 2) 8) (x72.1 (o + 2) 11)) (o + 2) 8 (((ca x72 (o + 7) (x72.1 (o + 2) 8) (x72.1 (o + 2) 11)).1 (o + 2) 8) + (nI 1)))).bind fun x74 => (some (nI 1, x74))) else none)) else none) else none)))) else (if iL ((cp x10 (o + 2) 4 ((x10.1 (o + 2) 4) + (nI 1))).1 (o + 2) 8) 20 then ((some (ca (cp x10 (o + 2) 4 ((x10.1 (o + 2) 4) + (nI 1))) (o + 5) ((cp x10 (o + 2) 4 ((x10.1 (o + 2) 4) + (nI 1))).1 (o + 2) 8) (x1 - (nI 200)))).bind fun x63 => (if iL (x63.1 (o + 2) 8) 20 then (if iL ((ca x63 (o + 6) (x63.1 (o + 2) 8) (x6 - (nI 1000) + nI 4)).1 (o + 2) 8) 20 then ((some (ca (ca x63 (o + 6) (x63.1 (o + 2) 8) (x6 - (nI 1000) + nI 4)) (o + 7) ((ca x63 (o + 6) (x63.1 (o + 2) 8) (x6 - (nI 1000) + nI 4)).1 (o + 2) 8) ((ca x63 (o + 6) (x63.1 (o + 2) 8) (x6 - (nI 1000) + nI 4)).1 (o + 2) 11))).bind fun x66 => (some (nI 1, cp x66 (o + 2) 8 ((x66.1 (o + 2) 8) + (nI 1))))) else none) else none)) else none)))) else (if (nI 3) < (x1 - (nI 200)) then (if iL (x10.1 (o + 2) 8) 20 then (if iL ((ca x10 (o + 5) (x10.1 (o + 2) 8) (x1 - (nI 200))).1 (o + 2) 8) 20 then ((some (ca (ca x10 (o + 5) (x10.1 (o + 2) 8) (x1 - (nI 200))) (o + 6) ((ca x10 (o + 5) (x10.1 (o + 2) 8) (x1 - (nI 200))).1 (o + 2) 8) (x6 - (nI 1000)))).bind fun x37 => (if iL (x37.1 (o + 2) 8) 20 then ((some (cp (ca x37 (o + 7) (x37.1 (o + 2) 8) (x37.1 (o + 2) 11)) (o + 2) 8 (((ca x37 (o + 7) (x37.1 (o + 2) 8) (x37.1 (o + 2) 11)).1 (o + 2) 8) + (nI 1)))).bind fun x39 => (some (nI 1, x39))) else none)) else none) else none) else ((o_X7_thing τ n o x10).bind fun x40 => (if x40 = (nI 402) then ((o_crY F τ n o (cp x10 (o + 2) 4 ((x10.1 (o + 2) 4) + (nI 1))) (nI 0)).bind fun x47 => (if x47.1 = 0 then (some (nI 0, x47.2)) else (if iL (x47.2.1 (o + 2) 8) 20 then (if iL ((ca x47.2 (o + 5) (x47.2.1 (o + 2) 8) (x1 - (nI 200))).1 (o + 2) 8) 20 then ((some (ca (ca x47.2 (o + 5) (x47.2.1 (o + 2) 8) (x1 - (nI 200))) (o + 6) ((ca x47.2 (o + 5) (x47.2.1 (o + 2) 8) (x1 - (nI 200))).1 (o + 2) 8) (x6 - (nI 1000)))).bind fun x51 => (if iL (x51.1 (o + 2) 8) 20 then ((some (cp (ca x51 (o + 7) (x51.1 (o + 2) 8) (x51.1 (o + 2) 11)) (o + 2) 8 (((ca x51 (o + 7) (x51.1 (o + 2) 8) (x51.1 (o + 2) 11)).1 (o + 2) 8) + (nI 1)))).bind fun x53 => (some (nI 1, x53))) else none)) else none) else none))) else (if iL (x10.1 (o + 2) 8) 20 then (if iL ((ca x10 (o + 5) (x10.1 (o + 2) 8) (x1 - (nI 200))).1 (o + 2) 8) 20 then ((some (ca (ca x10 (o + 5) (x10.1 (o + 2) 8) (x1 - (nI 200))) (o + 6) ((ca x10 (o + 5) (x10.1 (o + 2) 8) (x1 - (nI 200))).1 (o + 2) 8) (x6 - (nI 1000)))).bind fun x44 => (if iL (x44.1 (o + 2) 8) 20 then ((some (cp (ca x44 (o + 7) (x44.1 (o + 2) 8) (x44.1 (o + 2) 11)) (o + 2) 8 (((ca x44 (o + 7) (x44.1 (o + 2) 8) (x44.1 (o + 2) 11)).1 (o + 2) 8) + (nI 1)))).bind fun x46 => (some (nI 1, x46))) else none)) else none) else none)))))) else (if (nI 3) < (x1 - (nI 200)) then (if iL (x10.1 (o + 2) 8) 20 then (if iL ((ca x10 (o + 5) (x10.1 (o + 2) 8) (x1 - (nI 200))).1 (o + 2) 8) 20 then ((some (ca (ca x10 (o + 5) (x10.1 (o + 2) 8) (x1 - (nI 200))) (o + 6) ((ca x10 (o + 5) (x10.1 (o + 2) 8) (x1 - (nI 200))).1 (o + 2) 8) (x6 - (nI 1000)))).bind fun x15 => (if iL (x15.1 (o + 2) 8) 20 then ((some (cp (ca x15 (o + 7) (x15.1 (o + 2) 8) (x15.1 (o + 2) 11)) (o + 2) 8 (((ca x15 (o + 7) (x15.1 (o + 2) 8) (x15.1 (o + 2) 11)).1 (o + 2) 8) + (nI 1)))).bind fun x17 => (some (nI 1, x17))) else none)) else none) else none) else ((o_X7_thing τ n o x10).bind fun x18 => (if x18 = (nI 402) then ((o_crY F τ n o (cp x10 (o + 2) 4 ((x10.1 (o + 2) 4) + (nI 1))) (nI 0)).bind fun x25 => (if x25.1 = 0 then (some (nI 0, x25.2)) else (if iL (x25.2.1 (o + 2) 8) 20 then (if iL ((ca x25.2 (o + 5) (x25.2.1 (o + 2) 8) (x1 - (nI 200))).1 (o + 2) 8) 20 then ((some (ca (ca x25.2 (o + 5) (x25.2.1 (o + 2) 8) (x1 - (nI 200))) (o + 6) ((ca x25.2 (o + 5) (x25.2.1 (o + 2) 8) (x1 - (nI 200))).1 (o + 2) 8) (x6 - (nI 1000)))).bind fun x29 => (if iL (x29.1 (o + 2) 8) 20 then ((some (cp (ca x29 (o + 7) (x29.1 (o + 2) 8) (x29.1 (o + 2) 11)) (o + 2) 8 (((ca x29 (o + 7) (x29.1 (o + 2) 8) (x29.1 (o + 2) 11)).1 (o + 2) 8) + (nI 1)))).bind fun x31 => (some (nI 1, x31))) else none)) else none) else none))) else (if iL (x10.1 (o + 2) 8) 20 then (if iL ((ca x10 (o + 5) (x10.1 (o + 2) 8) (x1 - (nI 200))).1 (o + 2) 8) 20 then ((some (ca (ca x10 (o + 5) (x10.1 (o + 2) 8) (x1 - (nI 200))) (o + 6) ((ca x10 (o + 5) (x10.1 (o + 2) 8) (x1 - (nI 200))).1 (o + 2) 8) (x6 - (nI 1000)))).bind fun x22 => (if iL (x22.1 (o + 2) 8) 20 then ((some (cp (ca x22 (o + 7) (x22.1 (o + 2) 8) (x22.1 (o + 2) 11)) (o + 2) 8 (((ca x22 (o + 7) (x22.1 (o + 2) 8) (x22.1 (o + 2) 11)).1 (o + 2) 8) + (nI 1)))).bind fun x24 => (some (nI 1, x24))) else none)) else none) else none)))))) else (some (nI 0, cp s (o + 2) 4 ((s.1 (o + 2) 4) + (nI 1))))))))) else (some (nI 0, s)))))
set_option maxHeartbeats 4000000 in
theorem t_X7_readLine {Γ : jg_G} {g : Nat → jg_C} (F : Nat) (τ : cT) (n : Nat) (o : Nat) (s : cS) (hO : Sh τ n o) {x : Int32 × cS} (h : o_X7_readLine F τ n o s = some x) : jc Γ mX7_readLine 44 0 0 [some (.ref (o + 2)), none, none] (ct_h g τ s, n) (.inl (some (.int x.1))) (ct_h g τ x.2, n) := by
  refine jc_of ?_
  rw [o_X7_readLine] at h
  refine jg_aload_n dX7_readLine_0 rfl ?_
  obtain ⟨x1, e_x1, h⟩ := bd_some h
  refine cs_call (q := (o + 2)) (As := []) kv_X7_56 dX7_readLine_1 (hO.ob 2 (by decide) rfl) rfl rfl (by decide) (Nat.le_of_ble_eq_true rfl) rfl (by decide) (Nat.le_of_ble_eq_true rfl) (t_X7_thing τ n o s hO e_x1) ?_
  refine jg_sipush (v := nI 200) dX7_readLine_4 (by decide) ?_
  refine jg_isub (x := x1) (y := (nI 200)) dX7_readLine_7  ?_
  refine jg_istore_n (L' := [some (.ref (o + 2)), some (.int (x1 - (nI 200))), none]) dX7_readLine_8 (by decide) rfl ?_
  refine jg_iload_n dX7_readLine_9 rfl ?_
  refine jg_if_lt (x := (x1 - (nI 200))) (tgt := 28) dX7_readLine_10 (by decide) (fun c2 => ?_) (fun c2 => ?_)
  · replace h := it_t c2 h
    refine jg_iconst (v := nI 0) dX7_readLine_28 (by decide) ?_
    obtain rfl := Option.some.inj h
    exact jg_zreturn dX7_readLine_29 rfl (rfl) ⟨rfl, rfl⟩
  · replace h := it_f c2 h
    refine jg_iload_n dX7_readLine_13 rfl ?_
    refine jg_bipush (v := nI 7) dX7_readLine_14 (by decide) ?_
    refine jg_icmp_gt (x := (x1 - (nI 200))) (y := (nI 7)) (tgt := 28) dX7_readLine_16 (by decide) (fun c3 => ?_) (fun c3 => ?_)
    · replace h := it_t c3 h
      refine jg_iconst (v := nI 0) dX7_readLine_28 (by decide) ?_
      obtain rfl := Option.some.inj h
      exact jg_zreturn dX7_readLine_29 rfl (rfl) ⟨rfl, rfl⟩
    · replace h := it_f c3 h
      refine jg_aload_n dX7_readLine_19 rfl ?_
      refine cs_get (s := s) (w := .int (s.1 (o + 2) 8)) fl_X7_50 dX7_readLine_20 (hO.ob 2 (by decide) rfl) rfl ?_
      refine jg_bipush (v := nI 20) dX7_readLine_23 (by decide) ?_
      refine jg_icmp_lt (x := (s.1 (o + 2) 8)) (y := (nI 20)) (tgt := 30) dX7_readLine_25 (by decide) (fun c4 => ?_) (fun c4 => ?_)
      · replace h := it_t c4 h
        refine jg_aload_n dX7_readLine_30 rfl ?_
        refine jg_dup dX7_readLine_31 rfl ?_
        refine cs_get (s := s) (w := .int (s.1 (o + 2) 4)) fl_X7_47 dX7_readLine_32 (hO.ob 2 (by decide) rfl) rfl ?_
        refine jg_iconst (v := nI 1) dX7_readLine_35 (by decide) ?_
        refine jg_iadd (x := (s.1 (o + 2) 4)) (y := (nI 1)) dX7_readLine_36  ?_
        refine cs_put (s := s) (k := 4) (x := ((s.1 (o + 2) 4) + (nI 1))) fl_X7_47 dX7_readLine_37 (hO.ob 2 (by decide) rfl) (ltb rfl) (rfl) rfl rfl ?_
        refine jg_iload_n dX7_readLine_40 rfl ?_
        refine jg_iconst (v := nI 4) dX7_readLine_41 (by decide) ?_
        refine jg_icmp_ne (x := (x1 - (nI 200))) (y := (nI 4)) (tgt := 55) dX7_readLine_42 (by decide) (fun c5 => ?_) (fun c5 => ?_)
        · replace h := it_f c5 h
          refine jg_aload_n dX7_readLine_55 rfl ?_
          obtain ⟨x6, e_x6, h⟩ := bd_some h
          refine cs_call (q := (o + 2)) (As := []) kv_X7_56 dX7_readLine_56 (hO.ob 2 (by decide) rfl) rfl rfl (by decide) (Nat.le_of_ble_eq_true rfl) rfl (by decide) (Nat.le_of_ble_eq_true rfl) (t_X7_thing τ n o (cp s (o + 2) 4 ((s.1 (o + 2) 4) + (nI 1))) hO e_x6) ?_
          refine jg_sipush (v := nI 1000) dX7_readLine_59 (by decide) ?_
          refine jg_isub (x := x6) (y := (nI 1000)) dX7_readLine_62  ?_
          refine jg_istore_n (L' := [some (.ref (o + 2)), some (.int (x1 - (nI 200))), some (.int (x6 - (nI 1000)))]) dX7_readLine_63 (by decide) rfl ?_
          refine jg_iload_n dX7_readLine_64 rfl ?_
          refine jg_if_lt (x := (x6 - (nI 1000))) (tgt := 76) dX7_readLine_65 (by decide) (fun c7 => ?_) (fun c7 => ?_)
          · replace h := it_t c7 h
            refine jg_iconst (v := nI 0) dX7_readLine_76 (by decide) ?_
            obtain rfl := Option.some.inj h
            exact jg_zreturn dX7_readLine_77 rfl (rfl) ⟨rfl, rfl⟩
          · replace h := it_f c7 h
            refine jg_iload_n dX7_readLine_68 rfl ?_
            refine jg_iload_n dX7_readLine_69 rfl ?_
            obtain ⟨x8, e_x8, h⟩ := bd_some h
            refine cs_callS (As := [.int (x1 - (nI 200))]) ks_X7_126 dX7_readLine_70 rfl (by decide) (Nat.le_of_ble_eq_true rfl) rfl (by decide) (Nat.le_of_ble_eq_true rfl) (t_X7_mostOf τ n (cp s (o + 2) 4 ((s.1 (o + 2) 4) + (nI 1))) (x1 - (nI 200)) e_x8) ?_
            refine jg_icmp_le (x := (x6 - (nI 1000))) (y := x8) (tgt := 78) dX7_readLine_73 (by decide) (fun c9 => ?_) (fun c9 => ?_)
            · replace h := it_t c9 h
              refine jg_aload_n dX7_readLine_78 rfl ?_
              refine jg_dup dX7_readLine_79 rfl ?_
              refine cs_get (s := (cp s (o + 2) 4 ((s.1 (o + 2) 4) + (nI 1)))) (w := .int ((cp s (o + 2) 4 ((s.1 (o + 2) 4) + (nI 1))).1 (o + 2) 4)) fl_X7_47 dX7_readLine_80 (hO.ob 2 (by decide) rfl) rfl ?_
              refine jg_iconst (v := nI 1) dX7_readLine_83 (by decide) ?_
              refine jg_iadd (x := ((cp s (o + 2) 4 ((s.1 (o + 2) 4) + (nI 1))).1 (o + 2) 4)) (y := (nI 1)) dX7_readLine_84  ?_
              refine cs_put (s := (cp s (o + 2) 4 ((s.1 (o + 2) 4) + (nI 1)))) (k := 4) (x := (((cp s (o + 2) 4 ((s.1 (o + 2) 4) + (nI 1))).1 (o + 2) 4) + (nI 1))) fl_X7_47 dX7_readLine_85 (hO.ob 2 (by decide) rfl) (ltb rfl) (rfl) rfl rfl ?_
              obtain ⟨x10, e_x10, h⟩ := bd_some h
              refine cs_sub (Option.some.inj e_x10) ?_
              refine jg_iload_n dX7_readLine_88 rfl ?_
              refine jg_iconst (v := nI 4) dX7_readLine_89 (by decide) ?_
              refine jg_icmp_ne (x := (x1 - (nI 200))) (y := (nI 4)) (tgt := 116) dX7_readLine_90 (by decide) (fun c11 => ?_) (fun c11 => ?_)
              · replace h := it_f c11 h
                refine jg_iload_n dX7_readLine_116 rfl ?_
                refine jg_iconst (v := nI 3) dX7_readLine_117 (by decide) ?_
                refine jg_icmp_gt (x := (x1 - (nI 200))) (y := (nI 3)) (tgt := 151) dX7_readLine_118 (by decide) (fun c12 => ?_) (fun c12 => ?_)
                · replace h := it_t c12 h
                  refine jg_aload_n dX7_readLine_151 rfl ?_
                  refine cs_get (s := x10) (w := .ref (o + 5)) fl_X7_22 dX7_readLine_152 (hO.ob 2 (by decide) rfl) rfl ?_
                  refine jg_aload_n dX7_readLine_155 rfl ?_
                  refine cs_get (s := x10) (w := .int (x10.1 (o + 2) 8)) fl_X7_50 dX7_readLine_156 (hO.ob 2 (by decide) rfl) rfl ?_
                  refine jg_iload_n dX7_readLine_159 rfl ?_
                  obtain ⟨q13, h⟩ := gd_some h
                  refine cs_sta (s := x10) (q := (o + 5)) (i := (x10.1 (o + 2) 8)) (x := (x1 - (nI 200))) dX7_readLine_160 (hO.ar 5 (by decide) rfl) q13 ?_
                  refine jg_aload_n dX7_readLine_161 rfl ?_
                  refine cs_get (s := (ca x10 (o + 5) (x10.1 (o + 2) 8) (x1 - (nI 200)))) (w := .ref (o + 6)) fl_X7_25 dX7_readLine_162 (hO.ob 2 (by decide) rfl) rfl ?_
                  refine jg_aload_n dX7_readLine_165 rfl ?_
                  refine cs_get (s := (ca x10 (o + 5) (x10.1 (o + 2) 8) (x1 - (nI 200)))) (w := .int ((ca x10 (o + 5) (x10.1 (o + 2) 8) (x1 - (nI 200))).1 (o + 2) 8)) fl_X7_50 dX7_readLine_166 (hO.ob 2 (by decide) rfl) rfl ?_
                  refine jg_iload_n dX7_readLine_169 rfl ?_
                  obtain ⟨q14, h⟩ := gd_some h
                  refine cs_sta (s := (ca x10 (o + 5) (x10.1 (o + 2) 8) (x1 - (nI 200)))) (q := (o + 6)) (i := ((ca x10 (o + 5) (x10.1 (o + 2) 8) (x1 - (nI 200))).1 (o + 2) 8)) (x := (x6 - (nI 1000))) dX7_readLine_170 (hO.ar 6 (by decide) rfl) q14 ?_
                  obtain ⟨x15, e_x15, h⟩ := bd_some h
                  refine cs_sub (Option.some.inj e_x15) ?_
                  refine jg_aload_n dX7_readLine_171 rfl ?_
                  refine cs_get (s := x15) (w := .ref (o + 7)) fl_X7_28 dX7_readLine_172 (hO.ob 2 (by decide) rfl) rfl ?_
                  refine jg_aload_n dX7_readLine_175 rfl ?_
                  refine cs_get (s := x15) (w := .int (x15.1 (o + 2) 8)) fl_X7_50 dX7_readLine_176 (hO.ob 2 (by decide) rfl) rfl ?_
                  refine jg_aload_n dX7_readLine_179 rfl ?_
                  refine cs_get (s := x15) (w := .int (x15.1 (o + 2) 11)) fl_X7_53 dX7_readLine_180 (hO.ob 2 (by decide) rfl) rfl ?_
                  obtain ⟨q16, h⟩ := gd_some h
                  refine cs_sta (s := x15) (q := (o + 7)) (i := (x15.1 (o + 2) 8)) (x := (x15.1 (o + 2) 11)) dX7_readLine_183 (hO.ar 7 (by decide) rfl) q16 ?_
                  refine jg_aload_n dX7_readLine_184 rfl ?_
                  refine jg_dup dX7_readLine_185 rfl ?_
                  refine cs_get (s := (ca x15 (o + 7) (x15.1 (o + 2) 8) (x15.1 (o + 2) 11))) (w := .int ((ca x15 (o + 7) (x15.1 (o + 2) 8) (x15.1 (o + 2) 11)).1 (o + 2) 8)) fl_X7_50 dX7_readLine_186 (hO.ob 2 (by decide) rfl) rfl ?_
                  refine jg_iconst (v := nI 1) dX7_readLine_189 (by decide) ?_
                  refine jg_iadd (x := ((ca x15 (o + 7) (x15.1 (o + 2) 8) (x15.1 (o + 2) 11)).1 (o + 2) 8)) (y := (nI 1)) dX7_readLine_190  ?_
                  refine cs_put (s := (ca x15 (o + 7) (x15.1 (o + 2) 8) (x15.1 (o + 2) 11))) (k := 8) (x := (((ca x15 (o + 7) (x15.1 (o + 2) 8) (x15.1 (o + 2) 11)).1 (o + 2) 8) + (nI 1))) fl_X7_50 dX7_readLine_191 (hO.ob 2 (by decide) rfl) (ltb rfl) (rfl) rfl rfl ?_
                  obtain ⟨x17, e_x17, h⟩ := bd_some h
                  refine cs_sub (Option.some.inj e_x17) ?_
                  refine jg_iconst (v := nI 1) dX7_readLine_194 (by decide) ?_
                  obtain rfl := Option.some.inj h
                  exact jg_zreturn dX7_readLine_195 rfl (rfl) ⟨rfl, rfl⟩
                · replace h := it_f c12 h
                  refine jg_aload_n dX7_readLine_121 rfl ?_
                  obtain ⟨x18, e_x18, h⟩ := bd_some h
                  refine cs_call (q := (o + 2)) (As := []) kv_X7_56 dX7_readLine_122 (hO.ob 2 (by decide) rfl) rfl rfl (by decide) (Nat.le_of_ble_eq_true rfl) rfl (by decide) (Nat.le_of_ble_eq_true rfl) (t_X7_thing τ n o x10 hO e_x18) ?_
                  refine jg_sipush (v := nI 402) dX7_readLine_125 (by decide) ?_
                  refine jg_icmp_ne (x := x18) (y := (nI 402)) (tgt := 151) dX7_readLine_128 (by decide) (fun c19 => ?_) (fun c19 => ?_)
                  · replace h := it_f c19 h
                    refine jg_aload_n dX7_readLine_151 rfl ?_
                    refine cs_get (s := x10) (w := .ref (o + 5)) fl_X7_22 dX7_readLine_152 (hO.ob 2 (by decide) rfl) rfl ?_
                    refine jg_aload_n dX7_readLine_155 rfl ?_
                    refine cs_get (s := x10) (w := .int (x10.1 (o + 2) 8)) fl_X7_50 dX7_readLine_156 (hO.ob 2 (by decide) rfl) rfl ?_
                    refine jg_iload_n dX7_readLine_159 rfl ?_
                    obtain ⟨q20, h⟩ := gd_some h
                    refine cs_sta (s := x10) (q := (o + 5)) (i := (x10.1 (o + 2) 8)) (x := (x1 - (nI 200))) dX7_readLine_160 (hO.ar 5 (by decide) rfl) q20 ?_
                    refine jg_aload_n dX7_readLine_161 rfl ?_
                    refine cs_get (s := (ca x10 (o + 5) (x10.1 (o + 2) 8) (x1 - (nI 200)))) (w := .ref (o + 6)) fl_X7_25 dX7_readLine_162 (hO.ob 2 (by decide) rfl) rfl ?_
                    refine jg_aload_n dX7_readLine_165 rfl ?_
                    refine cs_get (s := (ca x10 (o + 5) (x10.1 (o + 2) 8) (x1 - (nI 200)))) (w := .int ((ca x10 (o + 5) (x10.1 (o + 2) 8) (x1 - (nI 200))).1 (o + 2) 8)) fl_X7_50 dX7_readLine_166 (hO.ob 2 (by decide) rfl) rfl ?_
                    refine jg_iload_n dX7_readLine_169 rfl ?_
                    obtain ⟨q21, h⟩ := gd_some h
                    refine cs_sta (s := (ca x10 (o + 5) (x10.1 (o + 2) 8) (x1 - (nI 200)))) (q := (o + 6)) (i := ((ca x10 (o + 5) (x10.1 (o + 2) 8) (x1 - (nI 200))).1 (o + 2) 8)) (x := (x6 - (nI 1000))) dX7_readLine_170 (hO.ar 6 (by decide) rfl) q21 ?_
                    obtain ⟨x22, e_x22, h⟩ := bd_some h
                    refine cs_sub (Option.some.inj e_x22) ?_
                    refine jg_aload_n dX7_readLine_171 rfl ?_
                    refine cs_get (s := x22) (w := .ref (o + 7)) fl_X7_28 dX7_readLine_172 (hO.ob 2 (by decide) rfl) rfl ?_
                    refine jg_aload_n dX7_readLine_175 rfl ?_
                    refine cs_get (s := x22) (w := .int (x22.1 (o + 2) 8)) fl_X7_50 dX7_readLine_176 (hO.ob 2 (by decide) rfl) rfl ?_
                    refine jg_aload_n dX7_readLine_179 rfl ?_
                    refine cs_get (s := x22) (w := .int (x22.1 (o + 2) 11)) fl_X7_53 dX7_readLine_180 (hO.ob 2 (by decide) rfl) rfl ?_
                    obtain ⟨q23, h⟩ := gd_some h
                    refine cs_sta (s := x22) (q := (o + 7)) (i := (x22.1 (o + 2) 8)) (x := (x22.1 (o + 2) 11)) dX7_readLine_183 (hO.ar 7 (by decide) rfl) q23 ?_
                    refine jg_aload_n dX7_readLine_184 rfl ?_
                    refine jg_dup dX7_readLine_185 rfl ?_
                    refine cs_get (s := (ca x22 (o + 7) (x22.1 (o + 2) 8) (x22.1 (o + 2) 11))) (w := .int ((ca x22 (o + 7) (x22.1 (o + 2) 8) (x22.1 (o + 2) 11)).1 (o + 2) 8)) fl_X7_50 dX7_readLine_186 (hO.ob 2 (by decide) rfl) rfl ?_
                    refine jg_iconst (v := nI 1) dX7_readLine_189 (by decide) ?_
                    refine jg_iadd (x := ((ca x22 (o + 7) (x22.1 (o + 2) 8) (x22.1 (o + 2) 11)).1 (o + 2) 8)) (y := (nI 1)) dX7_readLine_190  ?_
                    refine cs_put (s := (ca x22 (o + 7) (x22.1 (o + 2) 8) (x22.1 (o + 2) 11))) (k := 8) (x := (((ca x22 (o + 7) (x22.1 (o + 2) 8) (x22.1 (o + 2) 11)).1 (o + 2) 8) + (nI 1))) fl_X7_50 dX7_readLine_191 (hO.ob 2 (by decide) rfl) (ltb rfl) (rfl) rfl rfl ?_
                    obtain ⟨x24, e_x24, h⟩ := bd_some h
                    refine cs_sub (Option.some.inj e_x24) ?_
                    refine jg_iconst (v := nI 1) dX7_readLine_194 (by decide) ?_
                    obtain rfl := Option.some.inj h
                    exact jg_zreturn dX7_readLine_195 rfl (rfl) ⟨rfl, rfl⟩
                  · replace h := it_t c19 h
                    refine jg_aload_n dX7_readLine_131 rfl ?_
                    refine jg_dup dX7_readLine_132 rfl ?_
                    refine cs_get (s := x10) (w := .int (x10.1 (o + 2) 4)) fl_X7_47 dX7_readLine_133 (hO.ob 2 (by decide) rfl) rfl ?_
                    refine jg_iconst (v := nI 1) dX7_readLine_136 (by decide) ?_
                    refine jg_iadd (x := (x10.1 (o + 2) 4)) (y := (nI 1)) dX7_readLine_137  ?_
                    refine cs_put (s := x10) (k := 4) (x := ((x10.1 (o + 2) 4) + (nI 1))) fl_X7_47 dX7_readLine_138 (hO.ob 2 (by decide) rfl) (ltb rfl) (rfl) rfl rfl ?_
                    refine jg_aload_n dX7_readLine_141 rfl ?_
                    refine jg_iconst (v := nI 0) dX7_readLine_142 (by decide) ?_
                    obtain ⟨x25, e_x25, h⟩ := bd_some h
                    refine cs_call (q := (o + 2)) (As := [.int (nI 0)]) kv_X7_129 dX7_readLine_143 (hO.ob 2 (by decide) rfl) rfl rfl (by decide) (Nat.le_of_ble_eq_true rfl) rfl (by decide) (Nat.le_of_ble_eq_true rfl) (t_crY F τ n o (cp x10 (o + 2) 4 ((x10.1 (o + 2) 4) + (nI 1))) (nI 0) hO e_x25) ?_
                    refine jg_if_ne (x := x25.1) (tgt := 151) dX7_readLine_146 (by decide) (fun c26 => ?_) (fun c26 => ?_)
                    · replace h := it_f c26 h
                      refine jg_aload_n dX7_readLine_151 rfl ?_
                      refine cs_get (s := x25.2) (w := .ref (o + 5)) fl_X7_22 dX7_readLine_152 (hO.ob 2 (by decide) rfl) rfl ?_
                      refine jg_aload_n dX7_readLine_155 rfl ?_
                      refine cs_get (s := x25.2) (w := .int (x25.2.1 (o + 2) 8)) fl_X7_50 dX7_readLine_156 (hO.ob 2 (by decide) rfl) rfl ?_
                      refine jg_iload_n dX7_readLine_159 rfl ?_
                      obtain ⟨q27, h⟩ := gd_some h
                      refine cs_sta (s := x25.2) (q := (o + 5)) (i := (x25.2.1 (o + 2) 8)) (x := (x1 - (nI 200))) dX7_readLine_160 (hO.ar 5 (by decide) rfl) q27 ?_
                      refine jg_aload_n dX7_readLine_161 rfl ?_
                      refine cs_get (s := (ca x25.2 (o + 5) (x25.2.1 (o + 2) 8) (x1 - (nI 200)))) (w := .ref (o + 6)) fl_X7_25 dX7_readLine_162 (hO.ob 2 (by decide) rfl) rfl ?_
                      refine jg_aload_n dX7_readLine_165 rfl ?_
                      refine cs_get (s := (ca x25.2 (o + 5) (x25.2.1 (o + 2) 8) (x1 - (nI 200)))) (w := .int ((ca x25.2 (o + 5) (x25.2.1 (o + 2) 8) (x1 - (nI 200))).1 (o + 2) 8)) fl_X7_50 dX7_readLine_166 (hO.ob 2 (by decide) rfl) rfl ?_
                      refine jg_iload_n dX7_readLine_169 rfl ?_
                      obtain ⟨q28, h⟩ := gd_some h
                      refine cs_sta (s := (ca x25.2 (o + 5) (x25.2.1 (o + 2) 8) (x1 - (nI 200)))) (q := (o + 6)) (i := ((ca x25.2 (o + 5) (x25.2.1 (o + 2) 8) (x1 - (nI 200))).1 (o + 2) 8)) (x := (x6 - (nI 1000))) dX7_readLine_170 (hO.ar 6 (by decide) rfl) q28 ?_
                      obtain ⟨x29, e_x29, h⟩ := bd_some h
                      refine cs_sub (Option.some.inj e_x29) ?_
                      refine jg_aload_n dX7_readLine_171 rfl ?_
                      refine cs_get (s := x29) (w := .ref (o + 7)) fl_X7_28 dX7_readLine_172 (hO.ob 2 (by decide) rfl) rfl ?_
                      refine jg_aload_n dX7_readLine_175 rfl ?_
                      refine cs_get (s := x29) (w := .int (x29.1 (o + 2) 8)) fl_X7_50 dX7_readLine_176 (hO.ob 2 (by decide) rfl) rfl ?_
                      refine jg_aload_n dX7_readLine_179 rfl ?_
                      refine cs_get (s := x29) (w := .int (x29.1 (o + 2) 11)) fl_X7_53 dX7_readLine_180 (hO.ob 2 (by decide) rfl) rfl ?_
                      obtain ⟨q30, h⟩ := gd_some h
                      refine cs_sta (s := x29) (q := (o + 7)) (i := (x29.1 (o + 2) 8)) (x := (x29.1 (o + 2) 11)) dX7_readLine_183 (hO.ar 7 (by decide) rfl) q30 ?_
                      refine jg_aload_n dX7_readLine_184 rfl ?_
                      refine jg_dup dX7_readLine_185 rfl ?_
                      refine cs_get (s := (ca x29 (o + 7) (x29.1 (o + 2) 8) (x29.1 (o + 2) 11))) (w := .int ((ca x29 (o + 7) (x29.1 (o + 2) 8) (x29.1 (o + 2) 11)).1 (o + 2) 8)) fl_X7_50 dX7_readLine_186 (hO.ob 2 (by decide) rfl) rfl ?_
                      refine jg_iconst (v := nI 1) dX7_readLine_189 (by decide) ?_
                      refine jg_iadd (x := ((ca x29 (o + 7) (x29.1 (o + 2) 8) (x29.1 (o + 2) 11)).1 (o + 2) 8)) (y := (nI 1)) dX7_readLine_190  ?_
                      refine cs_put (s := (ca x29 (o + 7) (x29.1 (o + 2) 8) (x29.1 (o + 2) 11))) (k := 8) (x := (((ca x29 (o + 7) (x29.1 (o + 2) 8) (x29.1 (o + 2) 11)).1 (o + 2) 8) + (nI 1))) fl_X7_50 dX7_readLine_191 (hO.ob 2 (by decide) rfl) (ltb rfl) (rfl) rfl rfl ?_
                      obtain ⟨x31, e_x31, h⟩ := bd_some h
                      refine cs_sub (Option.some.inj e_x31) ?_
                      refine jg_iconst (v := nI 1) dX7_readLine_194 (by decide) ?_
                      obtain rfl := Option.some.inj h
                      exact jg_zreturn dX7_readLine_195 rfl (rfl) ⟨rfl, rfl⟩
                    · replace h := it_t c26 h
                      refine jg_iconst (v := nI 0) dX7_readLine_149 (by decide) ?_
                      obtain rfl := Option.some.inj h
                      exact jg_zreturn dX7_readLine_150 rfl (rfl) ⟨rfl, rfl⟩
              · replace h := it_t c11 h
                refine jg_aload_n dX7_readLine_93 rfl ?_
                obtain ⟨x32, e_x32, h⟩ := bd_some h
                refine cs_call (q := (o + 2)) (As := []) kv_X7_56 dX7_readLine_94 (hO.ob 2 (by decide) rfl) rfl rfl (by decide) (Nat.le_of_ble_eq_true rfl) rfl (by decide) (Nat.le_of_ble_eq_true rfl) (t_X7_thing τ n o x10 hO e_x32) ?_
                refine jg_sipush (v := nI 406) dX7_readLine_97 (by decide) ?_
                refine jg_icmp_ne (x := x32) (y := (nI 406)) (tgt := 116) dX7_readLine_100 (by decide) (fun c33 => ?_) (fun c33 => ?_)
                · replace h := it_f c33 h
                  refine jg_iload_n dX7_readLine_116 rfl ?_
                  refine jg_iconst (v := nI 3) dX7_readLine_117 (by decide) ?_
                  refine jg_icmp_gt (x := (x1 - (nI 200))) (y := (nI 3)) (tgt := 151) dX7_readLine_118 (by decide) (fun c34 => ?_) (fun c34 => ?_)
                  · replace h := it_t c34 h
                    refine jg_aload_n dX7_readLine_151 rfl ?_
                    refine cs_get (s := x10) (w := .ref (o + 5)) fl_X7_22 dX7_readLine_152 (hO.ob 2 (by decide) rfl) rfl ?_
                    refine jg_aload_n dX7_readLine_155 rfl ?_
                    refine cs_get (s := x10) (w := .int (x10.1 (o + 2) 8)) fl_X7_50 dX7_readLine_156 (hO.ob 2 (by decide) rfl) rfl ?_
                    refine jg_iload_n dX7_readLine_159 rfl ?_
                    obtain ⟨q35, h⟩ := gd_some h
                    refine cs_sta (s := x10) (q := (o + 5)) (i := (x10.1 (o + 2) 8)) (x := (x1 - (nI 200))) dX7_readLine_160 (hO.ar 5 (by decide) rfl) q35 ?_
                    refine jg_aload_n dX7_readLine_161 rfl ?_
                    refine cs_get (s := (ca x10 (o + 5) (x10.1 (o + 2) 8) (x1 - (nI 200)))) (w := .ref (o + 6)) fl_X7_25 dX7_readLine_162 (hO.ob 2 (by decide) rfl) rfl ?_
                    refine jg_aload_n dX7_readLine_165 rfl ?_
                    refine cs_get (s := (ca x10 (o + 5) (x10.1 (o + 2) 8) (x1 - (nI 200)))) (w := .int ((ca x10 (o + 5) (x10.1 (o + 2) 8) (x1 - (nI 200))).1 (o + 2) 8)) fl_X7_50 dX7_readLine_166 (hO.ob 2 (by decide) rfl) rfl ?_
                    refine jg_iload_n dX7_readLine_169 rfl ?_
                    obtain ⟨q36, h⟩ := gd_some h
                    refine cs_sta (s := (ca x10 (o + 5) (x10.1 (o + 2) 8) (x1 - (nI 200)))) (q := (o + 6)) (i := ((ca x10 (o + 5) (x10.1 (o + 2) 8) (x1 - (nI 200))).1 (o + 2) 8)) (x := (x6 - (nI 1000))) dX7_readLine_170 (hO.ar 6 (by decide) rfl) q36 ?_
                    obtain ⟨x37, e_x37, h⟩ := bd_some h
                    refine cs_sub (Option.some.inj e_x37) ?_
                    refine jg_aload_n dX7_readLine_171 rfl ?_
                    refine cs_get (s := x37) (w := .ref (o + 7)) fl_X7_28 dX7_readLine_172 (hO.ob 2 (by decide) rfl) rfl ?_
                    refine jg_aload_n dX7_readLine_175 rfl ?_
                    refine cs_get (s := x37) (w := .int (x37.1 (o + 2) 8)) fl_X7_50 dX7_readLine_176 (hO.ob 2 (by decide) rfl) rfl ?_
                    refine jg_aload_n dX7_readLine_179 rfl ?_
                    refine cs_get (s := x37) (w := .int (x37.1 (o + 2) 11)) fl_X7_53 dX7_readLine_180 (hO.ob 2 (by decide) rfl) rfl ?_
                    obtain ⟨q38, h⟩ := gd_some h
                    refine cs_sta (s := x37) (q := (o + 7)) (i := (x37.1 (o + 2) 8)) (x := (x37.1 (o + 2) 11)) dX7_readLine_183 (hO.ar 7 (by decide) rfl) q38 ?_
                    refine jg_aload_n dX7_readLine_184 rfl ?_
                    refine jg_dup dX7_readLine_185 rfl ?_
                    refine cs_get (s := (ca x37 (o + 7) (x37.1 (o + 2) 8) (x37.1 (o + 2) 11))) (w := .int ((ca x37 (o + 7) (x37.1 (o + 2) 8) (x37.1 (o + 2) 11)).1 (o + 2) 8)) fl_X7_50 dX7_readLine_186 (hO.ob 2 (by decide) rfl) rfl ?_
                    refine jg_iconst (v := nI 1) dX7_readLine_189 (by decide) ?_
                    refine jg_iadd (x := ((ca x37 (o + 7) (x37.1 (o + 2) 8) (x37.1 (o + 2) 11)).1 (o + 2) 8)) (y := (nI 1)) dX7_readLine_190  ?_
                    refine cs_put (s := (ca x37 (o + 7) (x37.1 (o + 2) 8) (x37.1 (o + 2) 11))) (k := 8) (x := (((ca x37 (o + 7) (x37.1 (o + 2) 8) (x37.1 (o + 2) 11)).1 (o + 2) 8) + (nI 1))) fl_X7_50 dX7_readLine_191 (hO.ob 2 (by decide) rfl) (ltb rfl) (rfl) rfl rfl ?_
                    obtain ⟨x39, e_x39, h⟩ := bd_some h
                    refine cs_sub (Option.some.inj e_x39) ?_
                    refine jg_iconst (v := nI 1) dX7_readLine_194 (by decide) ?_
                    obtain rfl := Option.some.inj h
                    exact jg_zreturn dX7_readLine_195 rfl (rfl) ⟨rfl, rfl⟩
                  · replace h := it_f c34 h
                    refine jg_aload_n dX7_readLine_121 rfl ?_
                    obtain ⟨x40, e_x40, h⟩ := bd_some h
                    refine cs_call (q := (o + 2)) (As := []) kv_X7_56 dX7_readLine_122 (hO.ob 2 (by decide) rfl) rfl rfl (by decide) (Nat.le_of_ble_eq_true rfl) rfl (by decide) (Nat.le_of_ble_eq_true rfl) (t_X7_thing τ n o x10 hO e_x40) ?_
                    refine jg_sipush (v := nI 402) dX7_readLine_125 (by decide) ?_
                    refine jg_icmp_ne (x := x40) (y := (nI 402)) (tgt := 151) dX7_readLine_128 (by decide) (fun c41 => ?_) (fun c41 => ?_)
                    · replace h := it_f c41 h
                      refine jg_aload_n dX7_readLine_151 rfl ?_
                      refine cs_get (s := x10) (w := .ref (o + 5)) fl_X7_22 dX7_readLine_152 (hO.ob 2 (by decide) rfl) rfl ?_
                      refine jg_aload_n dX7_readLine_155 rfl ?_
                      refine cs_get (s := x10) (w := .int (x10.1 (o + 2) 8)) fl_X7_50 dX7_readLine_156 (hO.ob 2 (by decide) rfl) rfl ?_
                      refine jg_iload_n dX7_readLine_159 rfl ?_
                      obtain ⟨q42, h⟩ := gd_some h
                      refine cs_sta (s := x10) (q := (o + 5)) (i := (x10.1 (o + 2) 8)) (x := (x1 - (nI 200))) dX7_readLine_160 (hO.ar 5 (by decide) rfl) q42 ?_
                      refine jg_aload_n dX7_readLine_161 rfl ?_
                      refine cs_get (s := (ca x10 (o + 5) (x10.1 (o + 2) 8) (x1 - (nI 200)))) (w := .ref (o + 6)) fl_X7_25 dX7_readLine_162 (hO.ob 2 (by decide) rfl) rfl ?_
                      refine jg_aload_n dX7_readLine_165 rfl ?_
                      refine cs_get (s := (ca x10 (o + 5) (x10.1 (o + 2) 8) (x1 - (nI 200)))) (w := .int ((ca x10 (o + 5) (x10.1 (o + 2) 8) (x1 - (nI 200))).1 (o + 2) 8)) fl_X7_50 dX7_readLine_166 (hO.ob 2 (by decide) rfl) rfl ?_
                      refine jg_iload_n dX7_readLine_169 rfl ?_
                      obtain ⟨q43, h⟩ := gd_some h
                      refine cs_sta (s := (ca x10 (o + 5) (x10.1 (o + 2) 8) (x1 - (nI 200)))) (q := (o + 6)) (i := ((ca x10 (o + 5) (x10.1 (o + 2) 8) (x1 - (nI 200))).1 (o + 2) 8)) (x := (x6 - (nI 1000))) dX7_readLine_170 (hO.ar 6 (by decide) rfl) q43 ?_
                      obtain ⟨x44, e_x44, h⟩ := bd_some h
                      refine cs_sub (Option.some.inj e_x44) ?_
                      refine jg_aload_n dX7_readLine_171 rfl ?_
                      refine cs_get (s := x44) (w := .ref (o + 7)) fl_X7_28 dX7_readLine_172 (hO.ob 2 (by decide) rfl) rfl ?_
                      refine jg_aload_n dX7_readLine_175 rfl ?_
                      refine cs_get (s := x44) (w := .int (x44.1 (o + 2) 8)) fl_X7_50 dX7_readLine_176 (hO.ob 2 (by decide) rfl) rfl ?_
                      refine jg_aload_n dX7_readLine_179 rfl ?_
                      refine cs_get (s := x44) (w := .int (x44.1 (o + 2) 11)) fl_X7_53 dX7_readLine_180 (hO.ob 2 (by decide) rfl) rfl ?_
                      obtain ⟨q45, h⟩ := gd_some h
                      refine cs_sta (s := x44) (q := (o + 7)) (i := (x44.1 (o + 2) 8)) (x := (x44.1 (o + 2) 11)) dX7_readLine_183 (hO.ar 7 (by decide) rfl) q45 ?_
                      refine jg_aload_n dX7_readLine_184 rfl ?_
                      refine jg_dup dX7_readLine_185 rfl ?_
                      refine cs_get (s := (ca x44 (o + 7) (x44.1 (o + 2) 8) (x44.1 (o + 2) 11))) (w := .int ((ca x44 (o + 7) (x44.1 (o + 2) 8) (x44.1 (o + 2) 11)).1 (o + 2) 8)) fl_X7_50 dX7_readLine_186 (hO.ob 2 (by decide) rfl) rfl ?_
                      refine jg_iconst (v := nI 1) dX7_readLine_189 (by decide) ?_
                      refine jg_iadd (x := ((ca x44 (o + 7) (x44.1 (o + 2) 8) (x44.1 (o + 2) 11)).1 (o + 2) 8)) (y := (nI 1)) dX7_readLine_190  ?_
                      refine cs_put (s := (ca x44 (o + 7) (x44.1 (o + 2) 8) (x44.1 (o + 2) 11))) (k := 8) (x := (((ca x44 (o + 7) (x44.1 (o + 2) 8) (x44.1 (o + 2) 11)).1 (o + 2) 8) + (nI 1))) fl_X7_50 dX7_readLine_191 (hO.ob 2 (by decide) rfl) (ltb rfl) (rfl) rfl rfl ?_
                      obtain ⟨x46, e_x46, h⟩ := bd_some h
                      refine cs_sub (Option.some.inj e_x46) ?_
                      refine jg_iconst (v := nI 1) dX7_readLine_194 (by decide) ?_
                      obtain rfl := Option.some.inj h
                      exact jg_zreturn dX7_readLine_195 rfl (rfl) ⟨rfl, rfl⟩
                    · replace h := it_t c41 h
                      refine jg_aload_n dX7_readLine_131 rfl ?_
                      refine jg_dup dX7_readLine_132 rfl ?_
                      refine cs_get (s := x10) (w := .int (x10.1 (o + 2) 4)) fl_X7_47 dX7_readLine_133 (hO.ob 2 (by decide) rfl) rfl ?_
                      refine jg_iconst (v := nI 1) dX7_readLine_136 (by decide) ?_
                      refine jg_iadd (x := (x10.1 (o + 2) 4)) (y := (nI 1)) dX7_readLine_137  ?_
                      refine cs_put (s := x10) (k := 4) (x := ((x10.1 (o + 2) 4) + (nI 1))) fl_X7_47 dX7_readLine_138 (hO.ob 2 (by decide) rfl) (ltb rfl) (rfl) rfl rfl ?_
                      refine jg_aload_n dX7_readLine_141 rfl ?_
                      refine jg_iconst (v := nI 0) dX7_readLine_142 (by decide) ?_
                      obtain ⟨x47, e_x47, h⟩ := bd_some h
                      refine cs_call (q := (o + 2)) (As := [.int (nI 0)]) kv_X7_129 dX7_readLine_143 (hO.ob 2 (by decide) rfl) rfl rfl (by decide) (Nat.le_of_ble_eq_true rfl) rfl (by decide) (Nat.le_of_ble_eq_true rfl) (t_crY F τ n o (cp x10 (o + 2) 4 ((x10.1 (o + 2) 4) + (nI 1))) (nI 0) hO e_x47) ?_
                      refine jg_if_ne (x := x47.1) (tgt := 151) dX7_readLine_146 (by decide) (fun c48 => ?_) (fun c48 => ?_)
                      · replace h := it_f c48 h
                        refine jg_aload_n dX7_readLine_151 rfl ?_
                        refine cs_get (s := x47.2) (w := .ref (o + 5)) fl_X7_22 dX7_readLine_152 (hO.ob 2 (by decide) rfl) rfl ?_
                        refine jg_aload_n dX7_readLine_155 rfl ?_
                        refine cs_get (s := x47.2) (w := .int (x47.2.1 (o + 2) 8)) fl_X7_50 dX7_readLine_156 (hO.ob 2 (by decide) rfl) rfl ?_
                        refine jg_iload_n dX7_readLine_159 rfl ?_
                        obtain ⟨q49, h⟩ := gd_some h
                        refine cs_sta (s := x47.2) (q := (o + 5)) (i := (x47.2.1 (o + 2) 8)) (x := (x1 - (nI 200))) dX7_readLine_160 (hO.ar 5 (by decide) rfl) q49 ?_
                        refine jg_aload_n dX7_readLine_161 rfl ?_
                        refine cs_get (s := (ca x47.2 (o + 5) (x47.2.1 (o + 2) 8) (x1 - (nI 200)))) (w := .ref (o + 6)) fl_X7_25 dX7_readLine_162 (hO.ob 2 (by decide) rfl) rfl ?_
                        refine jg_aload_n dX7_readLine_165 rfl ?_
                        refine cs_get (s := (ca x47.2 (o + 5) (x47.2.1 (o + 2) 8) (x1 - (nI 200)))) (w := .int ((ca x47.2 (o + 5) (x47.2.1 (o + 2) 8) (x1 - (nI 200))).1 (o + 2) 8)) fl_X7_50 dX7_readLine_166 (hO.ob 2 (by decide) rfl) rfl ?_
                        refine jg_iload_n dX7_readLine_169 rfl ?_
                        obtain ⟨q50, h⟩ := gd_some h
                        refine cs_sta (s := (ca x47.2 (o + 5) (x47.2.1 (o + 2) 8) (x1 - (nI 200)))) (q := (o + 6)) (i := ((ca x47.2 (o + 5) (x47.2.1 (o + 2) 8) (x1 - (nI 200))).1 (o + 2) 8)) (x := (x6 - (nI 1000))) dX7_readLine_170 (hO.ar 6 (by decide) rfl) q50 ?_
                        obtain ⟨x51, e_x51, h⟩ := bd_some h
                        refine cs_sub (Option.some.inj e_x51) ?_
                        refine jg_aload_n dX7_readLine_171 rfl ?_
                        refine cs_get (s := x51) (w := .ref (o + 7)) fl_X7_28 dX7_readLine_172 (hO.ob 2 (by decide) rfl) rfl ?_
                        refine jg_aload_n dX7_readLine_175 rfl ?_
                        refine cs_get (s := x51) (w := .int (x51.1 (o + 2) 8)) fl_X7_50 dX7_readLine_176 (hO.ob 2 (by decide) rfl) rfl ?_
                        refine jg_aload_n dX7_readLine_179 rfl ?_
                        refine cs_get (s := x51) (w := .int (x51.1 (o + 2) 11)) fl_X7_53 dX7_readLine_180 (hO.ob 2 (by decide) rfl) rfl ?_
                        obtain ⟨q52, h⟩ := gd_some h
                        refine cs_sta (s := x51) (q := (o + 7)) (i := (x51.1 (o + 2) 8)) (x := (x51.1 (o + 2) 11)) dX7_readLine_183 (hO.ar 7 (by decide) rfl) q52 ?_
                        refine jg_aload_n dX7_readLine_184 rfl ?_
                        refine jg_dup dX7_readLine_185 rfl ?_
                        refine cs_get (s := (ca x51 (o + 7) (x51.1 (o + 2) 8) (x51.1 (o + 2) 11))) (w := .int ((ca x51 (o + 7) (x51.1 (o + 2) 8) (x51.1 (o + 2) 11)).1 (o + 2) 8)) fl_X7_50 dX7_readLine_186 (hO.ob 2 (by decide) rfl) rfl ?_
                        refine jg_iconst (v := nI 1) dX7_readLine_189 (by decide) ?_
                        refine jg_iadd (x := ((ca x51 (o + 7) (x51.1 (o + 2) 8) (x51.1 (o + 2) 11)).1 (o + 2) 8)) (y := (nI 1)) dX7_readLine_190  ?_
                        refine cs_put (s := (ca x51 (o + 7) (x51.1 (o + 2) 8) (x51.1 (o + 2) 11))) (k := 8) (x := (((ca x51 (o + 7) (x51.1 (o + 2) 8) (x51.1 (o + 2) 11)).1 (o + 2) 8) + (nI 1))) fl_X7_50 dX7_readLine_191 (hO.ob 2 (by decide) rfl) (ltb rfl) (rfl) rfl rfl ?_
                        obtain ⟨x53, e_x53, h⟩ := bd_some h
                        refine cs_sub (Option.some.inj e_x53) ?_
                        refine jg_iconst (v := nI 1) dX7_readLine_194 (by decide) ?_
                        obtain rfl := Option.some.inj h
                        exact jg_zreturn dX7_readLine_195 rfl (rfl) ⟨rfl, rfl⟩
                      · replace h := it_t c48 h
                        refine jg_iconst (v := nI 0) dX7_readLine_149 (by decide) ?_
                        obtain rfl := Option.some.inj h
                        exact jg_zreturn dX7_readLine_150 rfl (rfl) ⟨rfl, rfl⟩
                · replace h := it_t c33 h
                  refine jg_iinc (x := (x6 - (nI 1000))) (v := x6 - (nI 1000) + nI 4) (L' := [some (.ref (o + 2)), some (.int (x1 - (nI 200))), some (.int (x6 - (nI 1000) + nI 4))]) dX7_readLine_103 rfl (ic_k _ (by decide)) (by decide) rfl ?_
                  refine jg_aload_n dX7_readLine_106 rfl ?_
                  refine jg_dup dX7_readLine_107 rfl ?_
                  refine cs_get (s := x10) (w := .int (x10.1 (o + 2) 4)) fl_X7_47 dX7_readLine_108 (hO.ob 2 (by decide) rfl) rfl ?_
                  refine jg_iconst (v := nI 1) dX7_readLine_111 (by decide) ?_
                  refine jg_iadd (x := (x10.1 (o + 2) 4)) (y := (nI 1)) dX7_readLine_112  ?_
                  refine cs_put (s := x10) (k := 4) (x := ((x10.1 (o + 2) 4) + (nI 1))) fl_X7_47 dX7_readLine_113 (hO.ob 2 (by decide) rfl) (ltb rfl) (rfl) rfl rfl ?_
                  refine jg_iload_n dX7_readLine_116 rfl ?_
                  refine jg_iconst (v := nI 3) dX7_readLine_117 (by decide) ?_
                  refine jg_icmp_gt (x := (x1 - (nI 200))) (y := (nI 3)) (tgt := 151) dX7_readLine_118 (by decide) (fun c54 => ?_) (fun c54 => ?_)
                  · replace h := it_t c54 h
                    refine jg_aload_n dX7_readLine_151 rfl ?_
                    refine cs_get (s := (cp x10 (o + 2) 4 ((x10.1 (o + 2) 4) + (nI 1)))) (w := .ref (o + 5)) fl_X7_22 dX7_readLine_152 (hO.ob 2 (by decide) rfl) rfl ?_
                    refine jg_aload_n dX7_readLine_155 rfl ?_
                    refine cs_get (s := (cp x10 (o + 2) 4 ((x10.1 (o + 2) 4) + (nI 1)))) (w := .int ((cp x10 (o + 2) 4 ((x10.1 (o + 2) 4) + (nI 1))).1 (o + 2) 8)) fl_X7_50 dX7_readLine_156 (hO.ob 2 (by decide) rfl) rfl ?_
                    refine jg_iload_n dX7_readLine_159 rfl ?_
                    obtain ⟨q55, h⟩ := gd_some h
                    refine cs_sta (s := (cp x10 (o + 2) 4 ((x10.1 (o + 2) 4) + (nI 1)))) (q := (o + 5)) (i := ((cp x10 (o + 2) 4 ((x10.1 (o + 2) 4) + (nI 1))).1 (o + 2) 8)) (x := (x1 - (nI 200))) dX7_readLine_160 (hO.ar 5 (by decide) rfl) q55 ?_
                    obtain ⟨x56, e_x56, h⟩ := bd_some h
                    refine cs_sub (Option.some.inj e_x56) ?_
                    refine jg_aload_n dX7_readLine_161 rfl ?_
                    refine cs_get (s := x56) (w := .ref (o + 6)) fl_X7_25 dX7_readLine_162 (hO.ob 2 (by decide) rfl) rfl ?_
                    refine jg_aload_n dX7_readLine_165 rfl ?_
                    refine cs_get (s := x56) (w := .int (x56.1 (o + 2) 8)) fl_X7_50 dX7_readLine_166 (hO.ob 2 (by decide) rfl) rfl ?_
                    refine jg_iload_n dX7_readLine_169 rfl ?_
                    obtain ⟨q57, h⟩ := gd_some h
                    refine cs_sta (s := x56) (q := (o + 6)) (i := (x56.1 (o + 2) 8)) (x := (x6 - (nI 1000) + nI 4)) dX7_readLine_170 (hO.ar 6 (by decide) rfl) q57 ?_
                    refine jg_aload_n dX7_readLine_171 rfl ?_
                    refine cs_get (s := (ca x56 (o + 6) (x56.1 (o + 2) 8) (x6 - (nI 1000) + nI 4))) (w := .ref (o + 7)) fl_X7_28 dX7_readLine_172 (hO.ob 2 (by decide) rfl) rfl ?_
                    refine jg_aload_n dX7_readLine_175 rfl ?_
                    refine cs_get (s := (ca x56 (o + 6) (x56.1 (o + 2) 8) (x6 - (nI 1000) + nI 4))) (w := .int ((ca x56 (o + 6) (x56.1 (o + 2) 8) (x6 - (nI 1000) + nI 4)).1 (o + 2) 8)) fl_X7_50 dX7_readLine_176 (hO.ob 2 (by decide) rfl) rfl ?_
                    refine jg_aload_n dX7_readLine_179 rfl ?_
                    refine cs_get (s := (ca x56 (o + 6) (x56.1 (o + 2) 8) (x6 - (nI 1000) + nI 4))) (w := .int ((ca x56 (o + 6) (x56.1 (o + 2) 8) (x6 - (nI 1000) + nI 4)).1 (o + 2) 11)) fl_X7_53 dX7_readLine_180 (hO.ob 2 (by decide) rfl) rfl ?_
                    obtain ⟨q58, h⟩ := gd_some h
                    refine cs_sta (s := (ca x56 (o + 6) (x56.1 (o + 2) 8) (x6 - (nI 1000) + nI 4))) (q := (o + 7)) (i := ((ca x56 (o + 6) (x56.1 (o + 2) 8) (x6 - (nI 1000) + nI 4)).1 (o + 2) 8)) (x := ((ca x56 (o + 6) (x56.1 (o + 2) 8) (x6 - (nI 1000) + nI 4)).1 (o + 2) 11)) dX7_readLine_183 (hO.ar 7 (by decide) rfl) q58 ?_
                    obtain ⟨x59, e_x59, h⟩ := bd_some h
                    refine cs_sub (Option.some.inj e_x59) ?_
                    refine jg_aload_n dX7_readLine_184 rfl ?_
                    refine jg_dup dX7_readLine_185 rfl ?_
                    refine cs_get (s := x59) (w := .int (x59.1 (o + 2) 8)) fl_X7_50 dX7_readLine_186 (hO.ob 2 (by decide) rfl) rfl ?_
                    refine jg_iconst (v := nI 1) dX7_readLine_189 (by decide) ?_
                    refine jg_iadd (x := (x59.1 (o + 2) 8)) (y := (nI 1)) dX7_readLine_190  ?_
                    refine cs_put (s := x59) (k := 8) (x := ((x59.1 (o + 2) 8) + (nI 1))) fl_X7_50 dX7_readLine_191 (hO.ob 2 (by decide) rfl) (ltb rfl) (rfl) rfl rfl ?_
                    refine jg_iconst (v := nI 1) dX7_readLine_194 (by decide) ?_
                    obtain rfl := Option.some.inj h
                    exact jg_zreturn dX7_readLine_195 rfl (rfl) ⟨rfl, rfl⟩
                  · replace h := it_f c54 h
                    refine jg_aload_n dX7_readLine_121 rfl ?_
                    obtain ⟨x60, e_x60, h⟩ := bd_some h
                    refine cs_call (q := (o + 2)) (As := []) kv_X7_56 dX7_readLine_122 (hO.ob 2 (by decide) rfl) rfl rfl (by decide) (Nat.le_of_ble_eq_true rfl) rfl (by decide) (Nat.le_of_ble_eq_true rfl) (t_X7_thing τ n o (cp x10 (o + 2) 4 ((x10.1 (o + 2) 4) + (nI 1))) hO e_x60) ?_
                    refine jg_sipush (v := nI 402) dX7_readLine_125 (by decide) ?_
                    refine jg_icmp_ne (x := x60) (y := (nI 402)) (tgt := 151) dX7_readLine_128 (by decide) (fun c61 => ?_) (fun c61 => ?_)
                    · replace h := it_f c61 h
                      refine jg_aload_n dX7_readLine_151 rfl ?_
                      refine cs_get (s := (cp x10 (o + 2) 4 ((x10.1 (o + 2) 4) + (nI 1)))) (w := .ref (o + 5)) fl_X7_22 dX7_readLine_152 (hO.ob 2 (by decide) rfl) rfl ?_
                      refine jg_aload_n dX7_readLine_155 rfl ?_
                      refine cs_get (s := (cp x10 (o + 2) 4 ((x10.1 (o + 2) 4) + (nI 1)))) (w := .int ((cp x10 (o + 2) 4 ((x10.1 (o + 2) 4) + (nI 1))).1 (o + 2) 8)) fl_X7_50 dX7_readLine_156 (hO.ob 2 (by decide) rfl) rfl ?_
                      refine jg_iload_n dX7_readLine_159 rfl ?_
                      obtain ⟨q62, h⟩ := gd_some h
                      refine cs_sta (s := (cp x10 (o + 2) 4 ((x10.1 (o + 2) 4) + (nI 1)))) (q := (o + 5)) (i := ((cp x10 (o + 2) 4 ((x10.1 (o + 2) 4) + (nI 1))).1 (o + 2) 8)) (x := (x1 - (nI 200))) dX7_readLine_160 (hO.ar 5 (by decide) rfl) q62 ?_
                      obtain ⟨x63, e_x63, h⟩ := bd_some h
                      refine cs_sub (Option.some.inj e_x63) ?_
                      refine jg_aload_n dX7_readLine_161 rfl ?_
                      refine cs_get (s := x63) (w := .ref (o + 6)) fl_X7_25 dX7_readLine_162 (hO.ob 2 (by decide) rfl) rfl ?_
                      refine jg_aload_n dX7_readLine_165 rfl ?_
                      refine cs_get (s := x63) (w := .int (x63.1 (o + 2) 8)) fl_X7_50 dX7_readLine_166 (hO.ob 2 (by decide) rfl) rfl ?_
                      refine jg_iload_n dX7_readLine_169 rfl ?_
                      obtain ⟨q64, h⟩ := gd_some h
                      refine cs_sta (s := x63) (q := (o + 6)) (i := (x63.1 (o + 2) 8)) (x := (x6 - (nI 1000) + nI 4)) dX7_readLine_170 (hO.ar 6 (by decide) rfl) q64 ?_
                      refine jg_aload_n dX7_readLine_171 rfl ?_
                      refine cs_get (s := (ca x63 (o + 6) (x63.1 (o + 2) 8) (x6 - (nI 1000) + nI 4))) (w := .ref (o + 7)) fl_X7_28 dX7_readLine_172 (hO.ob 2 (by decide) rfl) rfl ?_
                      refine jg_aload_n dX7_readLine_175 rfl ?_
                      refine cs_get (s := (ca x63 (o + 6) (x63.1 (o + 2) 8) (x6 - (nI 1000) + nI 4))) (w := .int ((ca x63 (o + 6) (x63.1 (o + 2) 8) (x6 - (nI 1000) + nI 4)).1 (o + 2) 8)) fl_X7_50 dX7_readLine_176 (hO.ob 2 (by decide) rfl) rfl ?_
                      refine jg_aload_n dX7_readLine_179 rfl ?_
                      refine cs_get (s := (ca x63 (o + 6) (x63.1 (o + 2) 8) (x6 - (nI 1000) + nI 4))) (w := .int ((ca x63 (o + 6) (x63.1 (o + 2) 8) (x6 - (nI 1000) + nI 4)).1 (o + 2) 11)) fl_X7_53 dX7_readLine_180 (hO.ob 2 (by decide) rfl) rfl ?_
                      obtain ⟨q65, h⟩ := gd_some h
                      refine cs_sta (s := (ca x63 (o + 6) (x63.1 (o + 2) 8) (x6 - (nI 1000) + nI 4))) (q := (o + 7)) (i := ((ca x63 (o + 6) (x63.1 (o + 2) 8) (x6 - (nI 1000) + nI 4)).1 (o + 2) 8)) (x := ((ca x63 (o + 6) (x63.1 (o + 2) 8) (x6 - (nI 1000) + nI 4)).1 (o + 2) 11)) dX7_readLine_183 (hO.ar 7 (by decide) rfl) q65 ?_
                      obtain ⟨x66, e_x66, h⟩ := bd_some h
                      refine cs_sub (Option.some.inj e_x66) ?_
                      refine jg_aload_n dX7_readLine_184 rfl ?_
                      refine jg_dup dX7_readLine_185 rfl ?_
                      refine cs_get (s := x66) (w := .int (x66.1 (o + 2) 8)) fl_X7_50 dX7_readLine_186 (hO.ob 2 (by decide) rfl) rfl ?_
                      refine jg_iconst (v := nI 1) dX7_readLine_189 (by decide) ?_
                      refine jg_iadd (x := (x66.1 (o + 2) 8)) (y := (nI 1)) dX7_readLine_190  ?_
                      refine cs_put (s := x66) (k := 8) (x := ((x66.1 (o + 2) 8) + (nI 1))) fl_X7_50 dX7_readLine_191 (hO.ob 2 (by decide) rfl) (ltb rfl) (rfl) rfl rfl ?_
                      refine jg_iconst (v := nI 1) dX7_readLine_194 (by decide) ?_
                      obtain rfl := Option.some.inj h
                      exact jg_zreturn dX7_readLine_195 rfl (rfl) ⟨rfl, rfl⟩
                    · replace h := it_t c61 h
                      refine jg_aload_n dX7_readLine_131 rfl ?_
                      refine jg_dup dX7_readLine_132 rfl ?_
                      refine cs_get (s := (cp x10 (o + 2) 4 ((x10.1 (o + 2) 4) + (nI 1)))) (w := .int ((cp x10 (o + 2) 4 ((x10.1 (o + 2) 4) + (nI 1))).1 (o + 2) 4)) fl_X7_47 dX7_readLine_133 (hO.ob 2 (by decide) rfl) rfl ?_
                      refine jg_iconst (v := nI 1) dX7_readLine_136 (by decide) ?_
                      refine jg_iadd (x := ((cp x10 (o + 2) 4 ((x10.1 (o + 2) 4) + (nI 1))).1 (o + 2) 4)) (y := (nI 1)) dX7_readLine_137  ?_
                      refine cs_put (s := (cp x10 (o + 2) 4 ((x10.1 (o + 2) 4) + (nI 1)))) (k := 4) (x := (((cp x10 (o + 2) 4 ((x10.1 (o + 2) 4) + (nI 1))).1 (o + 2) 4) + (nI 1))) fl_X7_47 dX7_readLine_138 (hO.ob 2 (by decide) rfl) (ltb rfl) (rfl) rfl rfl ?_
                      obtain ⟨x67, e_x67, h⟩ := bd_some h
                      refine cs_sub (Option.some.inj e_x67) ?_
                      refine jg_aload_n dX7_readLine_141 rfl ?_
                      refine jg_iconst (v := nI 0) dX7_readLine_142 (by decide) ?_
                      obtain ⟨x68, e_x68, h⟩ := bd_some h
                      refine cs_call (q := (o + 2)) (As := [.int (nI 0)]) kv_X7_129 dX7_readLine_143 (hO.ob 2 (by decide) rfl) rfl rfl (by decide) (Nat.le_of_ble_eq_true rfl) rfl (by decide) (Nat.le_of_ble_eq_true rfl) (t_crY F τ n o x67 (nI 0) hO e_x68) ?_
                      refine jg_if_ne (x := x68.1) (tgt := 151) dX7_readLine_146 (by decide) (fun c69 => ?_) (fun c69 => ?_)
                      · replace h := it_f c69 h
                        refine jg_aload_n dX7_readLine_151 rfl ?_
                        refine cs_get (s := x68.2) (w := .ref (o + 5)) fl_X7_22 dX7_readLine_152 (hO.ob 2 (by decide) rfl) rfl ?_
                        refine jg_aload_n dX7_readLine_155 rfl ?_
                        refine cs_get (s := x68.2) (w := .int (x68.2.1 (o + 2) 8)) fl_X7_50 dX7_readLine_156 (hO.ob 2 (by decide) rfl) rfl ?_
                        refine jg_iload_n dX7_readLine_159 rfl ?_
                        obtain ⟨q70, h⟩ := gd_some h
                        refine cs_sta (s := x68.2) (q := (o + 5)) (i := (x68.2.1 (o + 2) 8)) (x := (x1 - (nI 200))) dX7_readLine_160 (hO.ar 5 (by decide) rfl) q70 ?_
                        refine jg_aload_n dX7_readLine_161 rfl ?_
                        refine cs_get (s := (ca x68.2 (o + 5) (x68.2.1 (o + 2) 8) (x1 - (nI 200)))) (w := .ref (o + 6)) fl_X7_25 dX7_readLine_162 (hO.ob 2 (by decide) rfl) rfl ?_
                        refine jg_aload_n dX7_readLine_165 rfl ?_
                        refine cs_get (s := (ca x68.2 (o + 5) (x68.2.1 (o + 2) 8) (x1 - (nI 200)))) (w := .int ((ca x68.2 (o + 5) (x68.2.1 (o + 2) 8) (x1 - (nI 200))).1 (o + 2) 8)) fl_X7_50 dX7_readLine_166 (hO.ob 2 (by decide) rfl) rfl ?_
                        refine jg_iload_n dX7_readLine_169 rfl ?_
                        obtain ⟨q71, h⟩ := gd_some h
                        refine cs_sta (s := (ca x68.2 (o + 5) (x68.2.1 (o + 2) 8) (x1 - (nI 200)))) (q := (o + 6)) (i := ((ca x68.2 (o + 5) (x68.2.1 (o + 2) 8) (x1 - (nI 200))).1 (o + 2) 8)) (x := (x6 - (nI 1000) + nI 4)) dX7_readLine_170 (hO.ar 6 (by decide) rfl) q71 ?_
                        obtain ⟨x72, e_x72, h⟩ := bd_some h
                        refine cs_sub (Option.some.inj e_x72) ?_
                        refine jg_aload_n dX7_readLine_171 rfl ?_
                        refine cs_get (s := x72) (w := .ref (o + 7)) fl_X7_28 dX7_readLine_172 (hO.ob 2 (by decide) rfl) rfl ?_
                        refine jg_aload_n dX7_readLine_175 rfl ?_
                        refine cs_get (s := x72) (w := .int (x72.1 (o + 2) 8)) fl_X7_50 dX7_readLine_176 (hO.ob 2 (by decide) rfl) rfl ?_
                        refine jg_aload_n dX7_readLine_179 rfl ?_
                        refine cs_get (s := x72) (w := .int (x72.1 (o + 2) 11)) fl_X7_53 dX7_readLine_180 (hO.ob 2 (by decide) rfl) rfl ?_
                        obtain ⟨q73, h⟩ := gd_some h
                        refine cs_sta (s := x72) (q := (o + 7)) (i := (x72.1 (o + 2) 8)) (x := (x72.1 (o + 2) 11)) dX7_readLine_183 (hO.ar 7 (by decide) rfl) q73 ?_
                        refine jg_aload_n dX7_readLine_184 rfl ?_
                        refine jg_dup dX7_readLine_185 rfl ?_
                        refine cs_get (s := (ca x72 (o + 7) (x72.1 (o + 2) 8) (x72.1 (o + 2) 11))) (w := .int ((ca x72 (o + 7) (x72.1 (o + 2) 8) (x72.1 (o + 2) 11)).1 (o + 2) 8)) fl_X7_50 dX7_readLine_186 (hO.ob 2 (by decide) rfl) rfl ?_
                        refine jg_iconst (v := nI 1) dX7_readLine_189 (by decide) ?_
                        refine jg_iadd (x := ((ca x72 (o + 7) (x72.1 (o + 2) 8) (x72.1 (o + 2) 11)).1 (o + 2) 8)) (y := (nI 1)) dX7_readLine_190  ?_
                        refine cs_put (s := (ca x72 (o + 7) (x72.1 (o + 2) 8) (x72.1 (o + 2) 11))) (k := 8) (x := (((ca x72 (o + 7) (x72.1 (o + 2) 8) (x72.1 (o + 2) 11)).1 (o + 2) 8) + (nI 1))) fl_X7_50 dX7_readLine_191 (hO.ob 2 (by decide) rfl) (ltb rfl) (rfl) rfl rfl ?_
                        obtain ⟨x74, e_x74, h⟩ := bd_some h
                        refine cs_sub (Option.some.inj e_x74) ?_
                        refine jg_iconst (v := nI 1) dX7_readLine_194 (by decide) ?_
                        obtain rfl := Option.some.inj h
                        exact jg_zreturn dX7_readLine_195 rfl (rfl) ⟨rfl, rfl⟩
                      · replace h := it_t c69 h
                        refine jg_iconst (v := nI 0) dX7_readLine_149 (by decide) ?_
                        obtain rfl := Option.some.inj h
                        exact jg_zreturn dX7_readLine_150 rfl (rfl) ⟨rfl, rfl⟩
            · replace h := it_f c9 h
              refine jg_iconst (v := nI 0) dX7_readLine_76 (by decide) ?_
              obtain rfl := Option.some.inj h
              exact jg_zreturn dX7_readLine_77 rfl (rfl) ⟨rfl, rfl⟩
        · replace h := it_t c5 h
          refine jg_aload_n dX7_readLine_45 rfl ?_
          obtain ⟨x75, e_x75, h⟩ := bd_some h
          refine cs_call (q := (o + 2)) (As := []) kv_X7_56 dX7_readLine_46 (hO.ob 2 (by decide) rfl) rfl rfl (by decide) (Nat.le_of_ble_eq_true rfl) rfl (by decide) (Nat.le_of_ble_eq_true rfl) (t_X7_thing τ n o (cp s (o + 2) 4 ((s.1 (o + 2) 4) + (nI 1))) hO e_x75) ?_
          obtain ⟨x76, e_x76, h⟩ := bd_some h
          refine cs_callS (As := [.int x75]) ks_X7_122 dX7_readLine_49 rfl (by decide) (Nat.le_of_ble_eq_true rfl) rfl (by decide) (Nat.le_of_ble_eq_true rfl) (t_X7_keyOf τ n (cp s (o + 2) 4 ((s.1 (o + 2) 4) + (nI 1))) x75 e_x76) ?_
          refine jg_goto (tgt := 63) dX7_readLine_52 (by decide) ?_
          refine jg_istore_n (L' := [some (.ref (o + 2)), some (.int (x1 - (nI 200))), some (.int x76)]) dX7_readLine_63 (by decide) rfl ?_
          refine jg_iload_n dX7_readLine_64 rfl ?_
          refine jg_if_lt (x := x76) (tgt := 76) dX7_readLine_65 (by decide) (fun c77 => ?_) (fun c77 => ?_)
          · replace h := it_t c77 h
            refine jg_iconst (v := nI 0) dX7_readLine_76 (by decide) ?_
            obtain rfl := Option.some.inj h
            exact jg_zreturn dX7_readLine_77 rfl (rfl) ⟨rfl, rfl⟩
          · replace h := it_f c77 h
            refine jg_iload_n dX7_readLine_68 rfl ?_
            refine jg_iload_n dX7_readLine_69 rfl ?_
            obtain ⟨x78, e_x78, h⟩ := bd_some h
            refine cs_callS (As := [.int (x1 - (nI 200))]) ks_X7_126 dX7_readLine_70 rfl (by decide) (Nat.le_of_ble_eq_true rfl) rfl (by decide) (Nat.le_of_ble_eq_true rfl) (t_X7_mostOf τ n (cp s (o + 2) 4 ((s.1 (o + 2) 4) + (nI 1))) (x1 - (nI 200)) e_x78) ?_
            refine jg_icmp_le (x := x76) (y := x78) (tgt := 78) dX7_readLine_73 (by decide) (fun c79 => ?_) (fun c79 => ?_)
            · replace h := it_t c79 h
              refine jg_aload_n dX7_readLine_78 rfl ?_
              refine jg_dup dX7_readLine_79 rfl ?_
              refine cs_get (s := (cp s (o + 2) 4 ((s.1 (o + 2) 4) + (nI 1)))) (w := .int ((cp s (o + 2) 4 ((s.1 (o + 2) 4) + (nI 1))).1 (o + 2) 4)) fl_X7_47 dX7_readLine_80 (hO.ob 2 (by decide) rfl) rfl ?_
              refine jg_iconst (v := nI 1) dX7_readLine_83 (by decide) ?_
              refine jg_iadd (x := ((cp s (o + 2) 4 ((s.1 (o + 2) 4) + (nI 1))).1 (o + 2) 4)) (y := (nI 1)) dX7_readLine_84  ?_
              refine cs_put (s := (cp s (o + 2) 4 ((s.1 (o + 2) 4) + (nI 1)))) (k := 4) (x := (((cp s (o + 2) 4 ((s.1 (o + 2) 4) + (nI 1))).1 (o + 2) 4) + (nI 1))) fl_X7_47 dX7_readLine_85 (hO.ob 2 (by decide) rfl) (ltb rfl) (rfl) rfl rfl ?_
              obtain ⟨x80, e_x80, h⟩ := bd_some h
              refine cs_sub (Option.some.inj e_x80) ?_
              refine jg_iload_n dX7_readLine_88 rfl ?_
              refine jg_iconst (v := nI 4) dX7_readLine_89 (by decide) ?_
              refine jg_icmp_ne (x := (x1 - (nI 200))) (y := (nI 4)) (tgt := 116) dX7_readLine_90 (by decide) (fun c81 => ?_) (fun c81 => ?_)
              · replace h := it_f c81 h
                refine jg_iload_n dX7_readLine_116 rfl ?_
                refine jg_iconst (v := nI 3) dX7_readLine_117 (by decide) ?_
                refine jg_icmp_gt (x := (x1 - (nI 200))) (y := (nI 3)) (tgt := 151) dX7_readLine_118 (by decide) (fun c82 => ?_) (fun c82 => ?_)
                · replace h := it_t c82 h
                  refine jg_aload_n dX7_readLine_151 rfl ?_
                  refine cs_get (s := x80) (w := .ref (o + 5)) fl_X7_22 dX7_readLine_152 (hO.ob 2 (by decide) rfl) rfl ?_
                  refine jg_aload_n dX7_readLine_155 rfl ?_
                  refine cs_get (s := x80) (w := .int (x80.1 (o + 2) 8)) fl_X7_50 dX7_readLine_156 (hO.ob 2 (by decide) rfl) rfl ?_
                  refine jg_iload_n dX7_readLine_159 rfl ?_
                  obtain ⟨q83, h⟩ := gd_some h
                  refine cs_sta (s := x80) (q := (o + 5)) (i := (x80.1 (o + 2) 8)) (x := (x1 - (nI 200))) dX7_readLine_160 (hO.ar 5 (by decide) rfl) q83 ?_
                  refine jg_aload_n dX7_readLine_161 rfl ?_
                  refine cs_get (s := (ca x80 (o + 5) (x80.1 (o + 2) 8) (x1 - (nI 200)))) (w := .ref (o + 6)) fl_X7_25 dX7_readLine_162 (hO.ob 2 (by decide) rfl) rfl ?_
                  refine jg_aload_n dX7_readLine_165 rfl ?_
                  refine cs_get (s := (ca x80 (o + 5) (x80.1 (o + 2) 8) (x1 - (nI 200)))) (w := .int ((ca x80 (o + 5) (x80.1 (o + 2) 8) (x1 - (nI 200))).1 (o + 2) 8)) fl_X7_50 dX7_readLine_166 (hO.ob 2 (by decide) rfl) rfl ?_
                  refine jg_iload_n dX7_readLine_169 rfl ?_
                  obtain ⟨q84, h⟩ := gd_some h
                  refine cs_sta (s := (ca x80 (o + 5) (x80.1 (o + 2) 8) (x1 - (nI 200)))) (q := (o + 6)) (i := ((ca x80 (o + 5) (x80.1 (o + 2) 8) (x1 - (nI 200))).1 (o + 2) 8)) (x := x76) dX7_readLine_170 (hO.ar 6 (by decide) rfl) q84 ?_
                  obtain ⟨x85, e_x85, h⟩ := bd_some h
                  refine cs_sub (Option.some.inj e_x85) ?_
                  refine jg_aload_n dX7_readLine_171 rfl ?_
                  refine cs_get (s := x85) (w := .ref (o + 7)) fl_X7_28 dX7_readLine_172 (hO.ob 2 (by decide) rfl) rfl ?_
                  refine jg_aload_n dX7_readLine_175 rfl ?_
                  refine cs_get (s := x85) (w := .int (x85.1 (o + 2) 8)) fl_X7_50 dX7_readLine_176 (hO.ob 2 (by decide) rfl) rfl ?_
                  refine jg_aload_n dX7_readLine_179 rfl ?_
                  refine cs_get (s := x85) (w := .int (x85.1 (o + 2) 11)) fl_X7_53 dX7_readLine_180 (hO.ob 2 (by decide) rfl) rfl ?_
                  obtain ⟨q86, h⟩ := gd_some h
                  refine cs_sta (s := x85) (q := (o + 7)) (i := (x85.1 (o + 2) 8)) (x := (x85.1 (o + 2) 11)) dX7_readLine_183 (hO.ar 7 (by decide) rfl) q86 ?_
                  refine jg_aload_n dX7_readLine_184 rfl ?_
                  refine jg_dup dX7_readLine_185 rfl ?_
                  refine cs_get (s := (ca x85 (o + 7) (x85.1 (o + 2) 8) (x85.1 (o + 2) 11))) (w := .int ((ca x85 (o + 7) (x85.1 (o + 2) 8) (x85.1 (o + 2) 11)).1 (o + 2) 8)) fl_X7_50 dX7_readLine_186 (hO.ob 2 (by decide) rfl) rfl ?_
                  refine jg_iconst (v := nI 1) dX7_readLine_189 (by decide) ?_
                  refine jg_iadd (x := ((ca x85 (o + 7) (x85.1 (o + 2) 8) (x85.1 (o + 2) 11)).1 (o + 2) 8)) (y := (nI 1)) dX7_readLine_190  ?_
                  refine cs_put (s := (ca x85 (o + 7) (x85.1 (o + 2) 8) (x85.1 (o + 2) 11))) (k := 8) (x := (((ca x85 (o + 7) (x85.1 (o + 2) 8) (x85.1 (o + 2) 11)).1 (o + 2) 8) + (nI 1))) fl_X7_50 dX7_readLine_191 (hO.ob 2 (by decide) rfl) (ltb rfl) (rfl) rfl rfl ?_
                  obtain ⟨x87, e_x87, h⟩ := bd_some h
                  refine cs_sub (Option.some.inj e_x87) ?_
                  refine jg_iconst (v := nI 1) dX7_readLine_194 (by decide) ?_
                  obtain rfl := Option.some.inj h
                  exact jg_zreturn dX7_readLine_195 rfl (rfl) ⟨rfl, rfl⟩
                · replace h := it_f c82 h
                  refine jg_aload_n dX7_readLine_121 rfl ?_
                  obtain ⟨x88, e_x88, h⟩ := bd_some h
                  refine cs_call (q := (o + 2)) (As := []) kv_X7_56 dX7_readLine_122 (hO.ob 2 (by decide) rfl) rfl rfl (by decide) (Nat.le_of_ble_eq_true rfl) rfl (by decide) (Nat.le_of_ble_eq_true rfl) (t_X7_thing τ n o x80 hO e_x88) ?_
                  refine jg_sipush (v := nI 402) dX7_readLine_125 (by decide) ?_
                  refine jg_icmp_ne (x := x88) (y := (nI 402)) (tgt := 151) dX7_readLine_128 (by decide) (fun c89 => ?_) (fun c89 => ?_)
                  · replace h := it_f c89 h
                    refine jg_aload_n dX7_readLine_151 rfl ?_
                    refine cs_get (s := x80) (w := .ref (o + 5)) fl_X7_22 dX7_readLine_152 (hO.ob 2 (by decide) rfl) rfl ?_
                    refine jg_aload_n dX7_readLine_155 rfl ?_
                    refine cs_get (s := x80) (w := .int (x80.1 (o + 2) 8)) fl_X7_50 dX7_readLine_156 (hO.ob 2 (by decide) rfl) rfl ?_
                    refine jg_iload_n dX7_readLine_159 rfl ?_
                    obtain ⟨q90, h⟩ := gd_some h
                    refine cs_sta (s := x80) (q := (o + 5)) (i := (x80.1 (o + 2) 8)) (x := (x1 - (nI 200))) dX7_readLine_160 (hO.ar 5 (by decide) rfl) q90 ?_
                    refine jg_aload_n dX7_readLine_161 rfl ?_
                    refine cs_get (s := (ca x80 (o + 5) (x80.1 (o + 2) 8) (x1 - (nI 200)))) (w := .ref (o + 6)) fl_X7_25 dX7_readLine_162 (hO.ob 2 (by decide) rfl) rfl ?_
                    refine jg_aload_n dX7_readLine_165 rfl ?_
                    refine cs_get (s := (ca x80 (o + 5) (x80.1 (o + 2) 8) (x1 - (nI 200)))) (w := .int ((ca x80 (o + 5) (x80.1 (o + 2) 8) (x1 - (nI 200))).1 (o + 2) 8)) fl_X7_50 dX7_readLine_166 (hO.ob 2 (by decide) rfl) rfl ?_
                    refine jg_iload_n dX7_readLine_169 rfl ?_
                    obtain ⟨q91, h⟩ := gd_some h
                    refine cs_sta (s := (ca x80 (o + 5) (x80.1 (o + 2) 8) (x1 - (nI 200)))) (q := (o + 6)) (i := ((ca x80 (o + 5) (x80.1 (o + 2) 8) (x1 - (nI 200))).1 (o + 2) 8)) (x := x76) dX7_readLine_170 (hO.ar 6 (by decide) rfl) q91 ?_
                    obtain ⟨x92, e_x92, h⟩ := bd_some h
                    refine cs_sub (Option.some.inj e_x92) ?_
                    refine jg_aload_n dX7_readLine_171 rfl ?_
                    refine cs_get (s := x92) (w := .ref (o + 7)) fl_X7_28 dX7_readLine_172 (hO.ob 2 (by decide) rfl) rfl ?_
                    refine jg_aload_n dX7_readLine_175 rfl ?_
                    refine cs_get (s := x92) (w := .int (x92.1 (o + 2) 8)) fl_X7_50 dX7_readLine_176 (hO.ob 2 (by decide) rfl) rfl ?_
                    refine jg_aload_n dX7_readLine_179 rfl ?_
                    refine cs_get (s := x92) (w := .int (x92.1 (o + 2) 11)) fl_X7_53 dX7_readLine_180 (hO.ob 2 (by decide) rfl) rfl ?_
                    obtain ⟨q93, h⟩ := gd_some h
                    refine cs_sta (s := x92) (q := (o + 7)) (i := (x92.1 (o + 2) 8)) (x := (x92.1 (o + 2) 11)) dX7_readLine_183 (hO.ar 7 (by decide) rfl) q93 ?_
                    refine jg_aload_n dX7_readLine_184 rfl ?_
                    refine jg_dup dX7_readLine_185 rfl ?_
                    refine cs_get (s := (ca x92 (o + 7) (x92.1 (o + 2) 8) (x92.1 (o + 2) 11))) (w := .int ((ca x92 (o + 7) (x92.1 (o + 2) 8) (x92.1 (o + 2) 11)).1 (o + 2) 8)) fl_X7_50 dX7_readLine_186 (hO.ob 2 (by decide) rfl) rfl ?_
                    refine jg_iconst (v := nI 1) dX7_readLine_189 (by decide) ?_
                    refine jg_iadd (x := ((ca x92 (o + 7) (x92.1 (o + 2) 8) (x92.1 (o + 2) 11)).1 (o + 2) 8)) (y := (nI 1)) dX7_readLine_190  ?_
                    refine cs_put (s := (ca x92 (o + 7) (x92.1 (o + 2) 8) (x92.1 (o + 2) 11))) (k := 8) (x := (((ca x92 (o + 7) (x92.1 (o + 2) 8) (x92.1 (o + 2) 11)).1 (o + 2) 8) + (nI 1))) fl_X7_50 dX7_readLine_191 (hO.ob 2 (by decide) rfl) (ltb rfl) (rfl) rfl rfl ?_
                    obtain ⟨x94, e_x94, h⟩ := bd_some h
                    refine cs_sub (Option.some.inj e_x94) ?_
                    refine jg_iconst (v := nI 1) dX7_readLine_194 (by decide) ?_
                    obtain rfl := Option.some.inj h
                    exact jg_zreturn dX7_readLine_195 rfl (rfl) ⟨rfl, rfl⟩
                  · replace h := it_t c89 h
                    refine jg_aload_n dX7_readLine_131 rfl ?_
                    refine jg_dup dX7_readLine_132 rfl ?_
                    refine cs_get (s := x80) (w := .int (x80.1 (o + 2) 4)) fl_X7_47 dX7_readLine_133 (hO.ob 2 (by decide) rfl) rfl ?_
                    refine jg_iconst (v := nI 1) dX7_readLine_136 (by decide) ?_
                    refine jg_iadd (x := (x80.1 (o + 2) 4)) (y := (nI 1)) dX7_readLine_137  ?_
                    refine cs_put (s := x80) (k := 4) (x := ((x80.1 (o + 2) 4) + (nI 1))) fl_X7_47 dX7_readLine_138 (hO.ob 2 (by decide) rfl) (ltb rfl) (rfl) rfl rfl ?_
                    refine jg_aload_n dX7_readLine_141 rfl ?_
                    refine jg_iconst (v := nI 0) dX7_readLine_142 (by decide) ?_
                    obtain ⟨x95, e_x95, h⟩ := bd_some h
                    refine cs_call (q := (o + 2)) (As := [.int (nI 0)]) kv_X7_129 dX7_readLine_143 (hO.ob 2 (by decide) rfl) rfl rfl (by decide) (Nat.le_of_ble_eq_true rfl) rfl (by decide) (Nat.le_of_ble_eq_true rfl) (t_crY F τ n o (cp x80 (o + 2) 4 ((x80.1 (o + 2) 4) + (nI 1))) (nI 0) hO e_x95) ?_
                    refine jg_if_ne (x := x95.1) (tgt := 151) dX7_readLine_146 (by decide) (fun c96 => ?_) (fun c96 => ?_)
                    · replace h := it_f c96 h
                      refine jg_aload_n dX7_readLine_151 rfl ?_
                      refine cs_get (s := x95.2) (w := .ref (o + 5)) fl_X7_22 dX7_readLine_152 (hO.ob 2 (by decide) rfl) rfl ?_
                      refine jg_aload_n dX7_readLine_155 rfl ?_
                      refine cs_get (s := x95.2) (w := .int (x95.2.1 (o + 2) 8)) fl_X7_50 dX7_readLine_156 (hO.ob 2 (by decide) rfl) rfl ?_
                      refine jg_iload_n dX7_readLine_159 rfl ?_
                      obtain ⟨q97, h⟩ := gd_some h
                      refine cs_sta (s := x95.2) (q := (o + 5)) (i := (x95.2.1 (o + 2) 8)) (x := (x1 - (nI 200))) dX7_readLine_160 (hO.ar 5 (by decide) rfl) q97 ?_
                      refine jg_aload_n dX7_readLine_161 rfl ?_
                      refine cs_get (s := (ca x95.2 (o + 5) (x95.2.1 (o + 2) 8) (x1 - (nI 200)))) (w := .ref (o + 6)) fl_X7_25 dX7_readLine_162 (hO.ob 2 (by decide) rfl) rfl ?_
                      refine jg_aload_n dX7_readLine_165 rfl ?_
                      refine cs_get (s := (ca x95.2 (o + 5) (x95.2.1 (o + 2) 8) (x1 - (nI 200)))) (w := .int ((ca x95.2 (o + 5) (x95.2.1 (o + 2) 8) (x1 - (nI 200))).1 (o + 2) 8)) fl_X7_50 dX7_readLine_166 (hO.ob 2 (by decide) rfl) rfl ?_
                      refine jg_iload_n dX7_readLine_169 rfl ?_
                      obtain ⟨q98, h⟩ := gd_some h
                      refine cs_sta (s := (ca x95.2 (o + 5) (x95.2.1 (o + 2) 8) (x1 - (nI 200)))) (q := (o + 6)) (i := ((ca x95.2 (o + 5) (x95.2.1 (o + 2) 8) (x1 - (nI 200))).1 (o + 2) 8)) (x := x76) dX7_readLine_170 (hO.ar 6 (by decide) rfl) q98 ?_
                      obtain ⟨x99, e_x99, h⟩ := bd_some h
                      refine cs_sub (Option.some.inj e_x99) ?_
                      refine jg_aload_n dX7_readLine_171 rfl ?_
                      refine cs_get (s := x99) (w := .ref (o + 7)) fl_X7_28 dX7_readLine_172 (hO.ob 2 (by decide) rfl) rfl ?_
                      refine jg_aload_n dX7_readLine_175 rfl ?_
                      refine cs_get (s := x99) (w := .int (x99.1 (o + 2) 8)) fl_X7_50 dX7_readLine_176 (hO.ob 2 (by decide) rfl) rfl ?_
                      refine jg_aload_n dX7_readLine_179 rfl ?_
                      refine cs_get (s := x99) (w := .int (x99.1 (o + 2) 11)) fl_X7_53 dX7_readLine_180 (hO.ob 2 (by decide) rfl) rfl ?_
                      obtain ⟨q100, h⟩ := gd_some h
                      refine cs_sta (s := x99) (q := (o + 7)) (i := (x99.1 (o + 2) 8)) (x := (x99.1 (o + 2) 11)) dX7_readLine_183 (hO.ar 7 (by decide) rfl) q100 ?_
                      refine jg_aload_n dX7_readLine_184 rfl ?_
                      refine jg_dup dX7_readLine_185 rfl ?_
                      refine cs_get (s := (ca x99 (o + 7) (x99.1 (o + 2) 8) (x99.1 (o + 2) 11))) (w := .int ((ca x99 (o + 7) (x99.1 (o + 2) 8) (x99.1 (o + 2) 11)).1 (o + 2) 8)) fl_X7_50 dX7_readLine_186 (hO.ob 2 (by decide) rfl) rfl ?_
                      refine jg_iconst (v := nI 1) dX7_readLine_189 (by decide) ?_
                      refine jg_iadd (x := ((ca x99 (o + 7) (x99.1 (o + 2) 8) (x99.1 (o + 2) 11)).1 (o + 2) 8)) (y := (nI 1)) dX7_readLine_190  ?_
                      refine cs_put (s := (ca x99 (o + 7) (x99.1 (o + 2) 8) (x99.1 (o + 2) 11))) (k := 8) (x := (((ca x99 (o + 7) (x99.1 (o + 2) 8) (x99.1 (o + 2) 11)).1 (o + 2) 8) + (nI 1))) fl_X7_50 dX7_readLine_191 (hO.ob 2 (by decide) rfl) (ltb rfl) (rfl) rfl rfl ?_
                      obtain ⟨x101, e_x101, h⟩ := bd_some h
                      refine cs_sub (Option.some.inj e_x101) ?_
                      refine jg_iconst (v := nI 1) dX7_readLine_194 (by decide) ?_
                      obtain rfl := Option.some.inj h
                      exact jg_zreturn dX7_readLine_195 rfl (rfl) ⟨rfl, rfl⟩
                    · replace h := it_t c96 h
                      refine jg_iconst (v := nI 0) dX7_readLine_149 (by decide) ?_
                      obtain rfl := Option.some.inj h
                      exact jg_zreturn dX7_readLine_150 rfl (rfl) ⟨rfl, rfl⟩
              · replace h := it_t c81 h
                refine jg_aload_n dX7_readLine_93 rfl ?_
                obtain ⟨x102, e_x102, h⟩ := bd_some h
                refine cs_call (q := (o + 2)) (As := []) kv_X7_56 dX7_readLine_94 (hO.ob 2 (by decide) rfl) rfl rfl (by decide) (Nat.le_of_ble_eq_true rfl) rfl (by decide) (Nat.le_of_ble_eq_true rfl) (t_X7_thing τ n o x80 hO e_x102) ?_
                refine jg_sipush (v := nI 406) dX7_readLine_97 (by decide) ?_
                refine jg_icmp_ne (x := x102) (y := (nI 406)) (tgt := 116) dX7_readLine_100 (by decide) (fun c103 => ?_) (fun c103 => ?_)
                · replace h := it_f c103 h
                  refine jg_iload_n dX7_readLine_116 rfl ?_
                  refine jg_iconst (v := nI 3) dX7_readLine_117 (by decide) ?_
                  refine jg_icmp_gt (x := (x1 - (nI 200))) (y := (nI 3)) (tgt := 151) dX7_readLine_118 (by decide) (fun c104 => ?_) (fun c104 => ?_)
                  · replace h := it_t c104 h
                    refine jg_aload_n dX7_readLine_151 rfl ?_
                    refine cs_get (s := x80) (w := .ref (o + 5)) fl_X7_22 dX7_readLine_152 (hO.ob 2 (by decide) rfl) rfl ?_
                    refine jg_aload_n dX7_readLine_155 rfl ?_
                    refine cs_get (s := x80) (w := .int (x80.1 (o + 2) 8)) fl_X7_50 dX7_readLine_156 (hO.ob 2 (by decide) rfl) rfl ?_
                    refine jg_iload_n dX7_readLine_159 rfl ?_
                    obtain ⟨q105, h⟩ := gd_some h
                    refine cs_sta (s := x80) (q := (o + 5)) (i := (x80.1 (o + 2) 8)) (x := (x1 - (nI 200))) dX7_readLine_160 (hO.ar 5 (by decide) rfl) q105 ?_
                    refine jg_aload_n dX7_readLine_161 rfl ?_
                    refine cs_get (s := (ca x80 (o + 5) (x80.1 (o + 2) 8) (x1 - (nI 200)))) (w := .ref (o + 6)) fl_X7_25 dX7_readLine_162 (hO.ob 2 (by decide) rfl) rfl ?_
                    refine jg_aload_n dX7_readLine_165 rfl ?_
                    refine cs_get (s := (ca x80 (o + 5) (x80.1 (o + 2) 8) (x1 - (nI 200)))) (w := .int ((ca x80 (o + 5) (x80.1 (o + 2) 8) (x1 - (nI 200))).1 (o + 2) 8)) fl_X7_50 dX7_readLine_166 (hO.ob 2 (by decide) rfl) rfl ?_
                    refine jg_iload_n dX7_readLine_169 rfl ?_
                    obtain ⟨q106, h⟩ := gd_some h
                    refine cs_sta (s := (ca x80 (o + 5) (x80.1 (o + 2) 8) (x1 - (nI 200)))) (q := (o + 6)) (i := ((ca x80 (o + 5) (x80.1 (o + 2) 8) (x1 - (nI 200))).1 (o + 2) 8)) (x := x76) dX7_readLine_170 (hO.ar 6 (by decide) rfl) q106 ?_
                    obtain ⟨x107, e_x107, h⟩ := bd_some h
                    refine cs_sub (Option.some.inj e_x107) ?_
                    refine jg_aload_n dX7_readLine_171 rfl ?_
                    refine cs_get (s := x107) (w := .ref (o + 7)) fl_X7_28 dX7_readLine_172 (hO.ob 2 (by decide) rfl) rfl ?_
                    refine jg_aload_n dX7_readLine_175 rfl ?_
                    refine cs_get (s := x107) (w := .int (x107.1 (o + 2) 8)) fl_X7_50 dX7_readLine_176 (hO.ob 2 (by decide) rfl) rfl ?_
                    refine jg_aload_n dX7_readLine_179 rfl ?_
                    refine cs_get (s := x107) (w := .int (x107.1 (o + 2) 11)) fl_X7_53 dX7_readLine_180 (hO.ob 2 (by decide) rfl) rfl ?_
                    obtain ⟨q108, h⟩ := gd_some h
                    refine cs_sta (s := x107) (q := (o + 7)) (i := (x107.1 (o + 2) 8)) (x := (x107.1 (o + 2) 11)) dX7_readLine_183 (hO.ar 7 (by decide) rfl) q108 ?_
                    refine jg_aload_n dX7_readLine_184 rfl ?_
                    refine jg_dup dX7_readLine_185 rfl ?_
                    refine cs_get (s := (ca x107 (o + 7) (x107.1 (o + 2) 8) (x107.1 (o + 2) 11))) (w := .int ((ca x107 (o + 7) (x107.1 (o + 2) 8) (x107.1 (o + 2) 11)).1 (o + 2) 8)) fl_X7_50 dX7_readLine_186 (hO.ob 2 (by decide) rfl) rfl ?_
                    refine jg_iconst (v := nI 1) dX7_readLine_189 (by decide) ?_
                    refine jg_iadd (x := ((ca x107 (o + 7) (x107.1 (o + 2) 8) (x107.1 (o + 2) 11)).1 (o + 2) 8)) (y := (nI 1)) dX7_readLine_190  ?_
                    refine cs_put (s := (ca x107 (o + 7) (x107.1 (o + 2) 8) (x107.1 (o + 2) 11))) (k := 8) (x := (((ca x107 (o + 7) (x107.1 (o + 2) 8) (x107.1 (o + 2) 11)).1 (o + 2) 8) + (nI 1))) fl_X7_50 dX7_readLine_191 (hO.ob 2 (by decide) rfl) (ltb rfl) (rfl) rfl rfl ?_
                    obtain ⟨x109, e_x109, h⟩ := bd_some h
                    refine cs_sub (Option.some.inj e_x109) ?_
                    refine jg_iconst (v := nI 1) dX7_readLine_194 (by decide) ?_
                    obtain rfl := Option.some.inj h
                    exact jg_zreturn dX7_readLine_195 rfl (rfl) ⟨rfl, rfl⟩
                  · replace h := it_f c104 h
                    refine jg_aload_n dX7_readLine_121 rfl ?_
                    obtain ⟨x110, e_x110, h⟩ := bd_some h
                    refine cs_call (q := (o + 2)) (As := []) kv_X7_56 dX7_readLine_122 (hO.ob 2 (by decide) rfl) rfl rfl (by decide) (Nat.le_of_ble_eq_true rfl) rfl (by decide) (Nat.le_of_ble_eq_true rfl) (t_X7_thing τ n o x80 hO e_x110) ?_
                    refine jg_sipush (v := nI 402) dX7_readLine_125 (by decide) ?_
                    refine jg_icmp_ne (x := x110) (y := (nI 402)) (tgt := 151) dX7_readLine_128 (by decide) (fun c111 => ?_) (fun c111 => ?_)
                    · replace h := it_f c111 h
                      refine jg_aload_n dX7_readLine_151 rfl ?_
                      refine cs_get (s := x80) (w := .ref (o + 5)) fl_X7_22 dX7_readLine_152 (hO.ob 2 (by decide) rfl) rfl ?_
                      refine jg_aload_n dX7_readLine_155 rfl ?_
                      refine cs_get (s := x80) (w := .int (x80.1 (o + 2) 8)) fl_X7_50 dX7_readLine_156 (hO.ob 2 (by decide) rfl) rfl ?_
                      refine jg_iload_n dX7_readLine_159 rfl ?_
                      obtain ⟨q112, h⟩ := gd_some h
                      refine cs_sta (s := x80) (q := (o + 5)) (i := (x80.1 (o + 2) 8)) (x := (x1 - (nI 200))) dX7_readLine_160 (hO.ar 5 (by decide) rfl) q112 ?_
                      refine jg_aload_n dX7_readLine_161 rfl ?_
                      refine cs_get (s := (ca x80 (o + 5) (x80.1 (o + 2) 8) (x1 - (nI 200)))) (w := .ref (o + 6)) fl_X7_25 dX7_readLine_162 (hO.ob 2 (by decide) rfl) rfl ?_
                      refine jg_aload_n dX7_readLine_165 rfl ?_
                      refine cs_get (s := (ca x80 (o + 5) (x80.1 (o + 2) 8) (x1 - (nI 200)))) (w := .int ((ca x80 (o + 5) (x80.1 (o + 2) 8) (x1 - (nI 200))).1 (o + 2) 8)) fl_X7_50 dX7_readLine_166 (hO.ob 2 (by decide) rfl) rfl ?_
                      refine jg_iload_n dX7_readLine_169 rfl ?_
                      obtain ⟨q113, h⟩ := gd_some h
                      refine cs_sta (s := (ca x80 (o + 5) (x80.1 (o + 2) 8) (x1 - (nI 200)))) (q := (o + 6)) (i := ((ca x80 (o + 5) (x80.1 (o + 2) 8) (x1 - (nI 200))).1 (o + 2) 8)) (x := x76) dX7_readLine_170 (hO.ar 6 (by decide) rfl) q113 ?_
                      obtain ⟨x114, e_x114, h⟩ := bd_some h
                      refine cs_sub (Option.some.inj e_x114) ?_
                      refine jg_aload_n dX7_readLine_171 rfl ?_
                      refine cs_get (s := x114) (w := .ref (o + 7)) fl_X7_28 dX7_readLine_172 (hO.ob 2 (by decide) rfl) rfl ?_
                      refine jg_aload_n dX7_readLine_175 rfl ?_
                      refine cs_get (s := x114) (w := .int (x114.1 (o + 2) 8)) fl_X7_50 dX7_readLine_176 (hO.ob 2 (by decide) rfl) rfl ?_
                      refine jg_aload_n dX7_readLine_179 rfl ?_
                      refine cs_get (s := x114) (w := .int (x114.1 (o + 2) 11)) fl_X7_53 dX7_readLine_180 (hO.ob 2 (by decide) rfl) rfl ?_
                      obtain ⟨q115, h⟩ := gd_some h
                      refine cs_sta (s := x114) (q := (o + 7)) (i := (x114.1 (o + 2) 8)) (x := (x114.1 (o + 2) 11)) dX7_readLine_183 (hO.ar 7 (by decide) rfl) q115 ?_
                      refine jg_aload_n dX7_readLine_184 rfl ?_
                      refine jg_dup dX7_readLine_185 rfl ?_
                      refine cs_get (s := (ca x114 (o + 7) (x114.1 (o + 2) 8) (x114.1 (o + 2) 11))) (w := .int ((ca x114 (o + 7) (x114.1 (o + 2) 8) (x114.1 (o + 2) 11)).1 (o + 2) 8)) fl_X7_50 dX7_readLine_186 (hO.ob 2 (by decide) rfl) rfl ?_
                      refine jg_iconst (v := nI 1) dX7_readLine_189 (by decide) ?_
                      refine jg_iadd (x := ((ca x114 (o + 7) (x114.1 (o + 2) 8) (x114.1 (o + 2) 11)).1 (o + 2) 8)) (y := (nI 1)) dX7_readLine_190  ?_
                      refine cs_put (s := (ca x114 (o + 7) (x114.1 (o + 2) 8) (x114.1 (o + 2) 11))) (k := 8) (x := (((ca x114 (o + 7) (x114.1 (o + 2) 8) (x114.1 (o + 2) 11)).1 (o + 2) 8) + (nI 1))) fl_X7_50 dX7_readLine_191 (hO.ob 2 (by decide) rfl) (ltb rfl) (rfl) rfl rfl ?_
                      obtain ⟨x116, e_x116, h⟩ := bd_some h
                      refine cs_sub (Option.some.inj e_x116) ?_
                      refine jg_iconst (v := nI 1) dX7_readLine_194 (by decide) ?_
                      obtain rfl := Option.some.inj h
                      exact jg_zreturn dX7_readLine_195 rfl (rfl) ⟨rfl, rfl⟩
                    · replace h := it_t c111 h
                      refine jg_aload_n dX7_readLine_131 rfl ?_
                      refine jg_dup dX7_readLine_132 rfl ?_
                      refine cs_get (s := x80) (w := .int (x80.1 (o + 2) 4)) fl_X7_47 dX7_readLine_133 (hO.ob 2 (by decide) rfl) rfl ?_
                      refine jg_iconst (v := nI 1) dX7_readLine_136 (by decide) ?_
                      refine jg_iadd (x := (x80.1 (o + 2) 4)) (y := (nI 1)) dX7_readLine_137  ?_
                      refine cs_put (s := x80) (k := 4) (x := ((x80.1 (o + 2) 4) + (nI 1))) fl_X7_47 dX7_readLine_138 (hO.ob 2 (by decide) rfl) (ltb rfl) (rfl) rfl rfl ?_
                      refine jg_aload_n dX7_readLine_141 rfl ?_
                      refine jg_iconst (v := nI 0) dX7_readLine_142 (by decide) ?_
                      obtain ⟨x117, e_x117, h⟩ := bd_some h
                      refine cs_call (q := (o + 2)) (As := [.int (nI 0)]) kv_X7_129 dX7_readLine_143 (hO.ob 2 (by decide) rfl) rfl rfl (by decide) (Nat.le_of_ble_eq_true rfl) rfl (by decide) (Nat.le_of_ble_eq_true rfl) (t_crY F τ n o (cp x80 (o + 2) 4 ((x80.1 (o + 2) 4) + (nI 1))) (nI 0) hO e_x117) ?_
                      refine jg_if_ne (x := x117.1) (tgt := 151) dX7_readLine_146 (by decide) (fun c118 => ?_) (fun c118 => ?_)
                      · replace h := it_f c118 h
                        refine jg_aload_n dX7_readLine_151 rfl ?_
                        refine cs_get (s := x117.2) (w := .ref (o + 5)) fl_X7_22 dX7_readLine_152 (hO.ob 2 (by decide) rfl) rfl ?_
                        refine jg_aload_n dX7_readLine_155 rfl ?_
                        refine cs_get (s := x117.2) (w := .int (x117.2.1 (o + 2) 8)) fl_X7_50 dX7_readLine_156 (hO.ob 2 (by decide) rfl) rfl ?_
                        refine jg_iload_n dX7_readLine_159 rfl ?_
                        obtain ⟨q119, h⟩ := gd_some h
                        refine cs_sta (s := x117.2) (q := (o + 5)) (i := (x117.2.1 (o + 2) 8)) (x := (x1 - (nI 200))) dX7_readLine_160 (hO.ar 5 (by decide) rfl) q119 ?_
                        refine jg_aload_n dX7_readLine_161 rfl ?_
                        refine cs_get (s := (ca x117.2 (o + 5) (x117.2.1 (o + 2) 8) (x1 - (nI 200)))) (w := .ref (o + 6)) fl_X7_25 dX7_readLine_162 (hO.ob 2 (by decide) rfl) rfl ?_
                        refine jg_aload_n dX7_readLine_165 rfl ?_
                        refine cs_get (s := (ca x117.2 (o + 5) (x117.2.1 (o + 2) 8) (x1 - (nI 200)))) (w := .int ((ca x117.2 (o + 5) (x117.2.1 (o + 2) 8) (x1 - (nI 200))).1 (o + 2) 8)) fl_X7_50 dX7_readLine_166 (hO.ob 2 (by decide) rfl) rfl ?_
                        refine jg_iload_n dX7_readLine_169 rfl ?_
                        obtain ⟨q120, h⟩ := gd_some h
                        refine cs_sta (s := (ca x117.2 (o + 5) (x117.2.1 (o + 2) 8) (x1 - (nI 200)))) (q := (o + 6)) (i := ((ca x117.2 (o + 5) (x117.2.1 (o + 2) 8) (x1 - (nI 200))).1 (o + 2) 8)) (x := x76) dX7_readLine_170 (hO.ar 6 (by decide) rfl) q120 ?_
                        obtain ⟨x121, e_x121, h⟩ := bd_some h
                        refine cs_sub (Option.some.inj e_x121) ?_
                        refine jg_aload_n dX7_readLine_171 rfl ?_
                        refine cs_get (s := x121) (w := .ref (o + 7)) fl_X7_28 dX7_readLine_172 (hO.ob 2 (by decide) rfl) rfl ?_
                        refine jg_aload_n dX7_readLine_175 rfl ?_
                        refine cs_get (s := x121) (w := .int (x121.1 (o + 2) 8)) fl_X7_50 dX7_readLine_176 (hO.ob 2 (by decide) rfl) rfl ?_
                        refine jg_aload_n dX7_readLine_179 rfl ?_
                        refine cs_get (s := x121) (w := .int (x121.1 (o + 2) 11)) fl_X7_53 dX7_readLine_180 (hO.ob 2 (by decide) rfl) rfl ?_
                        obtain ⟨q122, h⟩ := gd_some h
                        refine cs_sta (s := x121) (q := (o + 7)) (i := (x121.1 (o + 2) 8)) (x := (x121.1 (o + 2) 11)) dX7_readLine_183 (hO.ar 7 (by decide) rfl) q122 ?_
                        refine jg_aload_n dX7_readLine_184 rfl ?_
                        refine jg_dup dX7_readLine_185 rfl ?_
                        refine cs_get (s := (ca x121 (o + 7) (x121.1 (o + 2) 8) (x121.1 (o + 2) 11))) (w := .int ((ca x121 (o + 7) (x121.1 (o + 2) 8) (x121.1 (o + 2) 11)).1 (o + 2) 8)) fl_X7_50 dX7_readLine_186 (hO.ob 2 (by decide) rfl) rfl ?_
                        refine jg_iconst (v := nI 1) dX7_readLine_189 (by decide) ?_
                        refine jg_iadd (x := ((ca x121 (o + 7) (x121.1 (o + 2) 8) (x121.1 (o + 2) 11)).1 (o + 2) 8)) (y := (nI 1)) dX7_readLine_190  ?_
                        refine cs_put (s := (ca x121 (o + 7) (x121.1 (o + 2) 8) (x121.1 (o + 2) 11))) (k := 8) (x := (((ca x121 (o + 7) (x121.1 (o + 2) 8) (x121.1 (o + 2) 11)).1 (o + 2) 8) + (nI 1))) fl_X7_50 dX7_readLine_191 (hO.ob 2 (by decide) rfl) (ltb rfl) (rfl) rfl rfl ?_
                        obtain ⟨x123, e_x123, h⟩ := bd_some h
                        refine cs_sub (Option.some.inj e_x123) ?_
                        refine jg_iconst (v := nI 1) dX7_readLine_194 (by decide) ?_
                        obtain rfl := Option.some.inj h
                        exact jg_zreturn dX7_readLine_195 rfl (rfl) ⟨rfl, rfl⟩
                      · replace h := it_t c118 h
                        refine jg_iconst (v := nI 0) dX7_readLine_149 (by decide) ?_
                        obtain rfl := Option.some.inj h
                        exact jg_zreturn dX7_readLine_150 rfl (rfl) ⟨rfl, rfl⟩
                · replace h := it_t c103 h
                  refine jg_iinc (x := x76) (v := x76 + nI 4) (L' := [some (.ref (o + 2)), some (.int (x1 - (nI 200))), some (.int (x76 + nI 4))]) dX7_readLine_103 rfl (ic_k _ (by decide)) (by decide) rfl ?_
                  refine jg_aload_n dX7_readLine_106 rfl ?_
                  refine jg_dup dX7_readLine_107 rfl ?_
                  refine cs_get (s := x80) (w := .int (x80.1 (o + 2) 4)) fl_X7_47 dX7_readLine_108 (hO.ob 2 (by decide) rfl) rfl ?_
                  refine jg_iconst (v := nI 1) dX7_readLine_111 (by decide) ?_
                  refine jg_iadd (x := (x80.1 (o + 2) 4)) (y := (nI 1)) dX7_readLine_112  ?_
                  refine cs_put (s := x80) (k := 4) (x := ((x80.1 (o + 2) 4) + (nI 1))) fl_X7_47 dX7_readLine_113 (hO.ob 2 (by decide) rfl) (ltb rfl) (rfl) rfl rfl ?_
                  refine jg_iload_n dX7_readLine_116 rfl ?_
                  refine jg_iconst (v := nI 3) dX7_readLine_117 (by decide) ?_
                  refine jg_icmp_gt (x := (x1 - (nI 200))) (y := (nI 3)) (tgt := 151) dX7_readLine_118 (by decide) (fun c124 => ?_) (fun c124 => ?_)
                  · replace h := it_t c124 h
                    refine jg_aload_n dX7_readLine_151 rfl ?_
                    refine cs_get (s := (cp x80 (o + 2) 4 ((x80.1 (o + 2) 4) + (nI 1)))) (w := .ref (o + 5)) fl_X7_22 dX7_readLine_152 (hO.ob 2 (by decide) rfl) rfl ?_
                    refine jg_aload_n dX7_readLine_155 rfl ?_
                    refine cs_get (s := (cp x80 (o + 2) 4 ((x80.1 (o + 2) 4) + (nI 1)))) (w := .int ((cp x80 (o + 2) 4 ((x80.1 (o + 2) 4) + (nI 1))).1 (o + 2) 8)) fl_X7_50 dX7_readLine_156 (hO.ob 2 (by decide) rfl) rfl ?_
                    refine jg_iload_n dX7_readLine_159 rfl ?_
                    obtain ⟨q125, h⟩ := gd_some h
                    refine cs_sta (s := (cp x80 (o + 2) 4 ((x80.1 (o + 2) 4) + (nI 1)))) (q := (o + 5)) (i := ((cp x80 (o + 2) 4 ((x80.1 (o + 2) 4) + (nI 1))).1 (o + 2) 8)) (x := (x1 - (nI 200))) dX7_readLine_160 (hO.ar 5 (by decide) rfl) q125 ?_
                    obtain ⟨x126, e_x126, h⟩ := bd_some h
                    refine cs_sub (Option.some.inj e_x126) ?_
                    refine jg_aload_n dX7_readLine_161 rfl ?_
                    refine cs_get (s := x126) (w := .ref (o + 6)) fl_X7_25 dX7_readLine_162 (hO.ob 2 (by decide) rfl) rfl ?_
                    refine jg_aload_n dX7_readLine_165 rfl ?_
                    refine cs_get (s := x126) (w := .int (x126.1 (o + 2) 8)) fl_X7_50 dX7_readLine_166 (hO.ob 2 (by decide) rfl) rfl ?_
                    refine jg_iload_n dX7_readLine_169 rfl ?_
                    obtain ⟨q127, h⟩ := gd_some h
                    refine cs_sta (s := x126) (q := (o + 6)) (i := (x126.1 (o + 2) 8)) (x := (x76 + nI 4)) dX7_readLine_170 (hO.ar 6 (by decide) rfl) q127 ?_
                    refine jg_aload_n dX7_readLine_171 rfl ?_
                    refine cs_get (s := (ca x126 (o + 6) (x126.1 (o + 2) 8) (x76 + nI 4))) (w := .ref (o + 7)) fl_X7_28 dX7_readLine_172 (hO.ob 2 (by decide) rfl) rfl ?_
                    refine jg_aload_n dX7_readLine_175 rfl ?_
                    refine cs_get (s := (ca x126 (o + 6) (x126.1 (o + 2) 8) (x76 + nI 4))) (w := .int ((ca x126 (o + 6) (x126.1 (o + 2) 8) (x76 + nI 4)).1 (o + 2) 8)) fl_X7_50 dX7_readLine_176 (hO.ob 2 (by decide) rfl) rfl ?_
                    refine jg_aload_n dX7_readLine_179 rfl ?_
                    refine cs_get (s := (ca x126 (o + 6) (x126.1 (o + 2) 8) (x76 + nI 4))) (w := .int ((ca x126 (o + 6) (x126.1 (o + 2) 8) (x76 + nI 4)).1 (o + 2) 11)) fl_X7_53 dX7_readLine_180 (hO.ob 2 (by decide) rfl) rfl ?_
                    obtain ⟨q128, h⟩ := gd_some h
                    refine cs_sta (s := (ca x126 (o + 6) (x126.1 (o + 2) 8) (x76 + nI 4))) (q := (o + 7)) (i := ((ca x126 (o + 6) (x126.1 (o + 2) 8) (x76 + nI 4)).1 (o + 2) 8)) (x := ((ca x126 (o + 6) (x126.1 (o + 2) 8) (x76 + nI 4)).1 (o + 2) 11)) dX7_readLine_183 (hO.ar 7 (by decide) rfl) q128 ?_
                    obtain ⟨x129, e_x129, h⟩ := bd_some h
                    refine cs_sub (Option.some.inj e_x129) ?_
                    refine jg_aload_n dX7_readLine_184 rfl ?_
                    refine jg_dup dX7_readLine_185 rfl ?_
                    refine cs_get (s := x129) (w := .int (x129.1 (o + 2) 8)) fl_X7_50 dX7_readLine_186 (hO.ob 2 (by decide) rfl) rfl ?_
                    refine jg_iconst (v := nI 1) dX7_readLine_189 (by decide) ?_
                    refine jg_iadd (x := (x129.1 (o + 2) 8)) (y := (nI 1)) dX7_readLine_190  ?_
                    refine cs_put (s := x129) (k := 8) (x := ((x129.1 (o + 2) 8) + (nI 1))) fl_X7_50 dX7_readLine_191 (hO.ob 2 (by decide) rfl) (ltb rfl) (rfl) rfl rfl ?_
                    refine jg_iconst (v := nI 1) dX7_readLine_194 (by decide) ?_
                    obtain rfl := Option.some.inj h
                    exact jg_zreturn dX7_readLine_195 rfl (rfl) ⟨rfl, rfl⟩
                  · replace h := it_f c124 h
                    refine jg_aload_n dX7_readLine_121 rfl ?_
                    obtain ⟨x130, e_x130, h⟩ := bd_some h
                    refine cs_call (q := (o + 2)) (As := []) kv_X7_56 dX7_readLine_122 (hO.ob 2 (by decide) rfl) rfl rfl (by decide) (Nat.le_of_ble_eq_true rfl) rfl (by decide) (Nat.le_of_ble_eq_true rfl) (t_X7_thing τ n o (cp x80 (o + 2) 4 ((x80.1 (o + 2) 4) + (nI 1))) hO e_x130) ?_
                    refine jg_sipush (v := nI 402) dX7_readLine_125 (by decide) ?_
                    refine jg_icmp_ne (x := x130) (y := (nI 402)) (tgt := 151) dX7_readLine_128 (by decide) (fun c131 => ?_) (fun c131 => ?_)
                    · replace h := it_f c131 h
                      refine jg_aload_n dX7_readLine_151 rfl ?_
                      refine cs_get (s := (cp x80 (o + 2) 4 ((x80.1 (o + 2) 4) + (nI 1)))) (w := .ref (o + 5)) fl_X7_22 dX7_readLine_152 (hO.ob 2 (by decide) rfl) rfl ?_
                      refine jg_aload_n dX7_readLine_155 rfl ?_
                      refine cs_get (s := (cp x80 (o + 2) 4 ((x80.1 (o + 2) 4) + (nI 1)))) (w := .int ((cp x80 (o + 2) 4 ((x80.1 (o + 2) 4) + (nI 1))).1 (o + 2) 8)) fl_X7_50 dX7_readLine_156 (hO.ob 2 (by decide) rfl) rfl ?_
                      refine jg_iload_n dX7_readLine_159 rfl ?_
                      obtain ⟨q132, h⟩ := gd_some h
                      refine cs_sta (s := (cp x80 (o + 2) 4 ((x80.1 (o + 2) 4) + (nI 1)))) (q := (o + 5)) (i := ((cp x80 (o + 2) 4 ((x80.1 (o + 2) 4) + (nI 1))).1 (o + 2) 8)) (x := (x1 - (nI 200))) dX7_readLine_160 (hO.ar 5 (by decide) rfl) q132 ?_
                      obtain ⟨x133, e_x133, h⟩ := bd_some h
                      refine cs_sub (Option.some.inj e_x133) ?_
                      refine jg_aload_n dX7_readLine_161 rfl ?_
                      refine cs_get (s := x133) (w := .ref (o + 6)) fl_X7_25 dX7_readLine_162 (hO.ob 2 (by decide) rfl) rfl ?_
                      refine jg_aload_n dX7_readLine_165 rfl ?_
                      refine cs_get (s := x133) (w := .int (x133.1 (o + 2) 8)) fl_X7_50 dX7_readLine_166 (hO.ob 2 (by decide) rfl) rfl ?_
                      refine jg_iload_n dX7_readLine_169 rfl ?_
                      obtain ⟨q134, h⟩ := gd_some h
                      refine cs_sta (s := x133) (q := (o + 6)) (i := (x133.1 (o + 2) 8)) (x := (x76 + nI 4)) dX7_readLine_170 (hO.ar 6 (by decide) rfl) q134 ?_
                      refine jg_aload_n dX7_readLine_171 rfl ?_
                      refine cs_get (s := (ca x133 (o + 6) (x133.1 (o + 2) 8) (x76 + nI 4))) (w := .ref (o + 7)) fl_X7_28 dX7_readLine_172 (hO.ob 2 (by decide) rfl) rfl ?_
                      refine jg_aload_n dX7_readLine_175 rfl ?_
                      refine cs_get (s := (ca x133 (o + 6) (x133.1 (o + 2) 8) (x76 + nI 4))) (w := .int ((ca x133 (o + 6) (x133.1 (o + 2) 8) (x76 + nI 4)).1 (o + 2) 8)) fl_X7_50 dX7_readLine_176 (hO.ob 2 (by decide) rfl) rfl ?_
                      refine jg_aload_n dX7_readLine_179 rfl ?_
                      refine cs_get (s := (ca x133 (o + 6) (x133.1 (o + 2) 8) (x76 + nI 4))) (w := .int ((ca x133 (o + 6) (x133.1 (o + 2) 8) (x76 + nI 4)).1 (o + 2) 11)) fl_X7_53 dX7_readLine_180 (hO.ob 2 (by decide) rfl) rfl ?_
                      obtain ⟨q135, h⟩ := gd_some h
                      refine cs_sta (s := (ca x133 (o + 6) (x133.1 (o + 2) 8) (x76 + nI 4))) (q := (o + 7)) (i := ((ca x133 (o + 6) (x133.1 (o + 2) 8) (x76 + nI 4)).1 (o + 2) 8)) (x := ((ca x133 (o + 6) (x133.1 (o + 2) 8) (x76 + nI 4)).1 (o + 2) 11)) dX7_readLine_183 (hO.ar 7 (by decide) rfl) q135 ?_
                      obtain ⟨x136, e_x136, h⟩ := bd_some h
                      refine cs_sub (Option.some.inj e_x136) ?_
                      refine jg_aload_n dX7_readLine_184 rfl ?_
                      refine jg_dup dX7_readLine_185 rfl ?_
                      refine cs_get (s := x136) (w := .int (x136.1 (o + 2) 8)) fl_X7_50 dX7_readLine_186 (hO.ob 2 (by decide) rfl) rfl ?_
                      refine jg_iconst (v := nI 1) dX7_readLine_189 (by decide) ?_
                      refine jg_iadd (x := (x136.1 (o + 2) 8)) (y := (nI 1)) dX7_readLine_190  ?_
                      refine cs_put (s := x136) (k := 8) (x := ((x136.1 (o + 2) 8) + (nI 1))) fl_X7_50 dX7_readLine_191 (hO.ob 2 (by decide) rfl) (ltb rfl) (rfl) rfl rfl ?_
                      refine jg_iconst (v := nI 1) dX7_readLine_194 (by decide) ?_
                      obtain rfl := Option.some.inj h
                      exact jg_zreturn dX7_readLine_195 rfl (rfl) ⟨rfl, rfl⟩
                    · replace h := it_t c131 h
                      refine jg_aload_n dX7_readLine_131 rfl ?_
                      refine jg_dup dX7_readLine_132 rfl ?_
                      refine cs_get (s := (cp x80 (o + 2) 4 ((x80.1 (o + 2) 4) + (nI 1)))) (w := .int ((cp x80 (o + 2) 4 ((x80.1 (o + 2) 4) + (nI 1))).1 (o + 2) 4)) fl_X7_47 dX7_readLine_133 (hO.ob 2 (by decide) rfl) rfl ?_
                      refine jg_iconst (v := nI 1) dX7_readLine_136 (by decide) ?_
                      refine jg_iadd (x := ((cp x80 (o + 2) 4 ((x80.1 (o + 2) 4) + (nI 1))).1 (o + 2) 4)) (y := (nI 1)) dX7_readLine_137  ?_
                      refine cs_put (s := (cp x80 (o + 2) 4 ((x80.1 (o + 2) 4) + (nI 1)))) (k := 4) (x := (((cp x80 (o + 2) 4 ((x80.1 (o + 2) 4) + (nI 1))).1 (o + 2) 4) + (nI 1))) fl_X7_47 dX7_readLine_138 (hO.ob 2 (by decide) rfl) (ltb rfl) (rfl) rfl rfl ?_
                      obtain ⟨x137, e_x137, h⟩ := bd_some h
                      refine cs_sub (Option.some.inj e_x137) ?_
                      refine jg_aload_n dX7_readLine_141 rfl ?_
                      refine jg_iconst (v := nI 0) dX7_readLine_142 (by decide) ?_
                      obtain ⟨x138, e_x138, h⟩ := bd_some h
                      refine cs_call (q := (o + 2)) (As := [.int (nI 0)]) kv_X7_129 dX7_readLine_143 (hO.ob 2 (by decide) rfl) rfl rfl (by decide) (Nat.le_of_ble_eq_true rfl) rfl (by decide) (Nat.le_of_ble_eq_true rfl) (t_crY F τ n o x137 (nI 0) hO e_x138) ?_
                      refine jg_if_ne (x := x138.1) (tgt := 151) dX7_readLine_146 (by decide) (fun c139 => ?_) (fun c139 => ?_)
                      · replace h := it_f c139 h
                        refine jg_aload_n dX7_readLine_151 rfl ?_
                        refine cs_get (s := x138.2) (w := .ref (o + 5)) fl_X7_22 dX7_readLine_152 (hO.ob 2 (by decide) rfl) rfl ?_
                        refine jg_aload_n dX7_readLine_155 rfl ?_
                        refine cs_get (s := x138.2) (w := .int (x138.2.1 (o + 2) 8)) fl_X7_50 dX7_readLine_156 (hO.ob 2 (by decide) rfl) rfl ?_
                        refine jg_iload_n dX7_readLine_159 rfl ?_
                        obtain ⟨q140, h⟩ := gd_some h
                        refine cs_sta (s := x138.2) (q := (o + 5)) (i := (x138.2.1 (o + 2) 8)) (x := (x1 - (nI 200))) dX7_readLine_160 (hO.ar 5 (by decide) rfl) q140 ?_
                        refine jg_aload_n dX7_readLine_161 rfl ?_
                        refine cs_get (s := (ca x138.2 (o + 5) (x138.2.1 (o + 2) 8) (x1 - (nI 200)))) (w := .ref (o + 6)) fl_X7_25 dX7_readLine_162 (hO.ob 2 (by decide) rfl) rfl ?_
                        refine jg_aload_n dX7_readLine_165 rfl ?_
                        refine cs_get (s := (ca x138.2 (o + 5) (x138.2.1 (o + 2) 8) (x1 - (nI 200)))) (w := .int ((ca x138.2 (o + 5) (x138.2.1 (o + 2) 8) (x1 - (nI 200))).1 (o + 2) 8)) fl_X7_50 dX7_readLine_166 (hO.ob 2 (by decide) rfl) rfl ?_
                        refine jg_iload_n dX7_readLine_169 rfl ?_
                        obtain ⟨q141, h⟩ := gd_some h
                        refine cs_sta (s := (ca x138.2 (o + 5) (x138.2.1 (o + 2) 8) (x1 - (nI 200)))) (q := (o + 6)) (i := ((ca x138.2 (o + 5) (x138.2.1 (o + 2) 8) (x1 - (nI 200))).1 (o + 2) 8)) (x := (x76 + nI 4)) dX7_readLine_170 (hO.ar 6 (by decide) rfl) q141 ?_
                        obtain ⟨x142, e_x142, h⟩ := bd_some h
                        refine cs_sub (Option.some.inj e_x142) ?_
                        refine jg_aload_n dX7_readLine_171 rfl ?_
                        refine cs_get (s := x142) (w := .ref (o + 7)) fl_X7_28 dX7_readLine_172 (hO.ob 2 (by decide) rfl) rfl ?_
                        refine jg_aload_n dX7_readLine_175 rfl ?_
                        refine cs_get (s := x142) (w := .int (x142.1 (o + 2) 8)) fl_X7_50 dX7_readLine_176 (hO.ob 2 (by decide) rfl) rfl ?_
                        refine jg_aload_n dX7_readLine_179 rfl ?_
                        refine cs_get (s := x142) (w := .int (x142.1 (o + 2) 11)) fl_X7_53 dX7_readLine_180 (hO.ob 2 (by decide) rfl) rfl ?_
                        obtain ⟨q143, h⟩ := gd_some h
                        refine cs_sta (s := x142) (q := (o + 7)) (i := (x142.1 (o + 2) 8)) (x := (x142.1 (o + 2) 11)) dX7_readLine_183 (hO.ar 7 (by decide) rfl) q143 ?_
                        refine jg_aload_n dX7_readLine_184 rfl ?_
                        refine jg_dup dX7_readLine_185 rfl ?_
                        refine cs_get (s := (ca x142 (o + 7) (x142.1 (o + 2) 8) (x142.1 (o + 2) 11))) (w := .int ((ca x142 (o + 7) (x142.1 (o + 2) 8) (x142.1 (o + 2) 11)).1 (o + 2) 8)) fl_X7_50 dX7_readLine_186 (hO.ob 2 (by decide) rfl) rfl ?_
                        refine jg_iconst (v := nI 1) dX7_readLine_189 (by decide) ?_
                        refine jg_iadd (x := ((ca x142 (o + 7) (x142.1 (o + 2) 8) (x142.1 (o + 2) 11)).1 (o + 2) 8)) (y := (nI 1)) dX7_readLine_190  ?_
                        refine cs_put (s := (ca x142 (o + 7) (x142.1 (o + 2) 8) (x142.1 (o + 2) 11))) (k := 8) (x := (((ca x142 (o + 7) (x142.1 (o + 2) 8) (x142.1 (o + 2) 11)).1 (o + 2) 8) + (nI 1))) fl_X7_50 dX7_readLine_191 (hO.ob 2 (by decide) rfl) (ltb rfl) (rfl) rfl rfl ?_
                        obtain ⟨x144, e_x144, h⟩ := bd_some h
                        refine cs_sub (Option.some.inj e_x144) ?_
                        refine jg_iconst (v := nI 1) dX7_readLine_194 (by decide) ?_
                        obtain rfl := Option.some.inj h
                        exact jg_zreturn dX7_readLine_195 rfl (rfl) ⟨rfl, rfl⟩
                      · replace h := it_t c139 h
                        refine jg_iconst (v := nI 0) dX7_readLine_149 (by decide) ?_
                        obtain rfl := Option.some.inj h
                        exact jg_zreturn dX7_readLine_150 rfl (rfl) ⟨rfl, rfl⟩
            · replace h := it_f c79 h
              refine jg_iconst (v := nI 0) dX7_readLine_76 (by decide) ?_
              obtain rfl := Option.some.inj h
              exact jg_zreturn dX7_readLine_77 rfl (rfl) ⟨rfl, rfl⟩
      · replace h := it_f c4 h
        refine jg_iconst (v := nI 0) dX7_readLine_28 (by decide) ?_
        obtain rfl := Option.some.inj h
        exact jg_zreturn dX7_readLine_29 rfl (rfl) ⟨rfl, rfl⟩
theorem dX4_layOn_0 : decode cX4_layOn 0 = .ok (.aload_n 0, 1) := by decide +kernel
theorem dX4_layOn_1 : decode cX4_layOn 1 = .ok (.getfield 38, 3) := by decide +kernel
theorem dX4_layOn_4 : decode cX4_layOn 4 = .ok (.iload_n 2, 1) := by decide +kernel
theorem dX4_layOn_5 : decode cX4_layOn 5 = .ok (.aload_n 0, 1) := by decide +kernel
theorem dX4_layOn_6 : decode cX4_layOn 6 = .ok (.getfield 38, 3) := by decide +kernel
theorem dX4_layOn_9 : decode cX4_layOn 9 = .ok (.iload_n 2, 1) := by decide +kernel
theorem dX4_layOn_10 : decode cX4_layOn 10 = .ok (.iaload, 1) := by decide +kernel
theorem dX4_layOn_11 : decode cX4_layOn 11 = .ok (.iload 4, 2) := by decide +kernel
theorem dX4_layOn_13 : decode cX4_layOn 13 = .ok (.invokestatic 102, 3) := by decide +kernel
theorem dX4_layOn_16 : decode cX4_layOn 16 = .ok (.iastore, 1) := by decide +kernel
theorem dX4_layOn_17 : decode cX4_layOn 17 = .ok (.iconst 0, 1) := by decide +kernel
theorem dX4_layOn_18 : decode cX4_layOn 18 = .ok (.istore 5, 2) := by decide +kernel
theorem dX4_layOn_20 : decode cX4_layOn 20 = .ok (.iload 5, 2) := by decide +kernel
theorem dX4_layOn_22 : decode cX4_layOn 22 = .ok (.aload_n 0, 1) := by decide +kernel
theorem dX4_layOn_23 : decode cX4_layOn 23 = .ok (.getfield 62, 3) := by decide +kernel
theorem dX4_layOn_26 : decode cX4_layOn 26 = .ok (.if_icmp .ge 75, 3) := by decide +kernel
theorem dX4_layOn_29 : decode cX4_layOn 29 = .ok (.iload_n 2, 1) := by decide +kernel
theorem dX4_layOn_30 : decode cX4_layOn 30 = .ok (.iload 5, 2) := by decide +kernel
theorem dX4_layOn_32 : decode cX4_layOn 32 = .ok (.ishr, 1) := by decide +kernel
theorem dX4_layOn_33 : decode cX4_layOn 33 = .ok (.iconst 1, 1) := by decide +kernel
theorem dX4_layOn_34 : decode cX4_layOn 34 = .ok (.iand, 1) := by decide +kernel
theorem dX4_layOn_35 : decode cX4_layOn 35 = .ok (.ifCond .ne 60, 3) := by decide +kernel
theorem dX4_layOn_38 : decode cX4_layOn 38 = .ok (.aload_n 0, 1) := by decide +kernel
theorem dX4_layOn_39 : decode cX4_layOn 39 = .ok (.getfield 35, 3) := by decide +kernel
theorem dX4_layOn_42 : decode cX4_layOn 42 = .ok (.iload 5, 2) := by decide +kernel
theorem dX4_layOn_44 : decode cX4_layOn 44 = .ok (.iaload, 1) := by decide +kernel
theorem dX4_layOn_45 : decode cX4_layOn 45 = .ok (.ifCond .le 50, 3) := by decide +kernel
theorem dX4_layOn_48 : decode cX4_layOn 48 = .ok (.aload_n 0, 1) := by decide +kernel
theorem dX4_layOn_49 : decode cX4_layOn 49 = .ok (.iload_n 1, 1) := by decide +kernel
theorem dX4_layOn_50 : decode cX4_layOn 50 = .ok (.aload_n 0, 1) := by decide +kernel
theorem dX4_layOn_51 : decode cX4_layOn 51 = .ok (.getfield 21, 3) := by decide +kernel
theorem dX4_layOn_54 : decode cX4_layOn 54 = .ok (.iload 5, 2) := by decide +kernel
theorem dX4_layOn_56 : decode cX4_layOn 56 = .ok (.iaload, 1) := by decide +kernel
theorem dX4_layOn_57 : decode cX4_layOn 57 = .ok (.iload_n 3, 1) := by decide +kernel
theorem dX4_layOn_58 : decode cX4_layOn 58 = .ok (.invokevirtual 107, 3) := by decide +kernel
theorem dX4_layOn_61 : decode cX4_layOn 61 = .ok (.istore 6, 2) := by decide +kernel
theorem dX4_layOn_63 : decode cX4_layOn 63 = .ok (.iload 6, 2) := by decide +kernel
theorem dX4_layOn_65 : decode cX4_layOn 65 = .ok (.iconst (-1), 1) := by decide +kernel
theorem dX4_layOn_66 : decode cX4_layOn 66 = .ok (.if_icmp .eq 29, 3) := by decide +kernel
theorem dX4_layOn_69 : decode cX4_layOn 69 = .ok (.aload_n 0, 1) := by decide +kernel
theorem dX4_layOn_70 : decode cX4_layOn 70 = .ok (.iload_n 1, 1) := by decide +kernel
theorem dX4_layOn_71 : decode cX4_layOn 71 = .ok (.iload_n 2, 1) := by decide +kernel
theorem dX4_layOn_72 : decode cX4_layOn 72 = .ok (.iconst 1, 1) := by decide +kernel
theorem dX4_layOn_73 : decode cX4_layOn 73 = .ok (.iload 5, 2) := by decide +kernel
theorem dX4_layOn_75 : decode cX4_layOn 75 = .ok (.ishl, 1) := by decide +kernel
theorem dX4_layOn_76 : decode cX4_layOn 76 = .ok (.ior, 1) := by decide +kernel
theorem dX4_layOn_77 : decode cX4_layOn 77 = .ok (.iload 6, 2) := by decide +kernel
theorem dX4_layOn_79 : decode cX4_layOn 79 = .ok (.aload_n 0, 1) := by decide +kernel
theorem dX4_layOn_80 : decode cX4_layOn 80 = .ok (.getfield 35, 3) := by decide +kernel
theorem dX4_layOn_83 : decode cX4_layOn 83 = .ok (.iload 5, 2) := by decide +kernel
theorem dX4_layOn_85 : decode cX4_layOn 85 = .ok (.iaload, 1) := by decide +kernel
theorem dX4_layOn_86 : decode cX4_layOn 86 = .ok (.iadd, 1) := by decide +kernel
theorem dX4_layOn_87 : decode cX4_layOn 87 = .ok (.iload 4, 2) := by decide +kernel
theorem dX4_layOn_89 : decode cX4_layOn 89 = .ok (.iload 6, 2) := by decide +kernel
theorem dX4_layOn_91 : decode cX4_layOn 91 = .ok (.iadd, 1) := by decide +kernel
theorem dX4_layOn_92 : decode cX4_layOn 92 = .ok (.invokevirtual 94, 3) := by decide +kernel
theorem dX4_layOn_95 : decode cX4_layOn 95 = .ok (.iinc 5 1, 3) := by decide +kernel
theorem dX4_layOn_98 : decode cX4_layOn 98 = .ok (.goto (-78), 3) := by decide +kernel
theorem dX4_layOn_101 : decode cX4_layOn 101 = .ok (.return_, 1) := by decide +kernel
noncomputable def o_X4_layOn_20 (F : Nat) (τ : cT) (n : Nat) (b : Nat) (rL : cS → Int32 → Int32 → Int32 → Int32 → Option cS) (l1 : Int32) (l2 : Int32) (l3 : Int32) (l4 : Int32)  : Nat → Int32 → cS → Option (cS)
  | 0, _, _ => none
  | f + 1, l5, s => if (s.1 (b + 131) 7) ≤ l5 then (some s) else (if ((l2 >>> (l5 &&& 31)) &&& (nI 1)) = 0 then (if iL l5 4 then (if (cg s (b + 164) l5) ≤ 0 then (o_X4_layOn_20 F τ n b rL l1 l2 l3 l4 f (l5 + nI 1) s) else ((o_X4_firstBegin F τ n b s l1 (cg s (b + 135) l5) l3).bind fun x6 => (if x6 = (-1) then (o_X4_layOn_20 F τ n b rL l1 l2 l3 l4 f (l5 + nI 1) s) else ((rL s l1 (l2 ||| ((nI 1) <<< (l5 &&& 31))) (x6 + (cg s (b + 164) l5)) (l4 + x6)).bind fun x8 => (o_X4_layOn_20 F τ n b rL l1 l2 l3 l4 f (l5 + nI 1) x8))))) else none) else (o_X4_layOn_20 F τ n b rL l1 l2 l3 l4 f (l5 + nI 1) s))
set_option maxHeartbeats 4000000 in
theorem t_X4_layOn_20 {Γ : jg_G} {g : Nat → jg_C} (F : Nat) (τ : cT) (n : Nat) (b : Nat) (rL : cS → Int32 → Int32 → Int32 → Int32 → Option cS) (l1 : Int32) (l2 : Int32) (l3 : Int32) (l4 : Int32)  (hB : Bd τ n b) (dL : Nat) (h9 : 9 ≤ dL) (hL : ∀ s a1 a2 a3 a4 x, rL s a1 a2 a3 a4 = some x → jc Γ mX4_layOn dL 0 0 [some (.ref (b + 131)), some (.int a1), some (.int a2), some (.int a3), some (.int a4), none, none] (ct_h g τ s, n) (.inl none) (ct_h g τ x, n)) (Q : jg_Q) {x : cS} (K1 : jg Γ mX4_layOn (dL + 1) 0 0 101 [none, none, none, none, none, none, none] [] (ct_h g τ x, n) Q)  : ∀ (f : Nat) (l5 : Int32) (s : cS), o_X4_layOn_20 F τ n b rL l1 l2 l3 l4 f l5 s = some x → jg Γ mX4_layOn (dL + 1) 0 0 20 [some (.ref (b + 131)), some (.int l1), some (.int l2), some (.int l3), some (.int l4), some (.int l5), none] [] (ct_h g τ s, n) Q := by
  intro f
  induction f with
  | zero => intro l5 s h; rw [o_X4_layOn_20] at h; cases h
  | succ f ih =>
   intro l5 s h
   rw [o_X4_layOn_20] at h
   refine jg_iload dX4_layOn_20 rfl ?_
   refine jg_aload_n dX4_layOn_22 rfl ?_
   refine cs_get (s := s) (w := .int (s.1 (b + 131) 7)) fl_X4_62 dX4_layOn_23 (hB.ob 131 (by decide) rfl) rfl ?_
   refine jg_icmp_ge (x := l5) (y := (s.1 (b + 131) 7)) (tgt := 101) dX4_layOn_26 (by decide) (fun c2 => ?_) (fun c2 => ?_)
   · replace h := it_t c2 h
     refine jg_fg (L' := [none, none, none, none, none, none, none]) (by repeat (first | exact trivial | refine ⟨rfl, ?_⟩ | show jg_le _ _)) ?_
     obtain rfl := Option.some.inj h
     exact K1
   · replace h := it_f c2 h
     refine jg_iload_n dX4_layOn_29 rfl ?_
     refine jg_iload dX4_layOn_30 rfl ?_
     refine jg_ishr (x := l2) (y := l5) dX4_layOn_32  ?_
     refine jg_iconst (v := nI 1) dX4_layOn_33 (by decide) ?_
     refine jg_iand (x := (l2 >>> (l5 &&& 31))) (y := (nI 1)) dX4_layOn_34  ?_
     refine jg_if_ne (x := ((l2 >>> (l5 &&& 31)) &&& (nI 1))) (tgt := 95) dX4_layOn_35 (by decide) (fun c3 => ?_) (fun c3 => ?_)
     · replace h := it_f c3 h
       refine jg_iinc (x := l5) (v := l5 + nI 1) (L' := [some (.ref (b + 131)), some (.int l1), some (.int l2), some (.int l3), some (.int l4), some (.int (l5 + nI 1)), none]) dX4_layOn_95 rfl (ic_k _ (by decide)) (by decide) rfl ?_
       refine jg_goto (tgt := 20) dX4_layOn_98 (by decide) ?_
       refine jg_fg (L' := [some (.ref (b + 131)), some (.int l1), some (.int l2), some (.int l3), some (.int l4), some (.int (l5 + nI 1)), none]) (by repeat (first | exact trivial | refine ⟨rfl, ?_⟩ | show jg_le _ _)) ?_
       exact ih (l5 + nI 1) s h
     · replace h := it_t c3 h
       refine jg_aload_n dX4_layOn_38 rfl ?_
       refine cs_get (s := s) (w := .ref (b + 164)) fl_X4_35 dX4_layOn_39 (hB.ob 131 (by decide) rfl) rfl ?_
       refine jg_iload dX4_layOn_42 rfl ?_
       obtain ⟨q4, h⟩ := gd_some h
       refine cs_lda (s := s) (q := (b + 164)) (i := l5) dX4_layOn_44 (hB.ar 164 (by decide) rfl) q4 ?_
       refine jg_if_le (x := (cg s (b + 164) l5)) (tgt := 95) dX4_layOn_45 (by decide) (fun c5 => ?_) (fun c5 => ?_)
       · replace h := it_t c5 h
         refine jg_iinc (x := l5) (v := l5 + nI 1) (L' := [some (.ref (b + 131)), some (.int l1), some (.int l2), some (.int l3), some (.int l4), some (.int (l5 + nI 1)), none]) dX4_layOn_95 rfl (ic_k _ (by decide)) (by decide) rfl ?_
         refine jg_goto (tgt := 20) dX4_layOn_98 (by decide) ?_
         refine jg_fg (L' := [some (.ref (b + 131)), some (.int l1), some (.int l2), some (.int l3), some (.int l4), some (.int (l5 + nI 1)), none]) (by repeat (first | exact trivial | refine ⟨rfl, ?_⟩ | show jg_le _ _)) ?_
         exact ih (l5 + nI 1) s h
       · replace h := it_f c5 h
         refine jg_aload_n dX4_layOn_48 rfl ?_
         refine jg_iload_n dX4_layOn_49 rfl ?_
         refine jg_aload_n dX4_layOn_50 rfl ?_
         refine cs_get (s := s) (w := .ref (b + 135)) fl_X4_21 dX4_layOn_51 (hB.ob 131 (by decide) rfl) rfl ?_
         refine jg_iload dX4_layOn_54 rfl ?_
         refine cs_lda (s := s) (q := (b + 135)) (i := l5) dX4_layOn_56 (hB.ar 135 (by decide) rfl) q4 ?_
         refine jg_iload_n dX4_layOn_57 rfl ?_
         obtain ⟨x6, e_x6, h⟩ := bd_some h
         refine cs_call (q := (b + 131)) (As := [.int l1, .int (cg s (b + 135) l5), .int l3]) kv_X4_107 dX4_layOn_58 (hB.ob 131 (by decide) rfl) rfl rfl (by decide) (Nat.le_of_ble_eq_true rfl) rfl (by omega) (Nat.le_of_ble_eq_true rfl) (t_X4_firstBegin F τ n b s l1 (cg s (b + 135) l5) l3 hB e_x6) ?_
         refine jg_istore (L' := [some (.ref (b + 131)), some (.int l1), some (.int l2), some (.int l3), some (.int l4), some (.int l5), some (.int x6)]) dX4_layOn_61 (by decide) rfl ?_
         refine jg_iload dX4_layOn_63 rfl ?_
         refine jg_iconst (v := (-1)) dX4_layOn_65 (by decide) ?_
         refine jg_icmp_eq (x := x6) (y := (-1)) (tgt := 95) dX4_layOn_66 (by decide) (fun c7 => ?_) (fun c7 => ?_)
         · replace h := it_t c7 h
           refine jg_iinc (x := l5) (v := l5 + nI 1) (L' := [some (.ref (b + 131)), some (.int l1), some (.int l2), some (.int l3), some (.int l4), some (.int (l5 + nI 1)), some (.int x6)]) dX4_layOn_95 rfl (ic_k _ (by decide)) (by decide) rfl ?_
           refine jg_goto (tgt := 20) dX4_layOn_98 (by decide) ?_
           refine jg_fg (L' := [some (.ref (b + 131)), some (.int l1), some (.int l2), some (.int l3), some (.int l4), some (.int (l5 + nI 1)), none]) (by repeat (first | exact trivial | refine ⟨rfl, ?_⟩ | show jg_le _ _)) ?_
           exact ih (l5 + nI 1) s h
         · replace h := it_f c7 h
           refine jg_aload_n dX4_layOn_69 rfl ?_
           refine jg_iload_n dX4_layOn_70 rfl ?_
           refine jg_iload_n dX4_layOn_71 rfl ?_
           refine jg_iconst (v := nI 1) dX4_layOn_72 (by decide) ?_
           refine jg_iload dX4_layOn_73 rfl ?_
           refine jg_ishl (x := (nI 1)) (y := l5) dX4_layOn_75  ?_
           refine jg_ior (x := l2) (y := ((nI 1) <<< (l5 &&& 31))) dX4_layOn_76  ?_
           refine jg_iload dX4_layOn_77 rfl ?_
           refine jg_aload_n dX4_layOn_79 rfl ?_
           refine cs_get (s := s) (w := .ref (b + 164)) fl_X4_35 dX4_layOn_80 (hB.ob 131 (by decide) rfl) rfl ?_
           refine jg_iload dX4_layOn_83 rfl ?_
           refine cs_lda (s := s) (q := (b + 164)) (i := l5) dX4_layOn_85 (hB.ar 164 (by decide) rfl) q4 ?_
           refine jg_iadd (x := x6) (y := (cg s (b + 164) l5)) dX4_layOn_86  ?_
           refine jg_iload dX4_layOn_87 rfl ?_
           refine jg_iload dX4_layOn_89 rfl ?_
           refine jg_iadd (x := l4) (y := x6) dX4_layOn_91  ?_
           obtain ⟨x8, e_x8, h⟩ := bd_some h
           refine cs_call (q := (b + 131)) (As := [.int l1, .int (l2 ||| ((nI 1) <<< (l5 &&& 31))), .int (x6 + (cg s (b + 164) l5)), .int (l4 + x6)]) kv_X4_94 dX4_layOn_92 (hB.ob 131 (by decide) rfl) rfl rfl (by decide) (Nat.le_of_ble_eq_true rfl) rfl (by omega) (Nat.le_of_ble_eq_true rfl) (hL s l1 (l2 ||| ((nI 1) <<< (l5 &&& 31))) (x6 + (cg s (b + 164) l5)) (l4 + x6) _ e_x8) ?_
           refine jg_iinc (x := l5) (v := l5 + nI 1) (L' := [some (.ref (b + 131)), some (.int l1), some (.int l2), some (.int l3), some (.int l4), some (.int (l5 + nI 1)), some (.int x6)]) dX4_layOn_95 rfl (ic_k _ (by decide)) (by decide) rfl ?_
           refine jg_goto (tgt := 20) dX4_layOn_98 (by decide) ?_
           refine jg_fg (L' := [some (.ref (b + 131)), some (.int l1), some (.int l2), some (.int l3), some (.int l4), some (.int (l5 + nI 1)), none]) (by repeat (first | exact trivial | refine ⟨rfl, ?_⟩ | show jg_le _ _)) ?_
           exact ih (l5 + nI 1) x8 h
noncomputable def o_X4_layOn (F : Nat) (τ : cT) (n : Nat) (b : Nat) (rL : cS → Int32 → Int32 → Int32 → Int32 → Option cS) (s : cS) (a1 : Int32) (a2 : Int32) (a3 : Int32) (a4 : Int32) : Option (cS) := if iL a2 16 then ((o_X4_layOn_20 F τ n b rL a1 a2 a3 a4 F (nI 0) (ca s (b + 165) a2 (mni (cg s (b + 165) a2) a4))).bind fun x9 => (some x9)) else none
set_option maxHeartbeats 4000000 in
theorem t_X4_layOn {Γ : jg_G} {g : Nat → jg_C} (F : Nat) (τ : cT) (n : Nat) (b : Nat) (rL : cS → Int32 → Int32 → Int32 → Int32 → Option cS) (s : cS) (a1 : Int32) (a2 : Int32) (a3 : Int32) (a4 : Int32) (hB : Bd τ n b) (dL : Nat) (h9 : 9 ≤ dL) (hL : ∀ s a1 a2 a3 a4 x, rL s a1 a2 a3 a4 = some x → jc Γ mX4_layOn dL 0 0 [some (.ref (b + 131)), some (.int a1), some (.int a2), some (.int a3), some (.int a4), none, none] (ct_h g τ s, n) (.inl none) (ct_h g τ x, n)) {x : cS} (h : o_X4_layOn F τ n b rL s a1 a2 a3 a4 = some x) : jc Γ mX4_layOn (dL + 1) 0 0 [some (.ref (b + 131)), some (.int a1), some (.int a2), some (.int a3), some (.int a4), none, none] (ct_h g τ s, n) (.inl none) (ct_h g τ x, n) := by
  refine jc_of ?_
  rw [o_X4_layOn] at h
  refine jg_aload_n dX4_layOn_0 rfl ?_
  refine cs_get (s := s) (w := .ref (b + 165)) fl_X4_38 dX4_layOn_1 (hB.ob 131 (by decide) rfl) rfl ?_
  refine jg_iload_n dX4_layOn_4 rfl ?_
  refine jg_aload_n dX4_layOn_5 rfl ?_
  refine cs_get (s := s) (w := .ref (b + 165)) fl_X4_38 dX4_layOn_6 (hB.ob 131 (by decide) rfl) rfl ?_
  refine jg_iload_n dX4_layOn_9 rfl ?_
  obtain ⟨q1, h⟩ := gd_some h
  refine cs_lda (s := s) (q := (b + 165)) (i := a2) dX4_layOn_10 (hB.ar 165 (by decide) rfl) q1 ?_
  refine jg_iload dX4_layOn_11 rfl ?_
  refine jg_mmin (x := (cg s (b + 165) a2)) (y := a4) km_X4_102 jw_min.1 jw_min.2 dX4_layOn_13 (by omega) (Nat.le_of_ble_eq_true rfl) ?_
  refine cs_sta (s := s) (q := (b + 165)) (i := a2) (x := (mni (cg s (b + 165) a2) a4)) dX4_layOn_16 (hB.ar 165 (by decide) rfl) q1 ?_
  refine jg_iconst (v := nI 0) dX4_layOn_17 (by decide) ?_
  refine jg_istore (L' := [some (.ref (b + 131)), some (.int a1), some (.int a2), some (.int a3), some (.int a4), some (.int (nI 0)), none]) dX4_layOn_18 (by decide) rfl ?_
  obtain ⟨x9, e_x9, h⟩ := bd_some h
  refine jg_fg (L' := [some (.ref (b + 131)), some (.int a1), some (.int a2), some (.int a3), some (.int a4), some (.int (nI 0)), none]) (by repeat (first | exact trivial | refine ⟨rfl, ?_⟩ | show jg_le _ _)) ?_
  refine t_X4_layOn_20  F τ n b rL a1 a2 a3 a4 hB dL h9 hL _ (x := x9) ?_ F (nI 0) (ca s (b + 165) a2 (mni (cg s (b + 165) a2) a4)) e_x9
  obtain rfl := Option.some.inj h
  exact jg_return dX4_layOn_101 rfl ⟨rfl, rfl⟩
noncomputable def o_lyo (F : Nat) (τ : cT) (n b : Nat) : Nat → cS → Int32 → Int32 → Int32 → Int32 → Option cS
  | 0, _, _, _, _, _ => none
  | f + 1, s, a1, a2, a3, a4 => o_X4_layOn F τ n b (o_lyo F τ n b f) s a1 a2 a3 a4
theorem t_lyo {Γ : jg_G} {g : Nat → jg_C} (F : Nat) (τ : cT) (n b : Nat) (hB : Bd τ n b) : ∀ (f : Nat) (s : cS) (a1 a2 a3 a4 : Int32) (x : cS), o_lyo F τ n b f s a1 a2 a3 a4 = some x → jc Γ mX4_layOn (9 + f) 0 0 [some (.ref (b + 131)), some (.int a1), some (.int a2), some (.int a3), some (.int a4), none, none] (ct_h g τ s, n) (.inl none) (ct_h g τ x, n) := by
  intro f
  induction f with
  | zero => intro s a1 a2 a3 a4 x h; cases h
  | succ f ih =>
    intro s a1 a2 a3 a4 x h
    rw [o_lyo] at h
    exact t_X4_layOn F τ n b _ s a1 a2 a3 a4 hB (9 + f) (by omega) ih h
noncomputable def o_lyo8 (F : Nat) (τ : cT) (n b : Nat) (s : cS) (a1 a2 a3 a4 : Int32) : Option cS := o_lyo F τ n b 8 s a1 a2 a3 a4
theorem t_lyo8 {Γ : jg_G} {g : Nat → jg_C} (F : Nat) (τ : cT) (n b : Nat) (s : cS) (a1 a2 a3 a4 : Int32) (hB : Bd τ n b) {x : cS} (h : o_lyo8 F τ n b s a1 a2 a3 a4 = some x) : jc Γ mX4_layOn 17 0 0 [some (.ref (b + 131)), some (.int a1), some (.int a2), some (.int a3), some (.int a4), none, none] (ct_h g τ s, n) (.inl none) (ct_h g τ x, n) := t_lyo F τ n b hB 8 s a1 a2 a3 a4 x h
theorem dX4_useBerth_0 : decode cX4_useBerth 0 = .ok (.aload_n 1, 1) := by decide +kernel
theorem dX4_useBerth_1 : decode cX4_useBerth 1 = .ok (.getfield 82, 3) := by decide +kernel
theorem dX4_useBerth_4 : decode cX4_useBerth 4 = .ok (.ifCond .gt 4, 3) := by decide +kernel
theorem dX4_useBerth_7 : decode cX4_useBerth 7 = .ok (.return_, 1) := by decide +kernel
theorem dX4_useBerth_8 : decode cX4_useBerth 8 = .ok (.iconst 0, 1) := by decide +kernel
theorem dX4_useBerth_9 : decode cX4_useBerth 9 = .ok (.istore_n 2, 1) := by decide +kernel
theorem dX4_useBerth_10 : decode cX4_useBerth 10 = .ok (.iload_n 2, 1) := by decide +kernel
theorem dX4_useBerth_11 : decode cX4_useBerth 11 = .ok (.aload_n 0, 1) := by decide +kernel
theorem dX4_useBerth_12 : decode cX4_useBerth 12 = .ok (.getfield 62, 3) := by decide +kernel
theorem dX4_useBerth_15 : decode cX4_useBerth 15 = .ok (.if_icmp .ge 67, 3) := by decide +kernel
theorem dX4_useBerth_18 : decode cX4_useBerth 18 = .ok (.aload_n 0, 1) := by decide +kernel
theorem dX4_useBerth_19 : decode cX4_useBerth 19 = .ok (.getfield 24, 3) := by decide +kernel
theorem dX4_useBerth_22 : decode cX4_useBerth 22 = .ok (.iload_n 2, 1) := by decide +kernel
theorem dX4_useBerth_23 : decode cX4_useBerth 23 = .ok (.iaload, 1) := by decide +kernel
theorem dX4_useBerth_24 : decode cX4_useBerth 24 = .ok (.aload_n 1, 1) := by decide +kernel
theorem dX4_useBerth_25 : decode cX4_useBerth 25 = .ok (.getfield 82, 3) := by decide +kernel
theorem dX4_useBerth_28 : decode cX4_useBerth 28 = .ok (.iadd, 1) := by decide +kernel
theorem dX4_useBerth_29 : decode cX4_useBerth 29 = .ok (.iconst 1, 1) := by decide +kernel
theorem dX4_useBerth_30 : decode cX4_useBerth 30 = .ok (.isub, 1) := by decide +kernel
theorem dX4_useBerth_31 : decode cX4_useBerth 31 = .ok (.aload_n 1, 1) := by decide +kernel
theorem dX4_useBerth_32 : decode cX4_useBerth 32 = .ok (.getfield 82, 3) := by decide +kernel
theorem dX4_useBerth_35 : decode cX4_useBerth 35 = .ok (.idiv, 1) := by decide +kernel
theorem dX4_useBerth_36 : decode cX4_useBerth 36 = .ok (.istore_n 3, 1) := by decide +kernel
theorem dX4_useBerth_37 : decode cX4_useBerth 37 = .ok (.iload_n 3, 1) := by decide +kernel
theorem dX4_useBerth_38 : decode cX4_useBerth 38 = .ok (.aload_n 1, 1) := by decide +kernel
theorem dX4_useBerth_39 : decode cX4_useBerth 39 = .ok (.getfield 87, 3) := by decide +kernel
theorem dX4_useBerth_42 : decode cX4_useBerth 42 = .ok (.bipush 6, 2) := by decide +kernel
theorem dX4_useBerth_44 : decode cX4_useBerth 44 = .ok (.idiv, 1) := by decide +kernel
theorem dX4_useBerth_45 : decode cX4_useBerth 45 = .ok (.iadd, 1) := by decide +kernel
theorem dX4_useBerth_46 : decode cX4_useBerth 46 = .ok (.bipush 6, 2) := by decide +kernel
theorem dX4_useBerth_48 : decode cX4_useBerth 48 = .ok (.iadd, 1) := by decide +kernel
theorem dX4_useBerth_49 : decode cX4_useBerth 49 = .ok (.istore 4, 2) := by decide +kernel
theorem dX4_useBerth_51 : decode cX4_useBerth 51 = .ok (.aload_n 0, 1) := by decide +kernel
theorem dX4_useBerth_52 : decode cX4_useBerth 52 = .ok (.getfield 35, 3) := by decide +kernel
theorem dX4_useBerth_55 : decode cX4_useBerth 55 = .ok (.iload_n 2, 1) := by decide +kernel
theorem dX4_useBerth_56 : decode cX4_useBerth 56 = .ok (.aload_n 0, 1) := by decide +kernel
theorem dX4_useBerth_57 : decode cX4_useBerth 57 = .ok (.getfield 27, 3) := by decide +kernel
theorem dX4_useBerth_60 : decode cX4_useBerth 60 = .ok (.iload_n 2, 1) := by decide +kernel
theorem dX4_useBerth_61 : decode cX4_useBerth 61 = .ok (.iaload, 1) := by decide +kernel
theorem dX4_useBerth_62 : decode cX4_useBerth 62 = .ok (.aload_n 1, 1) := by decide +kernel
theorem dX4_useBerth_63 : decode cX4_useBerth 63 = .ok (.getfield 90, 3) := by decide +kernel
theorem dX4_useBerth_66 : decode cX4_useBerth 66 = .ok (.if_icmp .gt 8, 3) := by decide +kernel
theorem dX4_useBerth_69 : decode cX4_useBerth 69 = .ok (.iload 4, 2) := by decide +kernel
theorem dX4_useBerth_71 : decode cX4_useBerth 71 = .ok (.goto 4, 3) := by decide +kernel
theorem dX4_useBerth_74 : decode cX4_useBerth 74 = .ok (.iconst 0, 1) := by decide +kernel
theorem dX4_useBerth_75 : decode cX4_useBerth 75 = .ok (.iastore, 1) := by decide +kernel
theorem dX4_useBerth_76 : decode cX4_useBerth 76 = .ok (.iinc 2 1, 3) := by decide +kernel
theorem dX4_useBerth_79 : decode cX4_useBerth 79 = .ok (.goto (-69), 3) := by decide +kernel
theorem dX4_useBerth_82 : decode cX4_useBerth 82 = .ok (.aload_n 0, 1) := by decide +kernel
theorem dX4_useBerth_83 : decode cX4_useBerth 83 = .ok (.getfield 38, 3) := by decide +kernel
theorem dX4_useBerth_86 : decode cX4_useBerth 86 = .ok (.ldc 65, 2) := by decide +kernel
theorem dX4_useBerth_88 : decode cX4_useBerth 88 = .ok (.invokestatic 66, 3) := by decide +kernel
theorem dX4_useBerth_91 : decode cX4_useBerth 91 = .ok (.aload_n 0, 1) := by decide +kernel
theorem dX4_useBerth_92 : decode cX4_useBerth 92 = .ok (.aload_n 1, 1) := by decide +kernel
theorem dX4_useBerth_93 : decode cX4_useBerth 93 = .ok (.getfield 87, 3) := by decide +kernel
theorem dX4_useBerth_96 : decode cX4_useBerth 96 = .ok (.iconst 0, 1) := by decide +kernel
theorem dX4_useBerth_97 : decode cX4_useBerth 97 = .ok (.aload_n 1, 1) := by decide +kernel
theorem dX4_useBerth_98 : decode cX4_useBerth 98 = .ok (.getfield 91, 3) := by decide +kernel
theorem dX4_useBerth_101 : decode cX4_useBerth 101 = .ok (.iconst (-1), 1) := by decide +kernel
theorem dX4_useBerth_102 : decode cX4_useBerth 102 = .ok (.if_icmp .ne 7, 3) := by decide +kernel
theorem dX4_useBerth_105 : decode cX4_useBerth 105 = .ok (.iconst 1, 1) := by decide +kernel
theorem dX4_useBerth_106 : decode cX4_useBerth 106 = .ok (.goto 5, 3) := by decide +kernel
theorem dX4_useBerth_109 : decode cX4_useBerth 109 = .ok (.bipush 24, 2) := by decide +kernel
theorem dX4_useBerth_111 : decode cX4_useBerth 111 = .ok (.iconst 0, 1) := by decide +kernel
theorem dX4_useBerth_112 : decode cX4_useBerth 112 = .ok (.invokevirtual 94, 3) := by decide +kernel
theorem dX4_useBerth_115 : decode cX4_useBerth 115 = .ok (.iconst 1, 1) := by decide +kernel
theorem dX4_useBerth_116 : decode cX4_useBerth 116 = .ok (.aload_n 0, 1) := by decide +kernel
theorem dX4_useBerth_117 : decode cX4_useBerth 117 = .ok (.getfield 62, 3) := by decide +kernel
theorem dX4_useBerth_120 : decode cX4_useBerth 120 = .ok (.ishl, 1) := by decide +kernel
theorem dX4_useBerth_121 : decode cX4_useBerth 121 = .ok (.iconst 1, 1) := by decide +kernel
theorem dX4_useBerth_122 : decode cX4_useBerth 122 = .ok (.isub, 1) := by decide +kernel
theorem dX4_useBerth_123 : decode cX4_useBerth 123 = .ok (.istore_n 2, 1) := by decide +kernel
theorem dX4_useBerth_124 : decode cX4_useBerth 124 = .ok (.iload_n 2, 1) := by decide +kernel
theorem dX4_useBerth_125 : decode cX4_useBerth 125 = .ok (.ifCond .le 14, 3) := by decide +kernel
theorem dX4_useBerth_128 : decode cX4_useBerth 128 = .ok (.aload_n 0, 1) := by decide +kernel
theorem dX4_useBerth_129 : decode cX4_useBerth 129 = .ok (.iload_n 2, 1) := by decide +kernel
theorem dX4_useBerth_130 : decode cX4_useBerth 130 = .ok (.invokevirtual 98, 3) := by decide +kernel
theorem dX4_useBerth_133 : decode cX4_useBerth 133 = .ok (.iinc 2 (-1), 3) := by decide +kernel
theorem dX4_useBerth_136 : decode cX4_useBerth 136 = .ok (.goto (-12), 3) := by decide +kernel
theorem dX4_useBerth_139 : decode cX4_useBerth 139 = .ok (.return_, 1) := by decide +kernel
noncomputable def o_X4_useBerth_10 (F : Nat) (τ : cT) (n : Nat) (b : Nat) (a1 : Nat)  : Nat → Int32 → cS → Option (cS)
  | 0, _, _ => none
  | f + 1, l2, s => if (s.1 (b + 131) 7) ≤ l2 then (some s) else (if iL l2 4 then (if ¬ (s.1 a1 2) = 0 then (if (s.1 a1 1) < (cg s (b + 137) l2) then (o_X4_useBerth_10 F τ n b a1 f (l2 + nI 1) (ca s (b + 164) l2 (nI 0))) else ((some (ca s (b + 164) l2 ((((((cg s (b + 136) l2) + (s.1 a1 2)) - (nI 1)) / (s.1 a1 2)) + ((s.1 a1 0) / (nI 6))) + (nI 6)))).bind fun x6 => (o_X4_useBerth_10 F τ n b a1 f (l2 + nI 1) x6))) else none) else none)
set_option maxHeartbeats 4000000 in
theorem t_X4_useBerth_10 {Γ : jg_G} {g : Nat → jg_C} (F : Nat) (τ : cT) (n : Nat) (b : Nat) (a1 : Nat)  (hB : Bd τ n b) (h1 : Ob τ n a1 1) (Q : jg_Q) {x : cS} (K1 : jg Γ mX4_useBerth 18 0 0 82 [some (.ref (b + 131)), some (.ref a1), none, none, none] [] (ct_h g τ x, n) Q)  : ∀ (f : Nat) (l2 : Int32) (s : cS), o_X4_useBerth_10 F τ n b a1 f l2 s = some x → jg Γ mX4_useBerth 18 0 0 10 [some (.ref (b + 131)), some (.ref a1), some (.int l2), none, none] [] (ct_h g τ s, n) Q := by
  intro f
  induction f with
  | zero => intro l2 s h; rw [o_X4_useBerth_10] at h; cases h
  | succ f ih =>
   intro l2 s h
   rw [o_X4_useBerth_10] at h
   refine jg_iload_n dX4_useBerth_10 rfl ?_
   refine jg_aload_n dX4_useBerth_11 rfl ?_
   refine cs_get (s := s) (w := .int (s.1 (b + 131) 7)) fl_X4_62 dX4_useBerth_12 (hB.ob 131 (by decide) rfl) rfl ?_
   refine jg_icmp_ge (x := l2) (y := (s.1 (b + 131) 7)) (tgt := 82) dX4_useBerth_15 (by decide) (fun c2 => ?_) (fun c2 => ?_)
   · replace h := it_t c2 h
     refine jg_fg (L' := [some (.ref (b + 131)), some (.ref a1), none, none, none]) (by repeat (first | exact trivial | refine ⟨rfl, ?_⟩ | show jg_le _ _)) ?_
     obtain rfl := Option.some.inj h
     exact K1
   · replace h := it_f c2 h
     refine jg_aload_n dX4_useBerth_18 rfl ?_
     refine cs_get (s := s) (w := .ref (b + 136)) fl_X4_24 dX4_useBerth_19 (hB.ob 131 (by decide) rfl) rfl ?_
     refine jg_iload_n dX4_useBerth_22 rfl ?_
     obtain ⟨q3, h⟩ := gd_some h
     refine cs_lda (s := s) (q := (b + 136)) (i := l2) dX4_useBerth_23 (hB.ar 136 (by decide) rfl) q3 ?_
     refine jg_aload_n dX4_useBerth_24 rfl ?_
     refine cs_get (s := s) (w := .int (s.1 a1 2)) fl_X4_82 dX4_useBerth_25 h1 rfl ?_
     refine jg_iadd (x := (cg s (b + 136) l2)) (y := (s.1 a1 2)) dX4_useBerth_28  ?_
     refine jg_iconst (v := nI 1) dX4_useBerth_29 (by decide) ?_
     refine jg_isub (x := ((cg s (b + 136) l2) + (s.1 a1 2))) (y := (nI 1)) dX4_useBerth_30  ?_
     refine jg_aload_n dX4_useBerth_31 rfl ?_
     refine cs_get (s := s) (w := .int (s.1 a1 2)) fl_X4_82 dX4_useBerth_32 h1 rfl ?_
     obtain ⟨q4, h⟩ := gd_some h
     refine jg_idiv (x := (((cg s (b + 136) l2) + (s.1 a1 2)) - (nI 1))) (y := (s.1 a1 2)) dX4_useBerth_35 q4 ?_
     refine jg_istore_n (L' := [some (.ref (b + 131)), some (.ref a1), some (.int l2), some (.int ((((cg s (b + 136) l2) + (s.1 a1 2)) - (nI 1)) / (s.1 a1 2))), none]) dX4_useBerth_36 (by decide) rfl ?_
     refine jg_iload_n dX4_useBerth_37 rfl ?_
     refine jg_aload_n dX4_useBerth_38 rfl ?_
     refine cs_get (s := s) (w := .int (s.1 a1 0)) fl_X4_87 dX4_useBerth_39 h1 rfl ?_
     refine jg_bipush (v := nI 6) dX4_useBerth_42 (by decide) ?_
     refine jg_idiv (x := (s.1 a1 0)) (y := (nI 6)) dX4_useBerth_44 (by decide) ?_
     refine jg_iadd (x := ((((cg s (b + 136) l2) + (s.1 a1 2)) - (nI 1)) / (s.1 a1 2))) (y := ((s.1 a1 0) / (nI 6))) dX4_useBerth_45  ?_
     refine jg_bipush (v := nI 6) dX4_useBerth_46 (by decide) ?_
     refine jg_iadd (x := (((((cg s (b + 136) l2) + (s.1 a1 2)) - (nI 1)) / (s.1 a1 2)) + ((s.1 a1 0) / (nI 6)))) (y := (nI 6)) dX4_useBerth_48  ?_
     refine jg_istore (L' := [some (.ref (b + 131)), some (.ref a1), some (.int l2), some (.int ((((cg s (b + 136) l2) + (s.1 a1 2)) - (nI 1)) / (s.1 a1 2))), some (.int ((((((cg s (b + 136) l2) + (s.1 a1 2)) - (nI 1)) / (s.1 a1 2)) + ((s.1 a1 0) / (nI 6))) + (nI 6)))]) dX4_useBerth_49 (by decide) rfl ?_
     refine jg_aload_n dX4_useBerth_51 rfl ?_
     refine cs_get (s := s) (w := .ref (b + 164)) fl_X4_35 dX4_useBerth_52 (hB.ob 131 (by decide) rfl) rfl ?_
     refine jg_iload_n dX4_useBerth_55 rfl ?_
     refine jg_aload_n dX4_useBerth_56 rfl ?_
     refine cs_get (s := s) (w := .ref (b + 137)) fl_X4_27 dX4_useBerth_57 (hB.ob 131 (by decide) rfl) rfl ?_
     refine jg_iload_n dX4_useBerth_60 rfl ?_
     refine cs_lda (s := s) (q := (b + 137)) (i := l2) dX4_useBerth_61 (hB.ar 137 (by decide) rfl) q3 ?_
     refine jg_aload_n dX4_useBerth_62 rfl ?_
     refine cs_get (s := s) (w := .int (s.1 a1 1)) fl_X4_90 dX4_useBerth_63 h1 rfl ?_
     refine jg_icmp_gt (x := (cg s (b + 137) l2)) (y := (s.1 a1 1)) (tgt := 74) dX4_useBerth_66 (by decide) (fun c5 => ?_) (fun c5 => ?_)
     · replace h := it_t c5 h
       refine jg_iconst (v := nI 0) dX4_useBerth_74 (by decide) ?_
       refine cs_sta (s := s) (q := (b + 164)) (i := l2) (x := (nI 0)) dX4_useBerth_75 (hB.ar 164 (by decide) rfl) q3 ?_
       refine jg_iinc (x := l2) (v := l2 + nI 1) (L' := [some (.ref (b + 131)), some (.ref a1), some (.int (l2 + nI 1)), some (.int ((((cg s (b + 136) l2) + (s.1 a1 2)) - (nI 1)) / (s.1 a1 2))), some (.int ((((((cg s (b + 136) l2) + (s.1 a1 2)) - (nI 1)) / (s.1 a1 2)) + ((s.1 a1 0) / (nI 6))) + (nI 6)))]) dX4_useBerth_76 rfl (ic_k _ (by decide)) (by decide) rfl ?_
       refine jg_goto (tgt := 10) dX4_useBerth_79 (by decide) ?_
       refine jg_fg (L' := [some (.ref (b + 131)), some (.ref a1), some (.int (l2 + nI 1)), none, none]) (by repeat (first | exact trivial | refine ⟨rfl, ?_⟩ | show jg_le _ _)) ?_
       exact ih (l2 + nI 1) (ca s (b + 164) l2 (nI 0)) h
     · replace h := it_f c5 h
       refine jg_iload dX4_useBerth_69 rfl ?_
       refine jg_goto (tgt := 75) dX4_useBerth_71 (by decide) ?_
       refine cs_sta (s := s) (q := (b + 164)) (i := l2) (x := ((((((cg s (b + 136) l2) + (s.1 a1 2)) - (nI 1)) / (s.1 a1 2)) + ((s.1 a1 0) / (nI 6))) + (nI 6))) dX4_useBerth_75 (hB.ar 164 (by decide) rfl) q3 ?_
       obtain ⟨x6, e_x6, h⟩ := bd_some h
       refine cs_sub (Option.some.inj e_x6) ?_
       refine jg_iinc (x := l2) (v := l2 + nI 1) (L' := [some (.ref (b + 131)), some (.ref a1), some (.int (l2 + nI 1)), some (.int ((((cg s (b + 136) l2) + (s.1 a1 2)) - (nI 1)) / (s.1 a1 2))), some (.int ((((((cg s (b + 136) l2) + (s.1 a1 2)) - (nI 1)) / (s.1 a1 2)) + ((s.1 a1 0) / (nI 6))) + (nI 6)))]) dX4_useBerth_76 rfl (ic_k _ (by decide)) (by decide) rfl ?_
       refine jg_goto (tgt := 10) dX4_useBerth_79 (by decide) ?_
       refine jg_fg (L' := [some (.ref (b + 131)), some (.ref a1), some (.int (l2 + nI 1)), none, none]) (by repeat (first | exact trivial | refine ⟨rfl, ?_⟩ | show jg_le _ _)) ?_
       exact ih (l2 + nI 1) x6 h
noncomputable def o_X4_useBerth_124 (F : Nat) (τ : cT) (n : Nat) (b : Nat) (a1 : Nat)  : Nat → Int32 → cS → Option (cS)
  | 0, _, _ => none
  | f + 1, l2, s => if l2 ≤ 0 then (some s) else ((o_X4_joinSets F τ n b s l2).bind fun x12 => (o_X4_useBerth_124 F τ n b a1 f (l2 + (-1)) x12))
set_option maxHeartbeats 4000000 in
theorem t_X4_useBerth_124 {Γ : jg_G} {g : Nat → jg_C} (F : Nat) (τ : cT) (n : Nat) (b : Nat) (a1 : Nat)  (hB : Bd τ n b) (h1 : Ob τ n a1 1) (Q : jg_Q) {x : cS} (K1 : jg Γ mX4_useBerth 18 0 0 139 [none, none, none, none, none] [] (ct_h g τ x, n) Q)  : ∀ (f : Nat) (l2 : Int32) (s : cS), o_X4_useBerth_124 F τ n b a1 f l2 s = some x → jg Γ mX4_useBerth 18 0 0 124 [some (.ref (b + 131)), none, some (.int l2), none, none] [] (ct_h g τ s, n) Q := by
  intro f
  induction f with
  | zero => intro l2 s h; rw [o_X4_useBerth_124] at h; cases h
  | succ f ih =>
   intro l2 s h
   rw [o_X4_useBerth_124] at h
   refine jg_iload_n dX4_useBerth_124 rfl ?_
   refine jg_if_le (x := l2) (tgt := 139) dX4_useBerth_125 (by decide) (fun c11 => ?_) (fun c11 => ?_)
   · replace h := it_t c11 h
     refine jg_fg (L' := [none, none, none, none, none]) (by repeat (first | exact trivial | refine ⟨rfl, ?_⟩ | show jg_le _ _)) ?_
     obtain rfl := Option.some.inj h
     exact K1
   · replace h := it_f c11 h
     refine jg_aload_n dX4_useBerth_128 rfl ?_
     refine jg_iload_n dX4_useBerth_129 rfl ?_
     obtain ⟨x12, e_x12, h⟩ := bd_some h
     refine cs_call (q := (b + 131)) (As := [.int l2]) kv_X4_98 dX4_useBerth_130 (hB.ob 131 (by decide) rfl) rfl rfl (by decide) (Nat.le_of_ble_eq_true rfl) rfl (by decide) (Nat.le_of_ble_eq_true rfl) (t_X4_joinSets F τ n b s l2 hB e_x12) ?_
     refine jg_iinc (x := l2) (v := l2 + (-1)) (L' := [some (.ref (b + 131)), none, some (.int (l2 + (-1))), none, none]) dX4_useBerth_133 rfl (ic_k _ (by decide)) (by decide) rfl ?_
     refine jg_goto (tgt := 124) dX4_useBerth_136 (by decide) ?_
     refine jg_fg (L' := [some (.ref (b + 131)), none, some (.int (l2 + (-1))), none, none]) (by repeat (first | exact trivial | refine ⟨rfl, ?_⟩ | show jg_le _ _)) ?_
     exact ih (l2 + (-1)) x12 h
noncomputable def o_X4_useBerth (F : Nat) (τ : cT) (n : Nat) (b : Nat) (a1 : Nat) (s : cS) : Option (cS) := if 0 < (s.1 a1 2) then ((o_X4_useBerth_10 F τ n b a1 F (nI 0) s).bind fun x7 => ((o_J7_fill_53178 F τ n (b + 165) 16 x7 (nI 1000000)).bind fun x8 => (if (x8.1 a1 7) = (-1) then ((o_lyo8 F τ n b x8 (x8.1 a1 0) (nI 0) (nI 1) (nI 0)).bind fun x14 => ((o_X4_useBerth_124 F τ n b a1 F (((nI 1) <<< ((x14.1 (b + 131) 7) &&& 31)) - (nI 1)) x14).bind fun x15 => (some x15))) else ((o_lyo8 F τ n b x8 (x8.1 a1 0) (nI 0) (nI 24) (nI 0)).bind fun x10 => ((o_X4_useBerth_124 F τ n b a1 F (((nI 1) <<< ((x10.1 (b + 131) 7) &&& 31)) - (nI 1)) x10).bind fun x13 => (some x13)))))) else (some s)
set_option maxHeartbeats 4000000 in
theorem t_X4_useBerth {Γ : jg_G} {g : Nat → jg_C} (F : Nat) (τ : cT) (n : Nat) (b : Nat) (a1 : Nat) (s : cS) (hB : Bd τ n b) (h1 : Ob τ n a1 1) {x : cS} (h : o_X4_useBerth F τ n b a1 s = some x) : jc Γ mX4_useBerth 18 0 0 [some (.ref (b + 131)), some (.ref a1), none, none, none] (ct_h g τ s, n) (.inl none) (ct_h g τ x, n) := by
  refine jc_of ?_
  rw [o_X4_useBerth] at h
  refine jg_aload_n dX4_useBerth_0 rfl ?_
  refine cs_get (s := s) (w := .int (s.1 a1 2)) fl_X4_82 dX4_useBerth_1 h1 rfl ?_
  refine jg_if_gt (x := (s.1 a1 2)) (tgt := 8) dX4_useBerth_4 (by decide) (fun c1 => ?_) (fun c1 => ?_)
  · replace h := it_t c1 h
    refine jg_iconst (v := nI 0) dX4_useBerth_8 (by decide) ?_
    refine jg_istore_n (L' := [some (.ref (b + 131)), some (.ref a1), some (.int (nI 0)), none, none]) dX4_useBerth_9 (by decide) rfl ?_
    obtain ⟨x7, e_x7, h⟩ := bd_some h
    refine jg_fg (L' := [some (.ref (b + 131)), some (.ref a1), some (.int (nI 0)), none, none]) (by repeat (first | exact trivial | refine ⟨rfl, ?_⟩ | show jg_le _ _)) ?_
    refine t_X4_useBerth_10  F τ n b a1 hB h1 _ (x := x7) ?_ F (nI 0) s e_x7
    refine jg_aload_n dX4_useBerth_82 rfl ?_
    refine cs_get (s := x7) (w := .ref (b + 165)) fl_X4_38 dX4_useBerth_83 (hB.ob 131 (by decide) rfl) rfl ?_
    refine jg_ldc kk_X4_65 dX4_useBerth_86 ?_
    rw [show (1000000 : Int32) = nI 1000000 from rfl]
    obtain ⟨x8, e_x8, h⟩ := bd_some h
    refine cs_callS (As := [.ref (b + 165), .int (nI 1000000)]) ks_X4_66 dX4_useBerth_88 rfl (by decide) (Nat.le_of_ble_eq_true rfl) rfl (by decide) (Nat.le_of_ble_eq_true rfl) (t_J7_fill_53178 F τ n (b + 165) 16 x7 (nI 1000000) (hB.ar 165 (by decide) rfl) e_x8) ?_
    refine jg_aload_n dX4_useBerth_91 rfl ?_
    refine jg_aload_n dX4_useBerth_92 rfl ?_
    refine cs_get (s := x8) (w := .int (x8.1 a1 0)) fl_X4_87 dX4_useBerth_93 h1 rfl ?_
    refine jg_iconst (v := nI 0) dX4_useBerth_96 (by decide) ?_
    refine jg_aload_n dX4_useBerth_97 rfl ?_
    refine cs_get (s := x8) (w := .int (x8.1 a1 7)) fl_X4_91 dX4_useBerth_98 h1 rfl ?_
    refine jg_iconst (v := (-1)) dX4_useBerth_101 (by decide) ?_
    refine jg_icmp_ne (x := (x8.1 a1 7)) (y := (-1)) (tgt := 109) dX4_useBerth_102 (by decide) (fun c9 => ?_) (fun c9 => ?_)
    · replace h := it_f c9 h
      refine jg_bipush (v := nI 24) dX4_useBerth_109 (by decide) ?_
      refine jg_iconst (v := nI 0) dX4_useBerth_111 (by decide) ?_
      obtain ⟨x10, e_x10, h⟩ := bd_some h
      refine cs_call (q := (b + 131)) (As := [.int (x8.1 a1 0), .int (nI 0), .int (nI 24), .int (nI 0)]) kv_X4_94 dX4_useBerth_112 (hB.ob 131 (by decide) rfl) rfl rfl (by decide) (Nat.le_of_ble_eq_true rfl) rfl (by decide) (Nat.le_of_ble_eq_true rfl) (t_lyo8 F τ n b x8 (x8.1 a1 0) (nI 0) (nI 24) (nI 0) hB e_x10) ?_
      refine jg_iconst (v := nI 1) dX4_useBerth_115 (by decide) ?_
      refine jg_aload_n dX4_useBerth_116 rfl ?_
      refine cs_get (s := x10) (w := .int (x10.1 (b + 131) 7)) fl_X4_62 dX4_useBerth_117 (hB.ob 131 (by decide) rfl) rfl ?_
      refine jg_ishl (x := (nI 1)) (y := (x10.1 (b + 131) 7)) dX4_useBerth_120  ?_
      refine jg_iconst (v := nI 1) dX4_useBerth_121 (by decide) ?_
      refine jg_isub (x := ((nI 1) <<< ((x10.1 (b + 131) 7) &&& 31))) (y := (nI 1)) dX4_useBerth_122  ?_
      refine jg_istore_n (L' := [some (.ref (b + 131)), some (.ref a1), some (.int (((nI 1) <<< ((x10.1 (b + 131) 7) &&& 31)) - (nI 1))), none, none]) dX4_useBerth_123 (by decide) rfl ?_
      obtain ⟨x13, e_x13, h⟩ := bd_some h
      refine jg_fg (L' := [some (.ref (b + 131)), none, some (.int (((nI 1) <<< ((x10.1 (b + 131) 7) &&& 31)) - (nI 1))), none, none]) (by repeat (first | exact trivial | refine ⟨rfl, ?_⟩ | show jg_le _ _)) ?_
      refine t_X4_useBerth_124  F τ n b a1 hB h1 _ (x := x13) ?_ F (((nI 1) <<< ((x10.1 (b + 131) 7) &&& 31)) - (nI 1)) x10 e_x13
      obtain rfl := Option.some.inj h
      exact jg_return dX4_useBerth_139 rfl ⟨rfl, rfl⟩
    · replace h := it_t c9 h
      refine jg_iconst (v := nI 1) dX4_useBerth_105 (by decide) ?_
      refine jg_goto (tgt := 111) dX4_useBerth_106 (by decide) ?_
      refine jg_iconst (v := nI 0) dX4_useBerth_111 (by decide) ?_
      obtain ⟨x14, e_x14, h⟩ := bd_some h
      refine cs_call (q := (b + 131)) (As := [.int (x8.1 a1 0), .int (nI 0), .int (nI 1), .int (nI 0)]) kv_X4_94 dX4_useBerth_112 (hB.ob 131 (by decide) rfl) rfl rfl (by decide) (Nat.le_of_ble_eq_true rfl) rfl (by decide) (Nat.le_of_ble_eq_true rfl) (t_lyo8 F τ n b x8 (x8.1 a1 0) (nI 0) (nI 1) (nI 0) hB e_x14) ?_
      refine jg_iconst (v := nI 1) dX4_useBerth_115 (by decide) ?_
      refine jg_aload_n dX4_useBerth_116 rfl ?_
      refine cs_get (s := x14) (w := .int (x14.1 (b + 131) 7)) fl_X4_62 dX4_useBerth_117 (hB.ob 131 (by decide) rfl) rfl ?_
      refine jg_ishl (x := (nI 1)) (y := (x14.1 (b + 131) 7)) dX4_useBerth_120  ?_
      refine jg_iconst (v := nI 1) dX4_useBerth_121 (by decide) ?_
      refine jg_isub (x := ((nI 1) <<< ((x14.1 (b + 131) 7) &&& 31))) (y := (nI 1)) dX4_useBerth_122  ?_
      refine jg_istore_n (L' := [some (.ref (b + 131)), some (.ref a1), some (.int (((nI 1) <<< ((x14.1 (b + 131) 7) &&& 31)) - (nI 1))), none, none]) dX4_useBerth_123 (by decide) rfl ?_
      obtain ⟨x15, e_x15, h⟩ := bd_some h
      refine jg_fg (L' := [some (.ref (b + 131)), none, some (.int (((nI 1) <<< ((x14.1 (b + 131) 7) &&& 31)) - (nI 1))), none, none]) (by repeat (first | exact trivial | refine ⟨rfl, ?_⟩ | show jg_le _ _)) ?_
      refine t_X4_useBerth_124  F τ n b a1 hB h1 _ (x := x15) ?_ F (((nI 1) <<< ((x14.1 (b + 131) 7) &&& 31)) - (nI 1)) x14 e_x15
      obtain rfl := Option.some.inj h
      exact jg_return dX4_useBerth_139 rfl ⟨rfl, rfl⟩
  · replace h := it_f c1 h
    obtain rfl := Option.some.inj h
    exact jg_return dX4_useBerth_7 rfl ⟨rfl, rfl⟩
theorem dX2_leastToBringIn_0 : decode cX2_leastToBringIn 0 = .ok (.aload_n 0, 1) := by decide +kernel
theorem dX2_leastToBringIn_1 : decode cX2_leastToBringIn 1 = .ok (.invokevirtual 100, 3) := by decide +kernel
theorem dX2_leastToBringIn_4 : decode cX2_leastToBringIn 4 = .ok (.astore_n 1, 1) := by decide +kernel
theorem dX2_leastToBringIn_5 : decode cX2_leastToBringIn 5 = .ok (.aload_n 1, 1) := by decide +kernel
theorem dX2_leastToBringIn_6 : decode cX2_leastToBringIn 6 = .ok (.iconst 4, 1) := by decide +kernel
theorem dX2_leastToBringIn_7 : decode cX2_leastToBringIn 7 = .ok (.iconst 0, 1) := by decide +kernel
theorem dX2_leastToBringIn_8 : decode cX2_leastToBringIn 8 = .ok (.invokevirtual 104, 3) := by decide +kernel
theorem dX2_leastToBringIn_11 : decode cX2_leastToBringIn 11 = .ok (.istore_n 2, 1) := by decide +kernel
theorem dX2_leastToBringIn_12 : decode cX2_leastToBringIn 12 = .ok (.aload_n 1, 1) := by decide +kernel
theorem dX2_leastToBringIn_13 : decode cX2_leastToBringIn 13 = .ok (.iconst 5, 1) := by decide +kernel
theorem dX2_leastToBringIn_14 : decode cX2_leastToBringIn 14 = .ok (.iconst 5, 1) := by decide +kernel
theorem dX2_leastToBringIn_15 : decode cX2_leastToBringIn 15 = .ok (.invokevirtual 104, 3) := by decide +kernel
theorem dX2_leastToBringIn_18 : decode cX2_leastToBringIn 18 = .ok (.istore_n 3, 1) := by decide +kernel
theorem dX2_leastToBringIn_19 : decode cX2_leastToBringIn 19 = .ok (.aload_n 0, 1) := by decide +kernel
theorem dX2_leastToBringIn_20 : decode cX2_leastToBringIn 20 = .ok (.invokevirtual 153, 3) := by decide +kernel
theorem dX2_leastToBringIn_23 : decode cX2_leastToBringIn 23 = .ok (.aload_n 0, 1) := by decide +kernel
theorem dX2_leastToBringIn_24 : decode cX2_leastToBringIn 24 = .ok (.getfield 59, 3) := by decide +kernel
theorem dX2_leastToBringIn_27 : decode cX2_leastToBringIn 27 = .ok (.invokevirtual 338, 3) := by decide +kernel
theorem dX2_leastToBringIn_30 : decode cX2_leastToBringIn 30 = .ok (.aload_n 0, 1) := by decide +kernel
theorem dX2_leastToBringIn_31 : decode cX2_leastToBringIn 31 = .ok (.getfield 45, 3) := by decide +kernel
theorem dX2_leastToBringIn_34 : decode cX2_leastToBringIn 34 = .ok (.iconst (-1), 1) := by decide +kernel
theorem dX2_leastToBringIn_35 : decode cX2_leastToBringIn 35 = .ok (.iload_n 2, 1) := by decide +kernel
theorem dX2_leastToBringIn_36 : decode cX2_leastToBringIn 36 = .ok (.invokevirtual 341, 3) := by decide +kernel
theorem dX2_leastToBringIn_39 : decode cX2_leastToBringIn 39 = .ok (.istore 4, 2) := by decide +kernel
theorem dX2_leastToBringIn_41 : decode cX2_leastToBringIn 41 = .ok (.iconst 0, 1) := by decide +kernel
theorem dX2_leastToBringIn_42 : decode cX2_leastToBringIn 42 = .ok (.istore 5, 2) := by decide +kernel
theorem dX2_leastToBringIn_44 : decode cX2_leastToBringIn 44 = .ok (.iload 5, 2) := by decide +kernel
theorem dX2_leastToBringIn_46 : decode cX2_leastToBringIn 46 = .ok (.iconst 4, 1) := by decide +kernel
theorem dX2_leastToBringIn_47 : decode cX2_leastToBringIn 47 = .ok (.if_icmp .ge 45, 3) := by decide +kernel
theorem dX2_leastToBringIn_50 : decode cX2_leastToBringIn 50 = .ok (.iload 4, 2) := by decide +kernel
theorem dX2_leastToBringIn_52 : decode cX2_leastToBringIn 52 = .ok (.iconst (-1), 1) := by decide +kernel
theorem dX2_leastToBringIn_53 : decode cX2_leastToBringIn 53 = .ok (.if_icmp .eq 39, 3) := by decide +kernel
theorem dX2_leastToBringIn_56 : decode cX2_leastToBringIn 56 = .ok (.aload_n 0, 1) := by decide +kernel
theorem dX2_leastToBringIn_57 : decode cX2_leastToBringIn 57 = .ok (.getfield 59, 3) := by decide +kernel
theorem dX2_leastToBringIn_60 : decode cX2_leastToBringIn 60 = .ok (.aload_n 0, 1) := by decide +kernel
theorem dX2_leastToBringIn_61 : decode cX2_leastToBringIn 61 = .ok (.getfield 45, 3) := by decide +kernel
theorem dX2_leastToBringIn_64 : decode cX2_leastToBringIn 64 = .ok (.getfield 159, 3) := by decide +kernel
theorem dX2_leastToBringIn_67 : decode cX2_leastToBringIn 67 = .ok (.iload 4, 2) := by decide +kernel
theorem dX2_leastToBringIn_69 : decode cX2_leastToBringIn 69 = .ok (.aaload, 1) := by decide +kernel
theorem dX2_leastToBringIn_70 : decode cX2_leastToBringIn 70 = .ok (.iload_n 3, 1) := by decide +kernel
theorem dX2_leastToBringIn_71 : decode cX2_leastToBringIn 71 = .ok (.invokevirtual 344, 3) := by decide +kernel
theorem dX2_leastToBringIn_74 : decode cX2_leastToBringIn 74 = .ok (.aload_n 0, 1) := by decide +kernel
theorem dX2_leastToBringIn_75 : decode cX2_leastToBringIn 75 = .ok (.getfield 45, 3) := by decide +kernel
theorem dX2_leastToBringIn_78 : decode cX2_leastToBringIn 78 = .ok (.iload 4, 2) := by decide +kernel
theorem dX2_leastToBringIn_80 : decode cX2_leastToBringIn 80 = .ok (.iload_n 2, 1) := by decide +kernel
theorem dX2_leastToBringIn_81 : decode cX2_leastToBringIn 81 = .ok (.invokevirtual 341, 3) := by decide +kernel
theorem dX2_leastToBringIn_84 : decode cX2_leastToBringIn 84 = .ok (.istore 4, 2) := by decide +kernel
theorem dX2_leastToBringIn_86 : decode cX2_leastToBringIn 86 = .ok (.iinc 5 1, 3) := by decide +kernel
theorem dX2_leastToBringIn_89 : decode cX2_leastToBringIn 89 = .ok (.goto (-45), 3) := by decide +kernel
theorem dX2_leastToBringIn_92 : decode cX2_leastToBringIn 92 = .ok (.iconst 0, 1) := by decide +kernel
theorem dX2_leastToBringIn_93 : decode cX2_leastToBringIn 93 = .ok (.istore 5, 2) := by decide +kernel
theorem dX2_leastToBringIn_95 : decode cX2_leastToBringIn 95 = .ok (.iload 5, 2) := by decide +kernel
theorem dX2_leastToBringIn_97 : decode cX2_leastToBringIn 97 = .ok (.bipush 25, 2) := by decide +kernel
theorem dX2_leastToBringIn_99 : decode cX2_leastToBringIn 99 = .ok (.if_icmp .ge 37, 3) := by decide +kernel
theorem dX2_leastToBringIn_102 : decode cX2_leastToBringIn 102 = .ok (.aload_n 0, 1) := by decide +kernel
theorem dX2_leastToBringIn_103 : decode cX2_leastToBringIn 103 = .ok (.getfield 18, 3) := by decide +kernel
theorem dX2_leastToBringIn_106 : decode cX2_leastToBringIn 106 = .ok (.aload_n 0, 1) := by decide +kernel
theorem dX2_leastToBringIn_107 : decode cX2_leastToBringIn 107 = .ok (.getfield 59, 3) := by decide +kernel
theorem dX2_leastToBringIn_110 : decode cX2_leastToBringIn 110 = .ok (.getfield 347, 3) := by decide +kernel
theorem dX2_leastToBringIn_113 : decode cX2_leastToBringIn 113 = .ok (.iload 5, 2) := by decide +kernel
theorem dX2_leastToBringIn_115 : decode cX2_leastToBringIn 115 = .ok (.aaload, 1) := by decide +kernel
theorem dX2_leastToBringIn_116 : decode cX2_leastToBringIn 116 = .ok (.aload_n 0, 1) := by decide +kernel
theorem dX2_leastToBringIn_117 : decode cX2_leastToBringIn 117 = .ok (.getfield 67, 3) := by decide +kernel
theorem dX2_leastToBringIn_120 : decode cX2_leastToBringIn 120 = .ok (.aload_n 0, 1) := by decide +kernel
theorem dX2_leastToBringIn_121 : decode cX2_leastToBringIn 121 = .ok (.getfield 9, 3) := by decide +kernel
theorem dX2_leastToBringIn_124 : decode cX2_leastToBringIn 124 = .ok (.iload 5, 2) := by decide +kernel
theorem dX2_leastToBringIn_126 : decode cX2_leastToBringIn 126 = .ok (.iadd, 1) := by decide +kernel
theorem dX2_leastToBringIn_127 : decode cX2_leastToBringIn 127 = .ok (.invokevirtual 238, 3) := by decide +kernel
theorem dX2_leastToBringIn_130 : decode cX2_leastToBringIn 130 = .ok (.iinc 5 1, 3) := by decide +kernel
theorem dX2_leastToBringIn_133 : decode cX2_leastToBringIn 133 = .ok (.goto (-38), 3) := by decide +kernel
theorem dX2_leastToBringIn_136 : decode cX2_leastToBringIn 136 = .ok (.iconst 0, 1) := by decide +kernel
theorem dX2_leastToBringIn_137 : decode cX2_leastToBringIn 137 = .ok (.istore 5, 2) := by decide +kernel
theorem dX2_leastToBringIn_139 : decode cX2_leastToBringIn 139 = .ok (.iload 5, 2) := by decide +kernel
theorem dX2_leastToBringIn_141 : decode cX2_leastToBringIn 141 = .ok (.aload_n 0, 1) := by decide +kernel
theorem dX2_leastToBringIn_142 : decode cX2_leastToBringIn 142 = .ok (.getfield 45, 3) := by decide +kernel
theorem dX2_leastToBringIn_145 : decode cX2_leastToBringIn 145 = .ok (.getfield 244, 3) := by decide +kernel
theorem dX2_leastToBringIn_148 : decode cX2_leastToBringIn 148 = .ok (.if_icmp .ge 42, 3) := by decide +kernel
theorem dX2_leastToBringIn_151 : decode cX2_leastToBringIn 151 = .ok (.aload_n 0, 1) := by decide +kernel
theorem dX2_leastToBringIn_152 : decode cX2_leastToBringIn 152 = .ok (.getfield 45, 3) := by decide +kernel
theorem dX2_leastToBringIn_155 : decode cX2_leastToBringIn 155 = .ok (.getfield 247, 3) := by decide +kernel
theorem dX2_leastToBringIn_158 : decode cX2_leastToBringIn 158 = .ok (.iload 5, 2) := by decide +kernel
theorem dX2_leastToBringIn_160 : decode cX2_leastToBringIn 160 = .ok (.aaload, 1) := by decide +kernel
theorem dX2_leastToBringIn_161 : decode cX2_leastToBringIn 161 = .ok (.invokevirtual 254, 3) := by decide +kernel
theorem dX2_leastToBringIn_164 : decode cX2_leastToBringIn 164 = .ok (.ifCond .ne 20, 3) := by decide +kernel
theorem dX2_leastToBringIn_167 : decode cX2_leastToBringIn 167 = .ok (.aload_n 0, 1) := by decide +kernel
theorem dX2_leastToBringIn_168 : decode cX2_leastToBringIn 168 = .ok (.getfield 59, 3) := by decide +kernel
theorem dX2_leastToBringIn_171 : decode cX2_leastToBringIn 171 = .ok (.aload_n 0, 1) := by decide +kernel
theorem dX2_leastToBringIn_172 : decode cX2_leastToBringIn 172 = .ok (.getfield 45, 3) := by decide +kernel
theorem dX2_leastToBringIn_175 : decode cX2_leastToBringIn 175 = .ok (.getfield 247, 3) := by decide +kernel
theorem dX2_leastToBringIn_178 : decode cX2_leastToBringIn 178 = .ok (.iload 5, 2) := by decide +kernel
theorem dX2_leastToBringIn_180 : decode cX2_leastToBringIn 180 = .ok (.aaload, 1) := by decide +kernel
theorem dX2_leastToBringIn_181 : decode cX2_leastToBringIn 181 = .ok (.invokevirtual 350, 3) := by decide +kernel
theorem dX2_leastToBringIn_184 : decode cX2_leastToBringIn 184 = .ok (.iinc 5 1, 3) := by decide +kernel
theorem dX2_leastToBringIn_187 : decode cX2_leastToBringIn 187 = .ok (.goto (-48), 3) := by decide +kernel
theorem dX2_leastToBringIn_190 : decode cX2_leastToBringIn 190 = .ok (.aload_n 0, 1) := by decide +kernel
theorem dX2_leastToBringIn_191 : decode cX2_leastToBringIn 191 = .ok (.getfield 59, 3) := by decide +kernel
theorem dX2_leastToBringIn_194 : decode cX2_leastToBringIn 194 = .ok (.invokevirtual 354, 3) := by decide +kernel
theorem dX2_leastToBringIn_197 : decode cX2_leastToBringIn 197 = .ok (.ireturn, 1) := by decide +kernel
noncomputable def o_X2_leastToBringIn_44 (F : Nat) (τ : cT) (n : Nat) (b : Nat) (l2 : Int32) (l3 : Int32)  : Nat → Int32 → Int32 → cS → Option (cS)
  | 0, _, _, _ => none
  | f + 1, l4, l5, s => if (nI 4) ≤ l5 then (some s) else (if l4 = (-1) then (some s) else (if iL l4 80 then ((o_X4_addWaiting τ n b (b + 39 + 1 + l4.toNatClampNeg) s l3).bind fun x11 => ((o_X5_nextInTurn F τ n b x11 l4 l2).bind fun x12 => (o_X2_leastToBringIn_44 F τ n b l2 l3 f x12 (l5 + nI 1) x11))) else none))
set_option maxHeartbeats 4000000 in
theorem t_X2_leastToBringIn_44 {Γ : jg_G} {g : Nat → jg_C} (F : Nat) (τ : cT) (n : Nat) (b : Nat) (l2 : Int32) (l3 : Int32)  (hB : Bd τ n b) (Q : jg_Q) {x : cS} (K1 : jg Γ mX2_leastToBringIn 19 0 0 92 [some (.ref b), none, none, none, none, none] [] (ct_h g τ x, n) Q)  : ∀ (f : Nat) (l4 : Int32) (l5 : Int32) (s : cS), o_X2_leastToBringIn_44 F τ n b l2 l3 f l4 l5 s = some x → jg Γ mX2_leastToBringIn 19 0 0 44 [some (.ref b), none, some (.int l2), some (.int l3), some (.int l4), some (.int l5)] [] (ct_h g τ s, n) Q := by
  intro f
  induction f with
  | zero => intro l4 l5 s h; rw [o_X2_leastToBringIn_44] at h; cases h
  | succ f ih =>
   intro l4 l5 s h
   rw [o_X2_leastToBringIn_44] at h
   refine jg_iload dX2_leastToBringIn_44 rfl ?_
   refine jg_iconst (v := nI 4) dX2_leastToBringIn_46 (by decide) ?_
   refine jg_icmp_ge (x := l5) (y := (nI 4)) (tgt := 92) dX2_leastToBringIn_47 (by decide) (fun c8 => ?_) (fun c8 => ?_)
   · replace h := it_t c8 h
     refine jg_fg (L' := [some (.ref b), none, none, none, none, none]) (by repeat (first | exact trivial | refine ⟨rfl, ?_⟩ | show jg_le _ _)) ?_
     obtain rfl := Option.some.inj h
     exact K1
   · replace h := it_f c8 h
     refine jg_iload dX2_leastToBringIn_50 rfl ?_
     refine jg_iconst (v := (-1)) dX2_leastToBringIn_52 (by decide) ?_
     refine jg_icmp_eq (x := l4) (y := (-1)) (tgt := 92) dX2_leastToBringIn_53 (by decide) (fun c9 => ?_) (fun c9 => ?_)
     · replace h := it_t c9 h
       refine jg_fg (L' := [some (.ref b), none, none, none, none, none]) (by repeat (first | exact trivial | refine ⟨rfl, ?_⟩ | show jg_le _ _)) ?_
       obtain rfl := Option.some.inj h
       exact K1
     · replace h := it_f c9 h
       refine jg_aload_n dX2_leastToBringIn_56 rfl ?_
       refine cs_get (s := s) (w := .ref (b + 131)) fl_X2_59 dX2_leastToBringIn_57 hB.ob0 rfl ?_
       refine jg_aload_n dX2_leastToBringIn_60 rfl ?_
       refine cs_get (s := s) (w := .ref (b + 27)) fl_X2_45 dX2_leastToBringIn_61 hB.ob0 rfl ?_
       refine cs_get (s := s) (w := .ref (b + 39)) fl_X2_159 dX2_leastToBringIn_64 (hB.ob 27 (by decide) rfl) rfl ?_
       refine jg_iload dX2_leastToBringIn_67 rfl ?_
       obtain ⟨q10, h⟩ := gd_some h
       refine cs_ldr (s := s) (q := (b + 39)) (i := l4) (kd := 6) (by decide) dX2_leastToBringIn_69 (hB.ar 39 (by decide) rfl) q10 ?_
       refine jg_iload_n dX2_leastToBringIn_70 rfl ?_
       obtain ⟨x11, e_x11, h⟩ := bd_some h
       refine cs_call (q := (b + 131)) (As := [.ref (b + 39 + 1 + l4.toNatClampNeg), .int l3]) kv_X2_344 dX2_leastToBringIn_71 (hB.ob 131 (by decide) rfl) rfl rfl (by decide) (Nat.le_of_ble_eq_true rfl) rfl (by decide) (Nat.le_of_ble_eq_true rfl) (t_X4_addWaiting τ n b (b + 39 + 1 + l4.toNatClampNeg) s l3 hB (hB.ship q10.2) e_x11) ?_
       refine jg_aload_n dX2_leastToBringIn_74 rfl ?_
       refine cs_get (s := x11) (w := .ref (b + 27)) fl_X2_45 dX2_leastToBringIn_75 hB.ob0 rfl ?_
       refine jg_iload dX2_leastToBringIn_78 rfl ?_
       refine jg_iload_n dX2_leastToBringIn_80 rfl ?_
       obtain ⟨x12, e_x12, h⟩ := bd_some h
       refine cs_call (q := (b + 27)) (As := [.int l4, .int l2]) kv_X2_341 dX2_leastToBringIn_81 (hB.ob 27 (by decide) rfl) rfl rfl (by decide) (Nat.le_of_ble_eq_true rfl) rfl (by decide) (Nat.le_of_ble_eq_true rfl) (t_X5_nextInTurn F τ n b x11 l4 l2 hB e_x12) ?_
       refine jg_istore (L' := [some (.ref b), none, some (.int l2), some (.int l3), some (.int x12), some (.int l5)]) dX2_leastToBringIn_84 (by decide) rfl ?_
       refine jg_iinc (x := l5) (v := l5 + nI 1) (L' := [some (.ref b), none, some (.int l2), some (.int l3), some (.int x12), some (.int (l5 + nI 1))]) dX2_leastToBringIn_86 rfl (ic_k _ (by decide)) (by decide) rfl ?_
       refine jg_goto (tgt := 44) dX2_leastToBringIn_89 (by decide) ?_
       refine jg_fg (L' := [some (.ref b), none, some (.int l2), some (.int l3), some (.int x12), some (.int (l5 + nI 1))]) (by repeat (first | exact trivial | refine ⟨rfl, ?_⟩ | show jg_le _ _)) ?_
       exact ih x12 (l5 + nI 1) x11 h
noncomputable def o_X2_leastToBringIn_95 (F : Nat) (τ : cT) (n : Nat) (b : Nat)  : Nat → Int32 → cS → Option (cS)
  | 0, _, _ => none
  | f + 1, l5, s => if (nI 25) ≤ l5 then (some s) else (if iL l5 25 then ((o_X8_fillWaysIn F τ n b (b + 138 + 1 + l5.toNatClampNeg) (b + 168) s ((s.1 b 0) + l5)).bind fun x16 => (o_X2_leastToBringIn_95 F τ n b f (l5 + nI 1) x16)) else none)
set_option maxHeartbeats 4000000 in
theorem t_X2_leastToBringIn_95 {Γ : jg_G} {g : Nat → jg_C} (F : Nat) (τ : cT) (n : Nat) (b : Nat)  (hB : Bd τ n b) (Q : jg_Q) {x : cS} (K1 : jg Γ mX2_leastToBringIn 19 0 0 136 [some (.ref b), none, none, none, none, none] [] (ct_h g τ x, n) Q)  : ∀ (f : Nat) (l5 : Int32) (s : cS), o_X2_leastToBringIn_95 F τ n b f l5 s = some x → jg Γ mX2_leastToBringIn 19 0 0 95 [some (.ref b), none, none, none, none, some (.int l5)] [] (ct_h g τ s, n) Q := by
  intro f
  induction f with
  | zero => intro l5 s h; rw [o_X2_leastToBringIn_95] at h; cases h
  | succ f ih =>
   intro l5 s h
   rw [o_X2_leastToBringIn_95] at h
   refine jg_iload dX2_leastToBringIn_95 rfl ?_
   refine jg_bipush (v := nI 25) dX2_leastToBringIn_97 (by decide) ?_
   refine jg_icmp_ge (x := l5) (y := (nI 25)) (tgt := 136) dX2_leastToBringIn_99 (by decide) (fun c14 => ?_) (fun c14 => ?_)
   · replace h := it_t c14 h
     refine jg_fg (L' := [some (.ref b), none, none, none, none, none]) (by repeat (first | exact trivial | refine ⟨rfl, ?_⟩ | show jg_le _ _)) ?_
     obtain rfl := Option.some.inj h
     exact K1
   · replace h := it_f c14 h
     refine jg_aload_n dX2_leastToBringIn_102 rfl ?_
     refine cs_get (s := s) (w := .ref (b + 1)) fl_X2_18 dX2_leastToBringIn_103 hB.ob0 rfl ?_
     refine jg_aload_n dX2_leastToBringIn_106 rfl ?_
     refine cs_get (s := s) (w := .ref (b + 131)) fl_X2_59 dX2_leastToBringIn_107 hB.ob0 rfl ?_
     refine cs_get (s := s) (w := .ref (b + 138)) fl_X2_347 dX2_leastToBringIn_110 (hB.ob 131 (by decide) rfl) rfl ?_
     refine jg_iload dX2_leastToBringIn_113 rfl ?_
     obtain ⟨q15, h⟩ := gd_some h
     refine cs_ldr (s := s) (q := (b + 138)) (i := l5) (kd := 7) (by decide) dX2_leastToBringIn_115 (hB.ar 138 (by decide) rfl) q15 ?_
     refine jg_aload_n dX2_leastToBringIn_116 rfl ?_
     refine cs_get (s := s) (w := .ref (b + 168)) fl_X2_67 dX2_leastToBringIn_117 hB.ob0 rfl ?_
     refine jg_aload_n dX2_leastToBringIn_120 rfl ?_
     refine cs_get (s := s) (w := .int (s.1 b 0)) fl_X2_9 dX2_leastToBringIn_121 hB.ob0 rfl ?_
     refine jg_iload dX2_leastToBringIn_124 rfl ?_
     refine jg_iadd (x := (s.1 b 0)) (y := l5) dX2_leastToBringIn_126  ?_
     obtain ⟨x16, e_x16, h⟩ := bd_some h
     refine cs_call (q := (b + 1)) (As := [.ref (b + 138 + 1 + l5.toNatClampNeg), .ref (b + 168), .int ((s.1 b 0) + l5)]) kv_X2_238 dX2_leastToBringIn_127 (hB.ob 1 (by decide) rfl) rfl rfl (by decide) (Nat.le_of_ble_eq_true rfl) rfl (by decide) (Nat.le_of_ble_eq_true rfl) (t_X8_fillWaysIn F τ n b (b + 138 + 1 + l5.toNatClampNeg) (b + 168) s ((s.1 b 0) + l5) hB (hB.way q15.2) (hB.ar 168 (by decide) rfl) e_x16) ?_
     refine jg_iinc (x := l5) (v := l5 + nI 1) (L' := [some (.ref b), none, none, none, none, some (.int (l5 + nI 1))]) dX2_leastToBringIn_130 rfl (ic_k _ (by decide)) (by decide) rfl ?_
     refine jg_goto (tgt := 95) dX2_leastToBringIn_133 (by decide) ?_
     refine jg_fg (L' := [some (.ref b), none, none, none, none, some (.int (l5 + nI 1))]) (by repeat (first | exact trivial | refine ⟨rfl, ?_⟩ | show jg_le _ _)) ?_
     exact ih (l5 + nI 1) x16 h
noncomputable def o_X2_leastToBringIn_139 (F : Nat) (τ : cT) (n : Nat) (b : Nat)  : Nat → Int32 → cS → Option (cS)
  | 0, _, _ => none
  | f + 1, l5, s => if (s.1 (b + 27) 1) ≤ l5 then (some s) else (if iL l5 10 then ((o_X1_isClosed τ n (b + 28 + 1 + l5.toNatClampNeg) s).bind fun x20 => (if x20 = 0 then ((o_X4_useBerth F τ n b (b + 28 + 1 + l5.toNatClampNeg) s).bind fun x22 => (o_X2_leastToBringIn_139 F τ n b f (l5 + nI 1) x22)) else (o_X2_leastToBringIn_139 F τ n b f (l5 + nI 1) s))) else none)
set_option maxHeartbeats 4000000 in
theorem t_X2_leastToBringIn_139 {Γ : jg_G} {g : Nat → jg_C} (F : Nat) (τ : cT) (n : Nat) (b : Nat)  (hB : Bd τ n b) (Q : jg_Q) {x : cS} (K1 : jg Γ mX2_leastToBringIn 19 0 0 190 [some (.ref b), none, none, none, none, none] [] (ct_h g τ x, n) Q)  : ∀ (f : Nat) (l5 : Int32) (s : cS), o_X2_leastToBringIn_139 F τ n b f l5 s = some x → jg Γ mX2_leastToBringIn 19 0 0 139 [some (.ref b), none, none, none, none, some (.int l5)] [] (ct_h g τ s, n) Q := by
  intro f
  induction f with
  | zero => intro l5 s h; rw [o_X2_leastToBringIn_139] at h; cases h
  | succ f ih =>
   intro l5 s h
   rw [o_X2_leastToBringIn_139] at h
   refine jg_iload dX2_leastToBringIn_139 rfl ?_
   refine jg_aload_n dX2_leastToBringIn_141 rfl ?_
   refine cs_get (s := s) (w := .ref (b + 27)) fl_X2_45 dX2_leastToBringIn_142 hB.ob0 rfl ?_
   refine cs_get (s := s) (w := .int (s.1 (b + 27) 1)) fl_X2_244 dX2_leastToBringIn_145 (hB.ob 27 (by decide) rfl) rfl ?_
   refine jg_icmp_ge (x := l5) (y := (s.1 (b + 27) 1)) (tgt := 190) dX2_leastToBringIn_148 (by decide) (fun c18 => ?_) (fun c18 => ?_)
   · replace h := it_t c18 h
     refine jg_fg (L' := [some (.ref b), none, none, none, none, none]) (by repeat (first | exact trivial | refine ⟨rfl, ?_⟩ | show jg_le _ _)) ?_
     obtain rfl := Option.some.inj h
     exact K1
   · replace h := it_f c18 h
     refine jg_aload_n dX2_leastToBringIn_151 rfl ?_
     refine cs_get (s := s) (w := .ref (b + 27)) fl_X2_45 dX2_leastToBringIn_152 hB.ob0 rfl ?_
     refine cs_get (s := s) (w := .ref (b + 28)) fl_X2_247 dX2_leastToBringIn_155 (hB.ob 27 (by decide) rfl) rfl ?_
     refine jg_iload dX2_leastToBringIn_158 rfl ?_
     obtain ⟨q19, h⟩ := gd_some h
     refine cs_ldr (s := s) (q := (b + 28)) (i := l5) (kd := 5) (by decide) dX2_leastToBringIn_160 (hB.ar 28 (by decide) rfl) q19 ?_
     obtain ⟨x20, e_x20, h⟩ := bd_some h
     refine cs_call (q := (b + 28 + 1 + l5.toNatClampNeg)) (As := []) kv_X2_254 dX2_leastToBringIn_161 (hB.berth q19.2) rfl rfl (by decide) (Nat.le_of_ble_eq_true rfl) rfl (by decide) (Nat.le_of_ble_eq_true rfl) (t_X1_isClosed τ n (b + 28 + 1 + l5.toNatClampNeg) s (hB.berth q19.2) e_x20) ?_
     refine jg_if_ne (x := x20) (tgt := 184) dX2_leastToBringIn_164 (by decide) (fun c21 => ?_) (fun c21 => ?_)
     · replace h := it_f c21 h
       refine jg_iinc (x := l5) (v := l5 + nI 1) (L' := [some (.ref b), none, none, none, none, some (.int (l5 + nI 1))]) dX2_leastToBringIn_184 rfl (ic_k _ (by decide)) (by decide) rfl ?_
       refine jg_goto (tgt := 139) dX2_leastToBringIn_187 (by decide) ?_
       refine jg_fg (L' := [some (.ref b), none, none, none, none, some (.int (l5 + nI 1))]) (by repeat (first | exact trivial | refine ⟨rfl, ?_⟩ | show jg_le _ _)) ?_
       exact ih (l5 + nI 1) s h
     · replace h := it_t c21 h
       refine jg_aload_n dX2_leastToBringIn_167 rfl ?_
       refine cs_get (s := s) (w := .ref (b + 131)) fl_X2_59 dX2_leastToBringIn_168 hB.ob0 rfl ?_
       refine jg_aload_n dX2_leastToBringIn_171 rfl ?_
       refine cs_get (s := s) (w := .ref (b + 27)) fl_X2_45 dX2_leastToBringIn_172 hB.ob0 rfl ?_
       refine cs_get (s := s) (w := .ref (b + 28)) fl_X2_247 dX2_leastToBringIn_175 (hB.ob 27 (by decide) rfl) rfl ?_
       refine jg_iload dX2_leastToBringIn_178 rfl ?_
       refine cs_ldr (s := s) (q := (b + 28)) (i := l5) (kd := 5) (by decide) dX2_leastToBringIn_180 (hB.ar 28 (by decide) rfl) q19 ?_
       obtain ⟨x22, e_x22, h⟩ := bd_some h
       refine cs_call (q := (b + 131)) (As := [.ref (b + 28 + 1 + l5.toNatClampNeg)]) kv_X2_350 dX2_leastToBringIn_181 (hB.ob 131 (by decide) rfl) rfl rfl (by decide) (Nat.le_of_ble_eq_true rfl) rfl (by decide) (Nat.le_of_ble_eq_true rfl) (t_X4_useBerth F τ n b (b + 28 + 1 + l5.toNatClampNeg) s hB (hB.berth q19.2) e_x22) ?_
       refine jg_iinc (x := l5) (v := l5 + nI 1) (L' := [some (.ref b), none, none, none, none, some (.int (l5 + nI 1))]) dX2_leastToBringIn_184 rfl (ic_k _ (by decide)) (by decide) rfl ?_
       refine jg_goto (tgt := 139) dX2_leastToBringIn_187 (by decide) ?_
       refine jg_fg (L' := [some (.ref b), none, none, none, none, some (.int (l5 + nI 1))]) (by repeat (first | exact trivial | refine ⟨rfl, ?_⟩ | show jg_le _ _)) ?_
       exact ih (l5 + nI 1) x22 h
noncomputable def o_X2_leastToBringIn (F : Nat) (τ : cT) (n : Nat) (b : Nat) (s : cS) : Option (Int32 × cS) := (o_X2_actOfToday F τ n b s).bind fun x1 => (if acb τ n x1 = true then ((o_X0_lastNumber F τ n x1 s (nI 4) (nI 0)).bind fun x3 => ((o_X0_lastNumber F τ n x1 s (nI 5) (nI 5)).bind fun x4 => ((o_X2_fillDepths F τ n b s).bind fun x5 => ((o_X4_beginBringing F τ n b x5).bind fun x6 => ((o_X5_nextInTurn F τ n b x6 (-1) x3).bind fun x7 => ((o_X2_leastToBringIn_44 F τ n b x3 x4 F x7 (nI 0) x6).bind fun x13 => ((o_X2_leastToBringIn_95 F τ n b F (nI 0) x13).bind fun x17 => ((o_X2_leastToBringIn_139 F τ n b F (nI 0) x17).bind fun x23 => ((o_X4_leastSum τ n b x23).bind fun x24 => (some (x24, x23))))))))))) else none)
set_option maxHeartbeats 4000000 in
theorem t_X2_leastToBringIn {Γ : jg_G} {g : Nat → jg_C} (F : Nat) (τ : cT) (n : Nat) (b : Nat) (s : cS) (hB : Bd τ n b) {x : Int32 × cS} (h : o_X2_leastToBringIn F τ n b s = some x) : jc Γ mX2_leastToBringIn 19 0 0 [some (.ref b), none, none, none, none, none] (ct_h g τ s, n) (.inl (some (.int x.1))) (ct_h g τ x.2, n) := by
  refine jc_of ?_
  rw [o_X2_leastToBringIn] at h
  refine jg_aload_n dX2_leastToBringIn_0 rfl ?_
  obtain ⟨x1, e_x1, h⟩ := bd_some h
  refine cs_call (q := b) (As := []) kv_X2_100 dX2_leastToBringIn_1 hB.ob0 rfl rfl (by decide) (Nat.le_of_ble_eq_true rfl) rfl (by decide) (Nat.le_of_ble_eq_true rfl) (t_X2_actOfToday F τ n b s hB e_x1) ?_
  obtain ⟨q2, h⟩ := gd_some h
  refine jg_astore_n (L' := [some (.ref b), some (.ref x1), none, none, none, none]) dX2_leastToBringIn_4 (by decide) rfl ?_
  refine jg_aload_n dX2_leastToBringIn_5 rfl ?_
  refine jg_iconst (v := nI 4) dX2_leastToBringIn_6 (by decide) ?_
  refine jg_iconst (v := nI 0) dX2_leastToBringIn_7 (by decide) ?_
  obtain ⟨x3, e_x3, h⟩ := bd_some h
  refine cs_call (q := x1) (As := [.int (nI 4), .int (nI 0)]) kv_X2_104 dX2_leastToBringIn_8 (acb_ob q2) rfl rfl (by decide) (Nat.le_of_ble_eq_true rfl) rfl (by decide) (Nat.le_of_ble_eq_true rfl) (t_X0_lastNumber F τ n x1 s (nI 4) (nI 0) q2 e_x3) ?_
  refine jg_istore_n (L' := [some (.ref b), some (.ref x1), some (.int x3), none, none, none]) dX2_leastToBringIn_11 (by decide) rfl ?_
  refine jg_aload_n dX2_leastToBringIn_12 rfl ?_
  refine jg_iconst (v := nI 5) dX2_leastToBringIn_13 (by decide) ?_
  refine jg_iconst (v := nI 5) dX2_leastToBringIn_14 (by decide) ?_
  obtain ⟨x4, e_x4, h⟩ := bd_some h
  refine cs_call (q := x1) (As := [.int (nI 5), .int (nI 5)]) kv_X2_104 dX2_leastToBringIn_15 (acb_ob q2) rfl rfl (by decide) (Nat.le_of_ble_eq_true rfl) rfl (by decide) (Nat.le_of_ble_eq_true rfl) (t_X0_lastNumber F τ n x1 s (nI 5) (nI 5) q2 e_x4) ?_
  refine jg_istore_n (L' := [some (.ref b), some (.ref x1), some (.int x3), some (.int x4), none, none]) dX2_leastToBringIn_18 (by decide) rfl ?_
  refine jg_aload_n dX2_leastToBringIn_19 rfl ?_
  obtain ⟨x5, e_x5, h⟩ := bd_some h
  refine cs_call (q := b) (As := []) kv_X2_153 dX2_leastToBringIn_20 hB.ob0 rfl rfl (by decide) (Nat.le_of_ble_eq_true rfl) rfl (by decide) (Nat.le_of_ble_eq_true rfl) (t_X2_fillDepths F τ n b s hB e_x5) ?_
  refine jg_aload_n dX2_leastToBringIn_23 rfl ?_
  refine cs_get (s := x5) (w := .ref (b + 131)) fl_X2_59 dX2_leastToBringIn_24 hB.ob0 rfl ?_
  obtain ⟨x6, e_x6, h⟩ := bd_some h
  refine cs_call (q := (b + 131)) (As := []) kv_X2_338 dX2_leastToBringIn_27 (hB.ob 131 (by decide) rfl) rfl rfl (by decide) (Nat.le_of_ble_eq_true rfl) rfl (by decide) (Nat.le_of_ble_eq_true rfl) (t_X4_beginBringing F τ n b x5 hB e_x6) ?_
  refine jg_aload_n dX2_leastToBringIn_30 rfl ?_
  refine cs_get (s := x6) (w := .ref (b + 27)) fl_X2_45 dX2_leastToBringIn_31 hB.ob0 rfl ?_
  refine jg_iconst (v := (-1)) dX2_leastToBringIn_34 (by decide) ?_
  refine jg_iload_n dX2_leastToBringIn_35 rfl ?_
  obtain ⟨x7, e_x7, h⟩ := bd_some h
  refine cs_call (q := (b + 27)) (As := [.int (-1), .int x3]) kv_X2_341 dX2_leastToBringIn_36 (hB.ob 27 (by decide) rfl) rfl rfl (by decide) (Nat.le_of_ble_eq_true rfl) rfl (by decide) (Nat.le_of_ble_eq_true rfl) (t_X5_nextInTurn F τ n b x6 (-1) x3 hB e_x7) ?_
  refine jg_istore (L' := [some (.ref b), some (.ref x1), some (.int x3), some (.int x4), some (.int x7), none]) dX2_leastToBringIn_39 (by decide) rfl ?_
  refine jg_iconst (v := nI 0) dX2_leastToBringIn_41 (by decide) ?_
  refine jg_istore (L' := [some (.ref b), some (.ref x1), some (.int x3), some (.int x4), some (.int x7), some (.int (nI 0))]) dX2_leastToBringIn_42 (by decide) rfl ?_
  obtain ⟨x13, e_x13, h⟩ := bd_some h
  refine jg_fg (L' := [some (.ref b), none, some (.int x3), some (.int x4), some (.int x7), some (.int (nI 0))]) (by repeat (first | exact trivial | refine ⟨rfl, ?_⟩ | show jg_le _ _)) ?_
  refine t_X2_leastToBringIn_44  F τ n b x3 x4 hB _ (x := x13) ?_ F x7 (nI 0) x6 e_x13
  refine jg_iconst (v := nI 0) dX2_leastToBringIn_92 (by decide) ?_
  refine jg_istore (L' := [some (.ref b), none, none, none, none, some (.int (nI 0))]) dX2_leastToBringIn_93 (by decide) rfl ?_
  obtain ⟨x17, e_x17, h⟩ := bd_some h
  refine jg_fg (L' := [some (.ref b), none, none, none, none, some (.int (nI 0))]) (by repeat (first | exact trivial | refine ⟨rfl, ?_⟩ | show jg_le _ _)) ?_
  refine t_X2_leastToBringIn_95  F τ n b hB _ (x := x17) ?_ F (nI 0) x13 e_x17
  refine jg_iconst (v := nI 0) dX2_leastToBringIn_136 (by decide) ?_
  refine jg_istore (L' := [some (.ref b), none, none, none, none, some (.int (nI 0))]) dX2_leastToBringIn_137 (by decide) rfl ?_
  obtain ⟨x23, e_x23, h⟩ := bd_some h
  refine jg_fg (L' := [some (.ref b), none, none, none, none, some (.int (nI 0))]) (by repeat (first | exact trivial | refine ⟨rfl, ?_⟩ | show jg_le _ _)) ?_
  refine t_X2_leastToBringIn_139  F τ n b hB _ (x := x23) ?_ F (nI 0) x17 e_x23
  refine jg_aload_n dX2_leastToBringIn_190 rfl ?_
  refine cs_get (s := x23) (w := .ref (b + 131)) fl_X2_59 dX2_leastToBringIn_191 hB.ob0 rfl ?_
  obtain ⟨x24, e_x24, h⟩ := bd_some h
  refine cs_call (q := (b + 131)) (As := []) kv_X2_354 dX2_leastToBringIn_194 (hB.ob 131 (by decide) rfl) rfl rfl (by decide) (Nat.le_of_ble_eq_true rfl) rfl (by decide) (Nat.le_of_ble_eq_true rfl) (t_X4_leastSum τ n b x23 hB e_x24) ?_
  obtain rfl := Option.some.inj h
  exact jg_ireturn dX2_leastToBringIn_197 rfl ⟨rfl, rfl⟩
