/-! THE CLASS AS FUNCTIONS (by program wip/whole/cdec.py) -/
theorem dX2_today_0 : decode cX2_today 0 = .ok (.aload_n 0, 1) := by decide +kernel
theorem dX2_today_1 : decode cX2_today 1 = .ok (.getfield 9, 3) := by decide +kernel
theorem dX2_today_4 : decode cX2_today 4 = .ok (.bipush 24, 2) := by decide +kernel
theorem dX2_today_6 : decode cX2_today 6 = .ok (.idiv, 1) := by decide +kernel
theorem dX2_today_7 : decode cX2_today 7 = .ok (.ireturn, 1) := by decide +kernel
noncomputable def o_X2_today (τ : cT) (n : Nat) (b : Nat) (s : cS) : Option (Int32) := some ((s.1 b 0) / (nI 24))
set_option maxHeartbeats 4000000 in
theorem t_X2_today {Γ : jg_G} {g : Nat → jg_C} (τ : cT) (n : Nat) (b : Nat) (s : cS) (hB : Bd τ n b) {x : Int32} (h : o_X2_today τ n b s = some x) : jc Γ mX2_today 0 0 0 [some (.ref b)] (ct_h g τ s, n) (.inl (some (.int x))) (ct_h g τ s, n) := by
  refine jc_of ?_
  rw [o_X2_today] at h
  refine jg_aload_n dX2_today_0 rfl ?_
  refine cs_get (s := s) (w := .int (s.1 b 0)) fl_X2_9 dX2_today_1 hB.ob0 rfl ?_
  refine jg_bipush (v := nI 24) dX2_today_4 (by decide) ?_
  refine jg_idiv (x := (s.1 b 0)) (y := (nI 24)) dX2_today_6 (by decide) ?_
  obtain rfl := Option.some.inj h
  exact jg_ireturn dX2_today_7 rfl ⟨rfl, rfl⟩
theorem dX3_onDay_0 : decode cX3_onDay 0 = .ok (.iconst (-1), 1) := by decide +kernel
theorem dX3_onDay_1 : decode cX3_onDay 1 = .ok (.istore_n 2, 1) := by decide +kernel
theorem dX3_onDay_2 : decode cX3_onDay 2 = .ok (.iconst 0, 1) := by decide +kernel
theorem dX3_onDay_3 : decode cX3_onDay 3 = .ok (.istore_n 3, 1) := by decide +kernel
theorem dX3_onDay_4 : decode cX3_onDay 4 = .ok (.iload_n 3, 1) := by decide +kernel
theorem dX3_onDay_5 : decode cX3_onDay 5 = .ok (.aload_n 0, 1) := by decide +kernel
theorem dX3_onDay_6 : decode cX3_onDay 6 = .ok (.getfield 35, 3) := by decide +kernel
theorem dX3_onDay_9 : decode cX3_onDay 9 = .ok (.if_icmp .ge 41, 3) := by decide +kernel
theorem dX3_onDay_12 : decode cX3_onDay 12 = .ok (.aload_n 0, 1) := by decide +kernel
theorem dX3_onDay_13 : decode cX3_onDay 13 = .ok (.getfield 24, 3) := by decide +kernel
theorem dX3_onDay_16 : decode cX3_onDay 16 = .ok (.iload_n 3, 1) := by decide +kernel
theorem dX3_onDay_17 : decode cX3_onDay 17 = .ok (.iaload, 1) := by decide +kernel
theorem dX3_onDay_18 : decode cX3_onDay 18 = .ok (.iload_n 1, 1) := by decide +kernel
theorem dX3_onDay_19 : decode cX3_onDay 19 = .ok (.if_icmp .gt 25, 3) := by decide +kernel
theorem dX3_onDay_22 : decode cX3_onDay 22 = .ok (.iload_n 2, 1) := by decide +kernel
theorem dX3_onDay_23 : decode cX3_onDay 23 = .ok (.iconst (-1), 1) := by decide +kernel
theorem dX3_onDay_24 : decode cX3_onDay 24 = .ok (.if_icmp .eq 18, 3) := by decide +kernel
theorem dX3_onDay_27 : decode cX3_onDay 27 = .ok (.aload_n 0, 1) := by decide +kernel
theorem dX3_onDay_28 : decode cX3_onDay 28 = .ok (.getfield 24, 3) := by decide +kernel
theorem dX3_onDay_31 : decode cX3_onDay 31 = .ok (.iload_n 3, 1) := by decide +kernel
theorem dX3_onDay_32 : decode cX3_onDay 32 = .ok (.iaload, 1) := by decide +kernel
theorem dX3_onDay_33 : decode cX3_onDay 33 = .ok (.aload_n 0, 1) := by decide +kernel
theorem dX3_onDay_34 : decode cX3_onDay 34 = .ok (.getfield 24, 3) := by decide +kernel
theorem dX3_onDay_37 : decode cX3_onDay 37 = .ok (.iload_n 2, 1) := by decide +kernel
theorem dX3_onDay_38 : decode cX3_onDay 38 = .ok (.iaload, 1) := by decide +kernel
theorem dX3_onDay_39 : decode cX3_onDay 39 = .ok (.if_icmp .lt 5, 3) := by decide +kernel
theorem dX3_onDay_42 : decode cX3_onDay 42 = .ok (.iload_n 3, 1) := by decide +kernel
theorem dX3_onDay_43 : decode cX3_onDay 43 = .ok (.istore_n 2, 1) := by decide +kernel
theorem dX3_onDay_44 : decode cX3_onDay 44 = .ok (.iinc 3 1, 3) := by decide +kernel
theorem dX3_onDay_47 : decode cX3_onDay 47 = .ok (.goto (-43), 3) := by decide +kernel
theorem dX3_onDay_50 : decode cX3_onDay 50 = .ok (.iload_n 2, 1) := by decide +kernel
theorem dX3_onDay_51 : decode cX3_onDay 51 = .ok (.iconst (-1), 1) := by decide +kernel
theorem dX3_onDay_52 : decode cX3_onDay 52 = .ok (.if_icmp .ne 10, 3) := by decide +kernel
theorem dX3_onDay_55 : decode cX3_onDay 55 = .ok (.aload_n 0, 1) := by decide +kernel
theorem dX3_onDay_56 : decode cX3_onDay 56 = .ok (.getfield 14, 3) := by decide +kernel
theorem dX3_onDay_59 : decode cX3_onDay 59 = .ok (.goto 9, 3) := by decide +kernel
theorem dX3_onDay_62 : decode cX3_onDay 62 = .ok (.aload_n 0, 1) := by decide +kernel
theorem dX3_onDay_63 : decode cX3_onDay 63 = .ok (.getfield 20, 3) := by decide +kernel
theorem dX3_onDay_66 : decode cX3_onDay 66 = .ok (.iload_n 2, 1) := by decide +kernel
theorem dX3_onDay_67 : decode cX3_onDay 67 = .ok (.aaload, 1) := by decide +kernel
theorem dX3_onDay_68 : decode cX3_onDay 68 = .ok (.areturn, 1) := by decide +kernel
noncomputable def o_X3_onDay_4 (F : Nat) (τ : cT) (n : Nat) (b : Nat) (l1 : Int32) (s : cS) : Nat → Int32 → Int32 → Option (Int32)
  | 0, _, _ => none
  | f + 1, l2, l3 => if (s.1 (b + 17) 3) ≤ l3 then (some l2) else (if iL l3 20 then (if l1 < (cg s (b + 25) l3) then (o_X3_onDay_4 F τ n b l1 s f l2 (l3 + nI 1)) else (if l2 = (-1) then (o_X3_onDay_4 F τ n b l1 s f l3 (l3 + nI 1)) else (if iL l2 20 then (if (cg s (b + 25) l3) < (cg s (b + 25) l2) then (o_X3_onDay_4 F τ n b l1 s f l2 (l3 + nI 1)) else (o_X3_onDay_4 F τ n b l1 s f l3 (l3 + nI 1))) else none))) else none)
set_option maxHeartbeats 4000000 in
theorem t_X3_onDay_4 {Γ : jg_G} {g : Nat → jg_C} (F : Nat) (τ : cT) (n : Nat) (b : Nat) (l1 : Int32) (s : cS) (hB : Bd τ n b) (Q : jg_Q) {x : Int32} (K1 : jg Γ mX3_onDay 0 0 0 50 [some (.ref (b + 17)), none, some (.int x), none] [] (ct_h g τ s, n) Q)  : ∀ (f : Nat) (l2 : Int32) (l3 : Int32), o_X3_onDay_4 F τ n b l1 s f l2 l3 = some x → jg Γ mX3_onDay 0 0 0 4 [some (.ref (b + 17)), some (.int l1), some (.int l2), some (.int l3)] [] (ct_h g τ s, n) Q := by
  intro f
  induction f with
  | zero => intro l2 l3 h; rw [o_X3_onDay_4] at h; cases h
  | succ f ih =>
   intro l2 l3 h
   rw [o_X3_onDay_4] at h
   refine jg_iload_n dX3_onDay_4 rfl ?_
   refine jg_aload_n dX3_onDay_5 rfl ?_
   refine cs_get (s := s) (w := .int (s.1 (b + 17) 3)) fl_X3_35 dX3_onDay_6 (hB.ob 17 (by decide) rfl) rfl ?_
   refine jg_icmp_ge (x := l3) (y := (s.1 (b + 17) 3)) (tgt := 50) dX3_onDay_9 (by decide) (fun c1 => ?_) (fun c1 => ?_)
   · replace h := it_t c1 h
     refine jg_fg (L' := [some (.ref (b + 17)), none, some (.int l2), none]) (by repeat (first | exact trivial | refine ⟨rfl, ?_⟩ | show jg_le _ _)) ?_
     obtain rfl := Option.some.inj h
     exact K1
   · replace h := it_f c1 h
     refine jg_aload_n dX3_onDay_12 rfl ?_
     refine cs_get (s := s) (w := .ref (b + 25)) fl_X3_24 dX3_onDay_13 (hB.ob 17 (by decide) rfl) rfl ?_
     refine jg_iload_n dX3_onDay_16 rfl ?_
     obtain ⟨q2, h⟩ := gd_some h
     refine cs_lda (s := s) (q := (b + 25)) (i := l3) dX3_onDay_17 (hB.ar 25 (by decide) rfl) q2 ?_
     refine jg_iload_n dX3_onDay_18 rfl ?_
     refine jg_icmp_gt (x := (cg s (b + 25) l3)) (y := l1) (tgt := 44) dX3_onDay_19 (by decide) (fun c3 => ?_) (fun c3 => ?_)
     · replace h := it_t c3 h
       refine jg_iinc (x := l3) (v := l3 + nI 1) (L' := [some (.ref (b + 17)), some (.int l1), some (.int l2), some (.int (l3 + nI 1))]) dX3_onDay_44 rfl (ic_k _ (by decide)) (by decide) rfl ?_
       refine jg_goto (tgt := 4) dX3_onDay_47 (by decide) ?_
       refine jg_fg (L' := [some (.ref (b + 17)), some (.int l1), some (.int l2), some (.int (l3 + nI 1))]) (by repeat (first | exact trivial | refine ⟨rfl, ?_⟩ | show jg_le _ _)) ?_
       exact ih l2 (l3 + nI 1) h
     · replace h := it_f c3 h
       refine jg_iload_n dX3_onDay_22 rfl ?_
       refine jg_iconst (v := (-1)) dX3_onDay_23 (by decide) ?_
       refine jg_icmp_eq (x := l2) (y := (-1)) (tgt := 42) dX3_onDay_24 (by decide) (fun c4 => ?_) (fun c4 => ?_)
       · replace h := it_t c4 h
         refine jg_iload_n dX3_onDay_42 rfl ?_
         refine jg_istore_n (L' := [some (.ref (b + 17)), some (.int l1), some (.int l3), some (.int l3)]) dX3_onDay_43 (by decide) rfl ?_
         refine jg_iinc (x := l3) (v := l3 + nI 1) (L' := [some (.ref (b + 17)), some (.int l1), some (.int l3), some (.int (l3 + nI 1))]) dX3_onDay_44 rfl (ic_k _ (by decide)) (by decide) rfl ?_
         refine jg_goto (tgt := 4) dX3_onDay_47 (by decide) ?_
         refine jg_fg (L' := [some (.ref (b + 17)), some (.int l1), some (.int l3), some (.int (l3 + nI 1))]) (by repeat (first | exact trivial | refine ⟨rfl, ?_⟩ | show jg_le _ _)) ?_
         exact ih l3 (l3 + nI 1) h
       · replace h := it_f c4 h
         refine jg_aload_n dX3_onDay_27 rfl ?_
         refine cs_get (s := s) (w := .ref (b + 25)) fl_X3_24 dX3_onDay_28 (hB.ob 17 (by decide) rfl) rfl ?_
         refine jg_iload_n dX3_onDay_31 rfl ?_
         refine cs_lda (s := s) (q := (b + 25)) (i := l3) dX3_onDay_32 (hB.ar 25 (by decide) rfl) q2 ?_
         refine jg_aload_n dX3_onDay_33 rfl ?_
         refine cs_get (s := s) (w := .ref (b + 25)) fl_X3_24 dX3_onDay_34 (hB.ob 17 (by decide) rfl) rfl ?_
         refine jg_iload_n dX3_onDay_37 rfl ?_
         obtain ⟨q5, h⟩ := gd_some h
         refine cs_lda (s := s) (q := (b + 25)) (i := l2) dX3_onDay_38 (hB.ar 25 (by decide) rfl) q5 ?_
         refine jg_icmp_lt (x := (cg s (b + 25) l3)) (y := (cg s (b + 25) l2)) (tgt := 44) dX3_onDay_39 (by decide) (fun c6 => ?_) (fun c6 => ?_)
         · replace h := it_t c6 h
           refine jg_iinc (x := l3) (v := l3 + nI 1) (L' := [some (.ref (b + 17)), some (.int l1), some (.int l2), some (.int (l3 + nI 1))]) dX3_onDay_44 rfl (ic_k _ (by decide)) (by decide) rfl ?_
           refine jg_goto (tgt := 4) dX3_onDay_47 (by decide) ?_
           refine jg_fg (L' := [some (.ref (b + 17)), some (.int l1), some (.int l2), some (.int (l3 + nI 1))]) (by repeat (first | exact trivial | refine ⟨rfl, ?_⟩ | show jg_le _ _)) ?_
           exact ih l2 (l3 + nI 1) h
         · replace h := it_f c6 h
           refine jg_iload_n dX3_onDay_42 rfl ?_
           refine jg_istore_n (L' := [some (.ref (b + 17)), some (.int l1), some (.int l3), some (.int l3)]) dX3_onDay_43 (by decide) rfl ?_
           refine jg_iinc (x := l3) (v := l3 + nI 1) (L' := [some (.ref (b + 17)), some (.int l1), some (.int l3), some (.int (l3 + nI 1))]) dX3_onDay_44 rfl (ic_k _ (by decide)) (by decide) rfl ?_
           refine jg_goto (tgt := 4) dX3_onDay_47 (by decide) ?_
           refine jg_fg (L' := [some (.ref (b + 17)), some (.int l1), some (.int l3), some (.int (l3 + nI 1))]) (by repeat (first | exact trivial | refine ⟨rfl, ?_⟩ | show jg_le _ _)) ?_
           exact ih l3 (l3 + nI 1) h
noncomputable def o_X3_onDay (F : Nat) (τ : cT) (n : Nat) (b : Nat) (s : cS) (a1 : Int32) : Option (Nat) := (o_X3_onDay_4 F τ n b a1 s F (-1) (nI 0)).bind fun x7 => (if x7 = (-1) then (some (b + 18)) else (if iL x7 20 then ((s.2 (b + 24) x7.toNatClampNeg).bind fun x10 => (if acb τ n x10 = true then (some x10) else none)) else none))
set_option maxHeartbeats 4000000 in
theorem t_X3_onDay {Γ : jg_G} {g : Nat → jg_C} (F : Nat) (τ : cT) (n : Nat) (b : Nat) (s : cS) (a1 : Int32) (hB : Bd τ n b) {x : Nat} (h : o_X3_onDay F τ n b s a1 = some x) : jc Γ mX3_onDay 0 0 0 [some (.ref (b + 17)), some (.int a1), none, none] (ct_h g τ s, n) (.inl (some (.ref x))) (ct_h g τ s, n) := by
  refine jc_of ?_
  rw [o_X3_onDay] at h
  refine jg_iconst (v := (-1)) dX3_onDay_0 (by decide) ?_
  refine jg_istore_n (L' := [some (.ref (b + 17)), some (.int a1), some (.int (-1)), none]) dX3_onDay_1 (by decide) rfl ?_
  refine jg_iconst (v := nI 0) dX3_onDay_2 (by decide) ?_
  refine jg_istore_n (L' := [some (.ref (b + 17)), some (.int a1), some (.int (-1)), some (.int (nI 0))]) dX3_onDay_3 (by decide) rfl ?_
  obtain ⟨x7, e_x7, h⟩ := bd_some h
  refine jg_fg (L' := [some (.ref (b + 17)), some (.int a1), some (.int (-1)), some (.int (nI 0))]) (by repeat (first | exact trivial | refine ⟨rfl, ?_⟩ | show jg_le _ _)) ?_
  refine t_X3_onDay_4  F τ n b a1 s hB _ (x := x7) ?_ F (-1) (nI 0) e_x7
  refine jg_iload_n dX3_onDay_50 rfl ?_
  refine jg_iconst (v := (-1)) dX3_onDay_51 (by decide) ?_
  refine jg_icmp_ne (x := x7) (y := (-1)) (tgt := 62) dX3_onDay_52 (by decide) (fun c8 => ?_) (fun c8 => ?_)
  · replace h := it_f c8 h
    refine jg_aload_n dX3_onDay_62 rfl ?_
    refine cs_get (s := s) (w := .ref (b + 24)) fl_X3_20 dX3_onDay_63 (hB.ob 17 (by decide) rfl) rfl ?_
    refine jg_iload_n dX3_onDay_66 rfl ?_
    obtain ⟨q9, h⟩ := gd_some h
    obtain ⟨x10, e_x10, h⟩ := bd_some h
    obtain ⟨q11, h⟩ := gd_some h
    refine cs_ldt (s := s) (q := (b + 24)) (i := x7) dX3_onDay_67 (hB.ar 24 (by decide) rfl) q9 e_x10 ?_
    obtain rfl := Option.some.inj h
    exact jg_areturn dX3_onDay_68 rfl (Or.inl ⟨_, rfl⟩) ⟨rfl, rfl⟩
  · replace h := it_t c8 h
    refine jg_aload_n dX3_onDay_55 rfl ?_
    refine cs_get (s := s) (w := .ref (b + 18)) fl_X3_14 dX3_onDay_56 (hB.ob 17 (by decide) rfl) rfl ?_
    refine jg_goto (tgt := 68) dX3_onDay_59 (by decide) ?_
    obtain rfl := Option.some.inj h
    exact jg_areturn dX3_onDay_68 rfl (Or.inl ⟨_, rfl⟩) ⟨rfl, rfl⟩
theorem dX2_actOfToday_0 : decode cX2_actOfToday 0 = .ok (.aload_n 0, 1) := by decide +kernel
theorem dX2_actOfToday_1 : decode cX2_actOfToday 1 = .ok (.getfield 32, 3) := by decide +kernel
theorem dX2_actOfToday_4 : decode cX2_actOfToday 4 = .ok (.aload_n 0, 1) := by decide +kernel
theorem dX2_actOfToday_5 : decode cX2_actOfToday 5 = .ok (.invokevirtual 92, 3) := by decide +kernel
theorem dX2_actOfToday_8 : decode cX2_actOfToday 8 = .ok (.invokevirtual 96, 3) := by decide +kernel
theorem dX2_actOfToday_11 : decode cX2_actOfToday 11 = .ok (.areturn, 1) := by decide +kernel
noncomputable def o_X2_actOfToday (F : Nat) (τ : cT) (n : Nat) (b : Nat) (s : cS) : Option (Nat) := (o_X2_today τ n b s).bind fun x1 => ((o_X3_onDay F τ n b s x1).bind fun x2 => (if acb τ n x2 = true then (some x2) else none))
set_option maxHeartbeats 4000000 in
theorem t_X2_actOfToday {Γ : jg_G} {g : Nat → jg_C} (F : Nat) (τ : cT) (n : Nat) (b : Nat) (s : cS) (hB : Bd τ n b) {x : Nat} (h : o_X2_actOfToday F τ n b s = some x) : jc Γ mX2_actOfToday 1 0 0 [some (.ref b)] (ct_h g τ s, n) (.inl (some (.ref x))) (ct_h g τ s, n) := by
  refine jc_of ?_
  rw [o_X2_actOfToday] at h
  refine jg_aload_n dX2_actOfToday_0 rfl ?_
  refine cs_get (s := s) (w := .ref (b + 17)) fl_X2_32 dX2_actOfToday_1 hB.ob0 rfl ?_
  refine jg_aload_n dX2_actOfToday_4 rfl ?_
  obtain ⟨x1, e_x1, h⟩ := bd_some h
  refine cs_call (q := b) (As := []) kv_X2_92 dX2_actOfToday_5 hB.ob0 rfl rfl (by decide) (Nat.le_of_ble_eq_true rfl) rfl (by decide) (Nat.le_of_ble_eq_true rfl) (t_X2_today τ n b s hB e_x1) ?_
  obtain ⟨x2, e_x2, h⟩ := bd_some h
  refine cs_call (q := (b + 17)) (As := [.int x1]) kv_X2_96 dX2_actOfToday_8 (hB.ob 17 (by decide) rfl) rfl rfl (by decide) (Nat.le_of_ble_eq_true rfl) rfl (by decide) (Nat.le_of_ble_eq_true rfl) (t_X3_onDay F τ n b s x1 hB e_x2) ?_
  obtain ⟨q3, h⟩ := gd_some h
  obtain rfl := Option.some.inj h
  exact jg_areturn dX2_actOfToday_11 rfl (Or.inl ⟨_, rfl⟩) ⟨rfl, rfl⟩
theorem dX0_lastNumber_0 : decode cX0_lastNumber 0 = .ok (.aload_n 0, 1) := by decide +kernel
theorem dX0_lastNumber_1 : decode cX0_lastNumber 1 = .ok (.getfield 11, 3) := by decide +kernel
theorem dX0_lastNumber_4 : decode cX0_lastNumber 4 = .ok (.iconst 1, 1) := by decide +kernel
theorem dX0_lastNumber_5 : decode cX0_lastNumber 5 = .ok (.isub, 1) := by decide +kernel
theorem dX0_lastNumber_6 : decode cX0_lastNumber 6 = .ok (.istore_n 3, 1) := by decide +kernel
theorem dX0_lastNumber_7 : decode cX0_lastNumber 7 = .ok (.iload_n 3, 1) := by decide +kernel
theorem dX0_lastNumber_8 : decode cX0_lastNumber 8 = .ok (.ifCond .lt 26, 3) := by decide +kernel
theorem dX0_lastNumber_11 : decode cX0_lastNumber 11 = .ok (.aload_n 0, 1) := by decide +kernel
theorem dX0_lastNumber_12 : decode cX0_lastNumber 12 = .ok (.getfield 15, 3) := by decide +kernel
theorem dX0_lastNumber_15 : decode cX0_lastNumber 15 = .ok (.iload_n 3, 1) := by decide +kernel
theorem dX0_lastNumber_16 : decode cX0_lastNumber 16 = .ok (.iaload, 1) := by decide +kernel
theorem dX0_lastNumber_17 : decode cX0_lastNumber 17 = .ok (.iload_n 1, 1) := by decide +kernel
theorem dX0_lastNumber_18 : decode cX0_lastNumber 18 = .ok (.if_icmp .ne 10, 3) := by decide +kernel
theorem dX0_lastNumber_21 : decode cX0_lastNumber 21 = .ok (.aload_n 0, 1) := by decide +kernel
theorem dX0_lastNumber_22 : decode cX0_lastNumber 22 = .ok (.getfield 19, 3) := by decide +kernel
theorem dX0_lastNumber_25 : decode cX0_lastNumber 25 = .ok (.iload_n 3, 1) := by decide +kernel
theorem dX0_lastNumber_26 : decode cX0_lastNumber 26 = .ok (.iaload, 1) := by decide +kernel
theorem dX0_lastNumber_27 : decode cX0_lastNumber 27 = .ok (.ireturn, 1) := by decide +kernel
theorem dX0_lastNumber_28 : decode cX0_lastNumber 28 = .ok (.iinc 3 (-1), 3) := by decide +kernel
theorem dX0_lastNumber_31 : decode cX0_lastNumber 31 = .ok (.goto (-24), 3) := by decide +kernel
theorem dX0_lastNumber_34 : decode cX0_lastNumber 34 = .ok (.iload_n 2, 1) := by decide +kernel
theorem dX0_lastNumber_35 : decode cX0_lastNumber 35 = .ok (.ireturn, 1) := by decide +kernel
noncomputable def o_X0_lastNumber_7 (F : Nat) (τ : cT) (n : Nat) (p : Nat) (l1 : Int32) (l2 : Int32) (s : cS) : Nat → Int32 → Option ((Unit) ⊕ (Int32))
  | 0, _ => none
  | f + 1, l3 => if l3 < 0 then (some (.inl ())) else (if iL l3 (tl τ (p + 1)) then (if (cg s (p + 1) l3) = l1 then (if iL l3 (tl τ (p + 2)) then (some (.inr (cg s (p + 2) l3))) else none) else (o_X0_lastNumber_7 F τ n p l1 l2 s f (l3 + (-1)))) else none)
set_option maxHeartbeats 4000000 in
theorem t_X0_lastNumber_7 {Γ : jg_G} {g : Nat → jg_C} (F : Nat) (τ : cT) (n : Nat) (p : Nat) (l1 : Int32) (l2 : Int32) (s : cS) (hp : acb τ n p = true) (Q : jg_Q) {x : (Unit) ⊕ (Int32)} (K1 : ∀ y, x = .inl y → jg Γ mX0_lastNumber 0 0 0 34 [none, none, some (.int l2), none] [] (ct_h g τ s, n) Q) (K2 : ∀ z, x = .inr z → Q (.inl (some (.int z))) (ct_h g τ s, n)) : ∀ (f : Nat) (l3 : Int32), o_X0_lastNumber_7 F τ n p l1 l2 s f l3 = some x → jg Γ mX0_lastNumber 0 0 0 7 [some (.ref p), some (.int l1), some (.int l2), some (.int l3)] [] (ct_h g τ s, n) Q := by
  intro f
  induction f with
  | zero => intro l3 h; rw [o_X0_lastNumber_7] at h; cases h
  | succ f ih =>
   intro l3 h
   rw [o_X0_lastNumber_7] at h
   refine jg_iload_n dX0_lastNumber_7 rfl ?_
   refine jg_if_lt (x := l3) (tgt := 34) dX0_lastNumber_8 (by decide) (fun c1 => ?_) (fun c1 => ?_)
   · replace h := it_t c1 h
     refine jg_fg (L' := [none, none, some (.int l2), none]) (by repeat (first | exact trivial | refine ⟨rfl, ?_⟩ | show jg_le _ _)) ?_
     obtain rfl := Option.some.inj h
     exact K1 _ rfl
   · replace h := it_f c1 h
     refine jg_aload_n dX0_lastNumber_11 rfl ?_
     refine cs_get (s := s) (w := .ref (p + 1)) fl_X0_15 dX0_lastNumber_12 (acb_ob hp) rfl ?_
     refine jg_iload_n dX0_lastNumber_15 rfl ?_
     obtain ⟨q2, h⟩ := gd_some h
     refine cs_lda (s := s) (q := (p + 1)) (i := l3) dX0_lastNumber_16 (acb_a1 hp) q2 ?_
     refine jg_iload_n dX0_lastNumber_17 rfl ?_
     refine jg_icmp_ne (x := (cg s (p + 1) l3)) (y := l1) (tgt := 28) dX0_lastNumber_18 (by decide) (fun c3 => ?_) (fun c3 => ?_)
     · replace h := it_f c3 h
       refine jg_iinc (x := l3) (v := l3 + (-1)) (L' := [some (.ref p), some (.int l1), some (.int l2), some (.int (l3 + (-1)))]) dX0_lastNumber_28 rfl (ic_k _ (by decide)) (by decide) rfl ?_
       refine jg_goto (tgt := 7) dX0_lastNumber_31 (by decide) ?_
       refine jg_fg (L' := [some (.ref p), some (.int l1), some (.int l2), some (.int (l3 + (-1)))]) (by repeat (first | exact trivial | refine ⟨rfl, ?_⟩ | show jg_le _ _)) ?_
       exact ih (l3 + (-1)) h
     · replace h := it_t c3 h
       refine jg_aload_n dX0_lastNumber_21 rfl ?_
       refine cs_get (s := s) (w := .ref (p + 2)) fl_X0_19 dX0_lastNumber_22 (acb_ob hp) rfl ?_
       refine jg_iload_n dX0_lastNumber_25 rfl ?_
       obtain ⟨q4, h⟩ := gd_some h
       refine cs_lda (s := s) (q := (p + 2)) (i := l3) dX0_lastNumber_26 (acb_a2 hp) q4 ?_
       obtain rfl := Option.some.inj h
       exact jg_ireturn dX0_lastNumber_27 rfl (K2 _ rfl)
noncomputable def o_X0_lastNumber (F : Nat) (τ : cT) (n : Nat) (p : Nat) (s : cS) (a1 : Int32) (a2 : Int32) : Option (Int32) := (o_X0_lastNumber_7 F τ n p a1 a2 s F ((s.1 p 0) - (nI 1))).bind fun x5 => (Sum.elim (fun y6 => some a2) (fun z7 => some z7) x5)
set_option maxHeartbeats 4000000 in
theorem t_X0_lastNumber {Γ : jg_G} {g : Nat → jg_C} (F : Nat) (τ : cT) (n : Nat) (p : Nat) (s : cS) (a1 : Int32) (a2 : Int32) (hp : acb τ n p = true) {x : Int32} (h : o_X0_lastNumber F τ n p s a1 a2 = some x) : jc Γ mX0_lastNumber 0 0 0 [some (.ref p), some (.int a1), some (.int a2), none] (ct_h g τ s, n) (.inl (some (.int x))) (ct_h g τ s, n) := by
  refine jc_of ?_
  rw [o_X0_lastNumber] at h
  refine jg_aload_n dX0_lastNumber_0 rfl ?_
  refine cs_get (s := s) (w := .int (s.1 p 0)) fl_X0_11 dX0_lastNumber_1 (acb_ob hp) rfl ?_
  refine jg_iconst (v := nI 1) dX0_lastNumber_4 (by decide) ?_
  refine jg_isub (x := (s.1 p 0)) (y := (nI 1)) dX0_lastNumber_5  ?_
  refine jg_istore_n (L' := [some (.ref p), some (.int a1), some (.int a2), some (.int ((s.1 p 0) - (nI 1)))]) dX0_lastNumber_6 (by decide) rfl ?_
  obtain ⟨x5, e_x5, h⟩ := bd_some h
  refine jg_fg (L' := [some (.ref p), some (.int a1), some (.int a2), some (.int ((s.1 p 0) - (nI 1)))]) (by repeat (first | exact trivial | refine ⟨rfl, ?_⟩ | show jg_le _ _)) ?_
  refine t_X0_lastNumber_7  F τ n p a1 a2 s hp _ (x := x5) ?_ ?_ F ((s.1 p 0) - (nI 1)) e_x5
  · intro y6 ey; subst ey; replace h := se_l h
    refine jg_iload_n dX0_lastNumber_34 rfl ?_
    obtain rfl := Option.some.inj h
    exact jg_ireturn dX0_lastNumber_35 rfl ⟨rfl, rfl⟩
  · intro z7 ez; subst ez; replace h := se_r h
    obtain rfl := Option.some.inj h
    exact ⟨rfl, rfl⟩
theorem dX2_fillDepths_0 : decode cX2_fillDepths 0 = .ok (.iconst 0, 1) := by decide +kernel
theorem dX2_fillDepths_1 : decode cX2_fillDepths 1 = .ok (.istore_n 1, 1) := by decide +kernel
theorem dX2_fillDepths_2 : decode cX2_fillDepths 2 = .ok (.iload_n 1, 1) := by decide +kernel
theorem dX2_fillDepths_3 : decode cX2_fillDepths 3 = .ok (.bipush 24, 2) := by decide +kernel
theorem dX2_fillDepths_5 : decode cX2_fillDepths 5 = .ok (.if_icmp .ge 51, 3) := by decide +kernel
theorem dX2_fillDepths_8 : decode cX2_fillDepths 8 = .ok (.aload_n 0, 1) := by decide +kernel
theorem dX2_fillDepths_9 : decode cX2_fillDepths 9 = .ok (.getfield 25, 3) := by decide +kernel
theorem dX2_fillDepths_12 : decode cX2_fillDepths 12 = .ok (.getfield 150, 3) := by decide +kernel
theorem dX2_fillDepths_15 : decode cX2_fillDepths 15 = .ok (.iload_n 1, 1) := by decide +kernel
theorem dX2_fillDepths_16 : decode cX2_fillDepths 16 = .ok (.iaload, 1) := by decide +kernel
theorem dX2_fillDepths_17 : decode cX2_fillDepths 17 = .ok (.istore_n 2, 1) := by decide +kernel
theorem dX2_fillDepths_18 : decode cX2_fillDepths 18 = .ok (.aload_n 0, 1) := by decide +kernel
theorem dX2_fillDepths_19 : decode cX2_fillDepths 19 = .ok (.getfield 67, 3) := by decide +kernel
theorem dX2_fillDepths_22 : decode cX2_fillDepths 22 = .ok (.iload_n 1, 1) := by decide +kernel
theorem dX2_fillDepths_23 : decode cX2_fillDepths 23 = .ok (.iload_n 2, 1) := by decide +kernel
theorem dX2_fillDepths_24 : decode cX2_fillDepths 24 = .ok (.iconst (-1), 1) := by decide +kernel
theorem dX2_fillDepths_25 : decode cX2_fillDepths 25 = .ok (.if_icmp .ne 15, 3) := by decide +kernel
theorem dX2_fillDepths_28 : decode cX2_fillDepths 28 = .ok (.aload_n 0, 1) := by decide +kernel
theorem dX2_fillDepths_29 : decode cX2_fillDepths 29 = .ok (.getfield 18, 3) := by decide +kernel
theorem dX2_fillDepths_32 : decode cX2_fillDepths 32 = .ok (.getfield 146, 3) := by decide +kernel
theorem dX2_fillDepths_35 : decode cX2_fillDepths 35 = .ok (.iload_n 1, 1) := by decide +kernel
theorem dX2_fillDepths_36 : decode cX2_fillDepths 36 = .ok (.iaload, 1) := by decide +kernel
theorem dX2_fillDepths_37 : decode cX2_fillDepths 37 = .ok (.goto 12, 3) := by decide +kernel
theorem dX2_fillDepths_40 : decode cX2_fillDepths 40 = .ok (.aload_n 0, 1) := by decide +kernel
theorem dX2_fillDepths_41 : decode cX2_fillDepths 41 = .ok (.getfield 25, 3) := by decide +kernel
theorem dX2_fillDepths_44 : decode cX2_fillDepths 44 = .ok (.getfield 149, 3) := by decide +kernel
theorem dX2_fillDepths_47 : decode cX2_fillDepths 47 = .ok (.iload_n 2, 1) := by decide +kernel
theorem dX2_fillDepths_48 : decode cX2_fillDepths 48 = .ok (.iaload, 1) := by decide +kernel
theorem dX2_fillDepths_49 : decode cX2_fillDepths 49 = .ok (.iastore, 1) := by decide +kernel
theorem dX2_fillDepths_50 : decode cX2_fillDepths 50 = .ok (.iinc 1 1, 3) := by decide +kernel
theorem dX2_fillDepths_53 : decode cX2_fillDepths 53 = .ok (.goto (-51), 3) := by decide +kernel
theorem dX2_fillDepths_56 : decode cX2_fillDepths 56 = .ok (.return_, 1) := by decide +kernel
noncomputable def o_X2_fillDepths_2 (F : Nat) (τ : cT) (n : Nat) (b : Nat)  : Nat → Int32 → cS → Option (cS)
  | 0, _, _ => none
  | f + 1, l1, s => if (nI 24) ≤ l1 then (some s) else (if iL l1 24 then (if (cg s (b + 16) l1) = (-1) then (o_X2_fillDepths_2 F τ n b f (l1 + nI 1) (ca s (b + 168) l1 (cg s (b + 3) l1))) else (if iL (cg s (b + 16) l1) 200 then (o_X2_fillDepths_2 F τ n b f (l1 + nI 1) (ca s (b + 168) l1 (cg s (b + 14) (cg s (b + 16) l1)))) else none)) else none)
set_option maxHeartbeats 4000000 in
theorem t_X2_fillDepths_2 {Γ : jg_G} {g : Nat → jg_C} (F : Nat) (τ : cT) (n : Nat) (b : Nat)  (hB : Bd τ n b) (Q : jg_Q) {x : cS} (K1 : jg Γ mX2_fillDepths 0 0 0 56 [none, none, none] [] (ct_h g τ x, n) Q)  : ∀ (f : Nat) (l1 : Int32) (s : cS), o_X2_fillDepths_2 F τ n b f l1 s = some x → jg Γ mX2_fillDepths 0 0 0 2 [some (.ref b), some (.int l1), none] [] (ct_h g τ s, n) Q := by
  intro f
  induction f with
  | zero => intro l1 s h; rw [o_X2_fillDepths_2] at h; cases h
  | succ f ih =>
   intro l1 s h
   rw [o_X2_fillDepths_2] at h
   refine jg_iload_n dX2_fillDepths_2 rfl ?_
   refine jg_bipush (v := nI 24) dX2_fillDepths_3 (by decide) ?_
   refine jg_icmp_ge (x := l1) (y := (nI 24)) (tgt := 56) dX2_fillDepths_5 (by decide) (fun c1 => ?_) (fun c1 => ?_)
   · replace h := it_t c1 h
     refine jg_fg (L' := [none, none, none]) (by repeat (first | exact trivial | refine ⟨rfl, ?_⟩ | show jg_le _ _)) ?_
     obtain rfl := Option.some.inj h
     exact K1
   · replace h := it_f c1 h
     refine jg_aload_n dX2_fillDepths_8 rfl ?_
     refine cs_get (s := s) (w := .ref (b + 11)) fl_X2_25 dX2_fillDepths_9 hB.ob0 rfl ?_
     refine cs_get (s := s) (w := .ref (b + 16)) fl_X2_150 dX2_fillDepths_12 (hB.ob 11 (by decide) rfl) rfl ?_
     refine jg_iload_n dX2_fillDepths_15 rfl ?_
     obtain ⟨q2, h⟩ := gd_some h
     refine cs_lda (s := s) (q := (b + 16)) (i := l1) dX2_fillDepths_16 (hB.ar 16 (by decide) rfl) q2 ?_
     refine jg_istore_n (L' := [some (.ref b), some (.int l1), some (.int (cg s (b + 16) l1))]) dX2_fillDepths_17 (by decide) rfl ?_
     refine jg_aload_n dX2_fillDepths_18 rfl ?_
     refine cs_get (s := s) (w := .ref (b + 168)) fl_X2_67 dX2_fillDepths_19 hB.ob0 rfl ?_
     refine jg_iload_n dX2_fillDepths_22 rfl ?_
     refine jg_iload_n dX2_fillDepths_23 rfl ?_
     refine jg_iconst (v := (-1)) dX2_fillDepths_24 (by decide) ?_
     refine jg_icmp_ne (x := (cg s (b + 16) l1)) (y := (-1)) (tgt := 40) dX2_fillDepths_25 (by decide) (fun c3 => ?_) (fun c3 => ?_)
     · replace h := it_f c3 h
       refine jg_aload_n dX2_fillDepths_40 rfl ?_
       refine cs_get (s := s) (w := .ref (b + 11)) fl_X2_25 dX2_fillDepths_41 hB.ob0 rfl ?_
       refine cs_get (s := s) (w := .ref (b + 14)) fl_X2_149 dX2_fillDepths_44 (hB.ob 11 (by decide) rfl) rfl ?_
       refine jg_iload_n dX2_fillDepths_47 rfl ?_
       obtain ⟨q4, h⟩ := gd_some h
       refine cs_lda (s := s) (q := (b + 14)) (i := (cg s (b + 16) l1)) dX2_fillDepths_48 (hB.ar 14 (by decide) rfl) q4 ?_
       refine cs_sta (s := s) (q := (b + 168)) (i := l1) (x := (cg s (b + 14) (cg s (b + 16) l1))) dX2_fillDepths_49 (hB.ar 168 (by decide) rfl) q2 ?_
       refine jg_iinc (x := l1) (v := l1 + nI 1) (L' := [some (.ref b), some (.int (l1 + nI 1)), some (.int (cg s (b + 16) l1))]) dX2_fillDepths_50 rfl (ic_k _ (by decide)) (by decide) rfl ?_
       refine jg_goto (tgt := 2) dX2_fillDepths_53 (by decide) ?_
       refine jg_fg (L' := [some (.ref b), some (.int (l1 + nI 1)), none]) (by repeat (first | exact trivial | refine ⟨rfl, ?_⟩ | show jg_le _ _)) ?_
       exact ih (l1 + nI 1) (ca s (b + 168) l1 (cg s (b + 14) (cg s (b + 16) l1))) h
     · replace h := it_t c3 h
       refine jg_aload_n dX2_fillDepths_28 rfl ?_
       refine cs_get (s := s) (w := .ref (b + 1)) fl_X2_18 dX2_fillDepths_29 hB.ob0 rfl ?_
       refine cs_get (s := s) (w := .ref (b + 3)) fl_X2_146 dX2_fillDepths_32 (hB.ob 1 (by decide) rfl) rfl ?_
       refine jg_iload_n dX2_fillDepths_35 rfl ?_
       refine cs_lda (s := s) (q := (b + 3)) (i := l1) dX2_fillDepths_36 (hB.ar 3 (by decide) rfl) q2 ?_
       refine jg_goto (tgt := 49) dX2_fillDepths_37 (by decide) ?_
       refine cs_sta (s := s) (q := (b + 168)) (i := l1) (x := (cg s (b + 3) l1)) dX2_fillDepths_49 (hB.ar 168 (by decide) rfl) q2 ?_
       refine jg_iinc (x := l1) (v := l1 + nI 1) (L' := [some (.ref b), some (.int (l1 + nI 1)), some (.int (cg s (b + 16) l1))]) dX2_fillDepths_50 rfl (ic_k _ (by decide)) (by decide) rfl ?_
       refine jg_goto (tgt := 2) dX2_fillDepths_53 (by decide) ?_
       refine jg_fg (L' := [some (.ref b), some (.int (l1 + nI 1)), none]) (by repeat (first | exact trivial | refine ⟨rfl, ?_⟩ | show jg_le _ _)) ?_
       exact ih (l1 + nI 1) (ca s (b + 168) l1 (cg s (b + 3) l1)) h
noncomputable def o_X2_fillDepths (F : Nat) (τ : cT) (n : Nat) (b : Nat) (s : cS) : Option (cS) := (o_X2_fillDepths_2 F τ n b F (nI 0) s).bind fun x5 => (some x5)
set_option maxHeartbeats 4000000 in
theorem t_X2_fillDepths {Γ : jg_G} {g : Nat → jg_C} (F : Nat) (τ : cT) (n : Nat) (b : Nat) (s : cS) (hB : Bd τ n b) {x : cS} (h : o_X2_fillDepths F τ n b s = some x) : jc Γ mX2_fillDepths 0 0 0 [some (.ref b), none, none] (ct_h g τ s, n) (.inl none) (ct_h g τ x, n) := by
  refine jc_of ?_
  rw [o_X2_fillDepths] at h
  refine jg_iconst (v := nI 0) dX2_fillDepths_0 (by decide) ?_
  refine jg_istore_n (L' := [some (.ref b), some (.int (nI 0)), none]) dX2_fillDepths_1 (by decide) rfl ?_
  obtain ⟨x5, e_x5, h⟩ := bd_some h
  refine jg_fg (L' := [some (.ref b), some (.int (nI 0)), none]) (by repeat (first | exact trivial | refine ⟨rfl, ?_⟩ | show jg_le _ _)) ?_
  refine t_X2_fillDepths_2  F τ n b hB _ (x := x5) ?_ F (nI 0) s e_x5
  obtain rfl := Option.some.inj h
  exact jg_return dX2_fillDepths_56 rfl ⟨rfl, rfl⟩
theorem dJ7_fill_53178_0 : decode cJ7_fill_53178 0 = .ok (.iconst 0, 1) := by decide +kernel
theorem dJ7_fill_53178_1 : decode cJ7_fill_53178 1 = .ok (.istore_n 2, 1) := by decide +kernel
theorem dJ7_fill_53178_2 : decode cJ7_fill_53178 2 = .ok (.aload_n 0, 1) := by decide +kernel
theorem dJ7_fill_53178_3 : decode cJ7_fill_53178 3 = .ok (.arraylength, 1) := by decide +kernel
theorem dJ7_fill_53178_4 : decode cJ7_fill_53178 4 = .ok (.istore_n 3, 1) := by decide +kernel
theorem dJ7_fill_53178_5 : decode cJ7_fill_53178 5 = .ok (.iload_n 2, 1) := by decide +kernel
theorem dJ7_fill_53178_6 : decode cJ7_fill_53178 6 = .ok (.iload_n 3, 1) := by decide +kernel
theorem dJ7_fill_53178_7 : decode cJ7_fill_53178 7 = .ok (.if_icmp .ge 13, 3) := by decide +kernel
theorem dJ7_fill_53178_10 : decode cJ7_fill_53178 10 = .ok (.aload_n 0, 1) := by decide +kernel
theorem dJ7_fill_53178_11 : decode cJ7_fill_53178 11 = .ok (.iload_n 2, 1) := by decide +kernel
theorem dJ7_fill_53178_12 : decode cJ7_fill_53178 12 = .ok (.iload_n 1, 1) := by decide +kernel
theorem dJ7_fill_53178_13 : decode cJ7_fill_53178 13 = .ok (.iastore, 1) := by decide +kernel
theorem dJ7_fill_53178_14 : decode cJ7_fill_53178 14 = .ok (.iinc 2 1, 3) := by decide +kernel
theorem dJ7_fill_53178_17 : decode cJ7_fill_53178 17 = .ok (.goto (-12), 3) := by decide +kernel
theorem dJ7_fill_53178_20 : decode cJ7_fill_53178 20 = .ok (.return_, 1) := by decide +kernel
noncomputable def o_J7_fill_53178_5 (F : Nat) (τ : cT) (n : Nat) (a1 : Nat) (n1 : Nat) (l1 : Int32) (l3 : Int32)  : Nat → Int32 → cS → Option (cS)
  | 0, _, _ => none
  | f + 1, l2, s => if l3 ≤ l2 then (some s) else (if iL l2 n1 then (o_J7_fill_53178_5 F τ n a1 n1 l1 l3 f (l2 + nI 1) (ca s a1 l2 l1)) else none)
set_option maxHeartbeats 4000000 in
theorem t_J7_fill_53178_5 {Γ : jg_G} {g : Nat → jg_C} (F : Nat) (τ : cT) (n : Nat) (a1 : Nat) (n1 : Nat) (l1 : Int32) (l3 : Int32)  (h1 : Ar τ n a1 0 n1) (Q : jg_Q) {x : cS} (K1 : jg Γ mJ7_fill_53178 0 0 0 20 [none, none, none, none] [] (ct_h g τ x, n) Q)  : ∀ (f : Nat) (l2 : Int32) (s : cS), o_J7_fill_53178_5 F τ n a1 n1 l1 l3 f l2 s = some x → jg Γ mJ7_fill_53178 0 0 0 5 [some (.ref a1), some (.int l1), some (.int l2), some (.int l3)] [] (ct_h g τ s, n) Q := by
  intro f
  induction f with
  | zero => intro l2 s h; rw [o_J7_fill_53178_5] at h; cases h
  | succ f ih =>
   intro l2 s h
   rw [o_J7_fill_53178_5] at h
   refine jg_iload_n dJ7_fill_53178_5 rfl ?_
   refine jg_iload_n dJ7_fill_53178_6 rfl ?_
   refine jg_icmp_ge (x := l2) (y := l3) (tgt := 20) dJ7_fill_53178_7 (by decide) (fun c1 => ?_) (fun c1 => ?_)
   · replace h := it_t c1 h
     refine jg_fg (L' := [none, none, none, none]) (by repeat (first | exact trivial | refine ⟨rfl, ?_⟩ | show jg_le _ _)) ?_
     obtain rfl := Option.some.inj h
     exact K1
   · replace h := it_f c1 h
     refine jg_aload_n dJ7_fill_53178_10 rfl ?_
     refine jg_iload_n dJ7_fill_53178_11 rfl ?_
     refine jg_iload_n dJ7_fill_53178_12 rfl ?_
     obtain ⟨q2, h⟩ := gd_some h
     refine cs_sta (s := s) (q := a1) (i := l2) (x := l1) dJ7_fill_53178_13 h1 q2 ?_
     refine jg_iinc (x := l2) (v := l2 + nI 1) (L' := [some (.ref a1), some (.int l1), some (.int (l2 + nI 1)), some (.int l3)]) dJ7_fill_53178_14 rfl (ic_k _ (by decide)) (by decide) rfl ?_
     refine jg_goto (tgt := 5) dJ7_fill_53178_17 (by decide) ?_
     refine jg_fg (L' := [some (.ref a1), some (.int l1), some (.int (l2 + nI 1)), some (.int l3)]) (by repeat (first | exact trivial | refine ⟨rfl, ?_⟩ | show jg_le _ _)) ?_
     exact ih (l2 + nI 1) (ca s a1 l2 l1) h
noncomputable def o_J7_fill_53178 (F : Nat) (τ : cT) (n : Nat) (a1 : Nat) (n1 : Nat) (s : cS) (a2 : Int32) : Option (cS) := (o_J7_fill_53178_5 F τ n a1 n1 a2 (nI n1) F (nI 0) s).bind fun x3 => (some x3)
set_option maxHeartbeats 4000000 in
theorem t_J7_fill_53178 {Γ : jg_G} {g : Nat → jg_C} (F : Nat) (τ : cT) (n : Nat) (a1 : Nat) (n1 : Nat) (s : cS) (a2 : Int32) (h1 : Ar τ n a1 0 n1) {x : cS} (h : o_J7_fill_53178 F τ n a1 n1 s a2 = some x) : jc Γ mJ7_fill_53178 0 0 0 [some (.ref a1), some (.int a2), none, none] (ct_h g τ s, n) (.inl none) (ct_h g τ x, n) := by
  refine jc_of ?_
  rw [o_J7_fill_53178] at h
  refine jg_iconst (v := nI 0) dJ7_fill_53178_0 (by decide) ?_
  refine jg_istore_n (L' := [some (.ref a1), some (.int a2), some (.int (nI 0)), none]) dJ7_fill_53178_1 (by decide) rfl ?_
  refine jg_aload_n dJ7_fill_53178_2 rfl ?_
  refine cs_len (s := s) (q := a1) (by decide) dJ7_fill_53178_3 h1 ?_
  refine jg_istore_n (L' := [some (.ref a1), some (.int a2), some (.int (nI 0)), some (.int (nI n1))]) dJ7_fill_53178_4 (by decide) rfl ?_
  obtain ⟨x3, e_x3, h⟩ := bd_some h
  refine jg_fg (L' := [some (.ref a1), some (.int a2), some (.int (nI 0)), some (.int (nI n1))]) (by repeat (first | exact trivial | refine ⟨rfl, ?_⟩ | show jg_le _ _)) ?_
  refine t_J7_fill_53178_5  F τ n a1 n1 a2 (nI n1) h1 _ (x := x3) ?_ F (nI 0) s e_x3
  obtain rfl := Option.some.inj h
  exact jg_return dJ7_fill_53178_20 rfl ⟨rfl, rfl⟩
theorem dX4_beginBringing_0 : decode cX4_beginBringing 0 = .ok (.aload_n 0, 1) := by decide +kernel
theorem dX4_beginBringing_1 : decode cX4_beginBringing 1 = .ok (.iconst 0, 1) := by decide +kernel
theorem dX4_beginBringing_2 : decode cX4_beginBringing 2 = .ok (.putfield 62, 3) := by decide +kernel
theorem dX4_beginBringing_5 : decode cX4_beginBringing 5 = .ok (.aload_n 0, 1) := by decide +kernel
theorem dX4_beginBringing_6 : decode cX4_beginBringing 6 = .ok (.getfield 41, 3) := by decide +kernel
theorem dX4_beginBringing_9 : decode cX4_beginBringing 9 = .ok (.ldc 65, 2) := by decide +kernel
theorem dX4_beginBringing_11 : decode cX4_beginBringing 11 = .ok (.invokestatic 66, 3) := by decide +kernel
theorem dX4_beginBringing_14 : decode cX4_beginBringing 14 = .ok (.aload_n 0, 1) := by decide +kernel
theorem dX4_beginBringing_15 : decode cX4_beginBringing 15 = .ok (.getfield 41, 3) := by decide +kernel
theorem dX4_beginBringing_18 : decode cX4_beginBringing 18 = .ok (.iconst 0, 1) := by decide +kernel
theorem dX4_beginBringing_19 : decode cX4_beginBringing 19 = .ok (.iconst 0, 1) := by decide +kernel
theorem dX4_beginBringing_20 : decode cX4_beginBringing 20 = .ok (.iastore, 1) := by decide +kernel
theorem dX4_beginBringing_21 : decode cX4_beginBringing 21 = .ok (.return_, 1) := by decide +kernel
noncomputable def o_X4_beginBringing (F : Nat) (τ : cT) (n : Nat) (b : Nat) (s : cS) : Option (cS) := (o_J7_fill_53178 F τ n (b + 166) 16 (cp s (b + 131) 7 (nI 0)) (nI 1000000)).bind fun x1 => (some (ca x1 (b + 166) (nI 0) (nI 0)))
set_option maxHeartbeats 4000000 in
theorem t_X4_beginBringing {Γ : jg_G} {g : Nat → jg_C} (F : Nat) (τ : cT) (n : Nat) (b : Nat) (s : cS) (hB : Bd τ n b) {x : cS} (h : o_X4_beginBringing F τ n b s = some x) : jc Γ mX4_beginBringing 1 0 0 [some (.ref (b + 131))] (ct_h g τ s, n) (.inl none) (ct_h g τ x, n) := by
  refine jc_of ?_
  rw [o_X4_beginBringing] at h
  refine jg_aload_n dX4_beginBringing_0 rfl ?_
  refine jg_iconst (v := nI 0) dX4_beginBringing_1 (by decide) ?_
  refine cs_put (s := s) (k := 7) (x := (nI 0)) fl_X4_62 dX4_beginBringing_2 (hB.ob 131 (by decide) rfl) (ltb rfl) (rfl) rfl rfl ?_
  refine jg_aload_n dX4_beginBringing_5 rfl ?_
  refine cs_get (s := (cp s (b + 131) 7 (nI 0))) (w := .ref (b + 166)) fl_X4_41 dX4_beginBringing_6 (hB.ob 131 (by decide) rfl) rfl ?_
  refine jg_ldc kk_X4_65 dX4_beginBringing_9 ?_
  rw [show (1000000 : Int32) = nI 1000000 from rfl]
  obtain ⟨x1, e_x1, h⟩ := bd_some h
  refine cs_callS (As := [.ref (b + 166), .int (nI 1000000)]) ks_X4_66 dX4_beginBringing_11 rfl (by decide) (Nat.le_of_ble_eq_true rfl) rfl (by decide) (Nat.le_of_ble_eq_true rfl) (t_J7_fill_53178 F τ n (b + 166) 16 (cp s (b + 131) 7 (nI 0)) (nI 1000000) (hB.ar 166 (by decide) rfl) e_x1) ?_
  refine jg_aload_n dX4_beginBringing_14 rfl ?_
  refine cs_get (s := x1) (w := .ref (b + 166)) fl_X4_41 dX4_beginBringing_15 (hB.ob 131 (by decide) rfl) rfl ?_
  refine jg_iconst (v := nI 0) dX4_beginBringing_18 (by decide) ?_
  refine jg_iconst (v := nI 0) dX4_beginBringing_19 (by decide) ?_
  refine cs_sta (s := x1) (q := (b + 166)) (i := (nI 0)) (x := (nI 0)) dX4_beginBringing_20 (hB.ar 166 (by decide) rfl) (by decide) ?_
  obtain rfl := Option.some.inj h
  exact jg_return dX4_beginBringing_21 rfl ⟨rfl, rfl⟩
theorem dX9_keyValue_0 : decode cX9_keyValue 0 = .ok (.iload_n 1, 1) := by decide +kernel
theorem dX9_keyValue_1 : decode cX9_keyValue 1 = .ok (.tableswitch 42 1 3 #[27, 32, 37], 27) := by decide +kernel
theorem dX9_keyValue_28 : decode cX9_keyValue 28 = .ok (.aload_n 0, 1) := by decide +kernel
theorem dX9_keyValue_29 : decode cX9_keyValue 29 = .ok (.getfield 19, 3) := by decide +kernel
theorem dX9_keyValue_32 : decode cX9_keyValue 32 = .ok (.ireturn, 1) := by decide +kernel
theorem dX9_keyValue_33 : decode cX9_keyValue 33 = .ok (.aload_n 0, 1) := by decide +kernel
theorem dX9_keyValue_34 : decode cX9_keyValue 34 = .ok (.getfield 22, 3) := by decide +kernel
theorem dX9_keyValue_37 : decode cX9_keyValue 37 = .ok (.ireturn, 1) := by decide +kernel
theorem dX9_keyValue_38 : decode cX9_keyValue 38 = .ok (.aload_n 0, 1) := by decide +kernel
theorem dX9_keyValue_39 : decode cX9_keyValue 39 = .ok (.getfield 15, 3) := by decide +kernel
theorem dX9_keyValue_42 : decode cX9_keyValue 42 = .ok (.ireturn, 1) := by decide +kernel
theorem dX9_keyValue_43 : decode cX9_keyValue 43 = .ok (.aload_n 0, 1) := by decide +kernel
theorem dX9_keyValue_44 : decode cX9_keyValue 44 = .ok (.getfield 29, 3) := by decide +kernel
theorem dX9_keyValue_47 : decode cX9_keyValue 47 = .ok (.ireturn, 1) := by decide +kernel
noncomputable def o_X9_keyValue (τ : cT) (n : Nat) (p : Nat) (s : cS) (a1 : Int32) : Option (Int32) := if a1 = nI 1 then (some (s.1 p 1)) else (if a1 = nI 2 then (some (s.1 p 2)) else (if a1 = nI 3 then (some (s.1 p 0)) else (some (s.1 p 9))))
set_option maxHeartbeats 4000000 in
theorem t_X9_keyValue {Γ : jg_G} {g : Nat → jg_C} (τ : cT) (n : Nat) (p : Nat) (s : cS) (a1 : Int32) (hp : Ob τ n p 9) {x : Int32} (h : o_X9_keyValue τ n p s a1 = some x) : jc Γ mX9_keyValue 0 0 0 [some (.ref p), some (.int a1)] (ct_h g τ s, n) (.inl (some (.int x))) (ct_h g τ s, n) := by
  refine jc_of ?_
  rw [o_X9_keyValue] at h
  refine jg_iload_n dX9_keyValue_0 rfl ?_
  by_cases c1 : a1 = nI 1
  · replace h := it_t c1 h
    refine jg_tableIn (off := 27) (tgt := 28) dX9_keyValue_1 (by rw [c1]; decide) (by rw [c1]; decide) (by rw [c1]; rfl) (by decide) ?_
    refine jg_aload_n dX9_keyValue_28 rfl ?_
    refine cs_get (s := s) (w := .int (s.1 p 1)) fl_X9_19 dX9_keyValue_29 hp rfl ?_
    obtain rfl := Option.some.inj h
    exact jg_ireturn dX9_keyValue_32 rfl ⟨rfl, rfl⟩
  replace h := it_f c1 h
  by_cases c2 : a1 = nI 2
  · replace h := it_t c2 h
    refine jg_tableIn (off := 32) (tgt := 33) dX9_keyValue_1 (by rw [c2]; decide) (by rw [c2]; decide) (by rw [c2]; rfl) (by decide) ?_
    refine jg_aload_n dX9_keyValue_33 rfl ?_
    refine cs_get (s := s) (w := .int (s.1 p 2)) fl_X9_22 dX9_keyValue_34 hp rfl ?_
    obtain rfl := Option.some.inj h
    exact jg_ireturn dX9_keyValue_37 rfl ⟨rfl, rfl⟩
  replace h := it_f c2 h
  by_cases c3 : a1 = nI 3
  · replace h := it_t c3 h
    refine jg_tableIn (off := 37) (tgt := 38) dX9_keyValue_1 (by rw [c3]; decide) (by rw [c3]; decide) (by rw [c3]; rfl) (by decide) ?_
    refine jg_aload_n dX9_keyValue_38 rfl ?_
    refine cs_get (s := s) (w := .int (s.1 p 0)) fl_X9_15 dX9_keyValue_39 hp rfl ?_
    obtain rfl := Option.some.inj h
    exact jg_ireturn dX9_keyValue_42 rfl ⟨rfl, rfl⟩
  replace h := it_f c3 h
  refine jg_tableOut (tgt := 43) dX9_keyValue_1 (jt_outN 1 3 (a1) (fun k h1 h2 => by rcases (show k = 1 ∨ k = 2 ∨ k = 3 by omega) with rfl | rfl | rfl <;> assumption)) (by decide) ?_
  refine jg_aload_n dX9_keyValue_43 rfl ?_
  refine cs_get (s := s) (w := .int (s.1 p 9)) fl_X9_29 dX9_keyValue_44 hp rfl ?_
  obtain rfl := Option.some.inj h
  exact jg_ireturn dX9_keyValue_47 rfl ⟨rfl, rfl⟩
theorem dX9_turnValue_0 : decode cX9_turnValue 0 = .ok (.iload_n 1, 1) := by decide +kernel
theorem dX9_turnValue_1 : decode cX9_turnValue 1 = .ok (.iconst 4, 1) := by decide +kernel
theorem dX9_turnValue_2 : decode cX9_turnValue 2 = .ok (.if_icmp .lt 14, 3) := by decide +kernel
theorem dX9_turnValue_5 : decode cX9_turnValue 5 = .ok (.aload_n 0, 1) := by decide +kernel
theorem dX9_turnValue_6 : decode cX9_turnValue 6 = .ok (.iload_n 1, 1) := by decide +kernel
theorem dX9_turnValue_7 : decode cX9_turnValue 7 = .ok (.iconst 4, 1) := by decide +kernel
theorem dX9_turnValue_8 : decode cX9_turnValue 8 = .ok (.isub, 1) := by decide +kernel
theorem dX9_turnValue_9 : decode cX9_turnValue 9 = .ok (.invokevirtual 75, 3) := by decide +kernel
theorem dX9_turnValue_12 : decode cX9_turnValue 12 = .ok (.ineg, 1) := by decide +kernel
theorem dX9_turnValue_13 : decode cX9_turnValue 13 = .ok (.goto 8, 3) := by decide +kernel
theorem dX9_turnValue_16 : decode cX9_turnValue 16 = .ok (.aload_n 0, 1) := by decide +kernel
theorem dX9_turnValue_17 : decode cX9_turnValue 17 = .ok (.iload_n 1, 1) := by decide +kernel
theorem dX9_turnValue_18 : decode cX9_turnValue 18 = .ok (.invokevirtual 75, 3) := by decide +kernel
theorem dX9_turnValue_21 : decode cX9_turnValue 21 = .ok (.ireturn, 1) := by decide +kernel
noncomputable def o_X9_turnValue (τ : cT) (n : Nat) (p : Nat) (s : cS) (a1 : Int32) : Option (Int32) := if a1 < (nI 4) then ((o_X9_keyValue τ n p s a1).bind fun x2 => (some x2)) else ((o_X9_keyValue τ n p s (a1 - (nI 4))).bind fun x3 => (some (-x3)))
set_option maxHeartbeats 4000000 in
theorem t_X9_turnValue {Γ : jg_G} {g : Nat → jg_C} (τ : cT) (n : Nat) (p : Nat) (s : cS) (a1 : Int32) (hp : Ob τ n p 9) {x : Int32} (h : o_X9_turnValue τ n p s a1 = some x) : jc Γ mX9_turnValue 1 0 0 [some (.ref p), some (.int a1)] (ct_h g τ s, n) (.inl (some (.int x))) (ct_h g τ s, n) := by
  refine jc_of ?_
  rw [o_X9_turnValue] at h
  refine jg_iload_n dX9_turnValue_0 rfl ?_
  refine jg_iconst (v := nI 4) dX9_turnValue_1 (by decide) ?_
  refine jg_icmp_lt (x := a1) (y := (nI 4)) (tgt := 16) dX9_turnValue_2 (by decide) (fun c1 => ?_) (fun c1 => ?_)
  · replace h := it_t c1 h
    refine jg_aload_n dX9_turnValue_16 rfl ?_
    refine jg_iload_n dX9_turnValue_17 rfl ?_
    obtain ⟨x2, e_x2, h⟩ := bd_some h
    refine cs_call (q := p) (As := [.int a1]) kv_X9_75 dX9_turnValue_18 hp rfl rfl (by decide) (Nat.le_of_ble_eq_true rfl) rfl (by decide) (Nat.le_of_ble_eq_true rfl) (t_X9_keyValue τ n p s a1 hp e_x2) ?_
    obtain rfl := Option.some.inj h
    exact jg_ireturn dX9_turnValue_21 rfl ⟨rfl, rfl⟩
  · replace h := it_f c1 h
    refine jg_aload_n dX9_turnValue_5 rfl ?_
    refine jg_iload_n dX9_turnValue_6 rfl ?_
    refine jg_iconst (v := nI 4) dX9_turnValue_7 (by decide) ?_
    refine jg_isub (x := a1) (y := (nI 4)) dX9_turnValue_8  ?_
    obtain ⟨x3, e_x3, h⟩ := bd_some h
    refine cs_call (q := p) (As := [.int (a1 - (nI 4))]) kv_X9_75 dX9_turnValue_9 hp rfl rfl (by decide) (Nat.le_of_ble_eq_true rfl) rfl (by decide) (Nat.le_of_ble_eq_true rfl) (t_X9_keyValue τ n p s (a1 - (nI 4)) hp e_x3) ?_
    refine jg_ineg dX9_turnValue_12 ?_
    refine jg_goto (tgt := 21) dX9_turnValue_13 (by decide) ?_
    obtain rfl := Option.some.inj h
    exact jg_ireturn dX9_turnValue_21 rfl ⟨rfl, rfl⟩
theorem dX5_isAhead_0 : decode cX5_isAhead 0 = .ok (.aload_n 0, 1) := by decide +kernel
theorem dX5_isAhead_1 : decode cX5_isAhead 1 = .ok (.getfield 20, 3) := by decide +kernel
theorem dX5_isAhead_4 : decode cX5_isAhead 4 = .ok (.iload_n 1, 1) := by decide +kernel
theorem dX5_isAhead_5 : decode cX5_isAhead 5 = .ok (.aaload, 1) := by decide +kernel
theorem dX5_isAhead_6 : decode cX5_isAhead 6 = .ok (.iload_n 3, 1) := by decide +kernel
theorem dX5_isAhead_7 : decode cX5_isAhead 7 = .ok (.invokevirtual 87, 3) := by decide +kernel
theorem dX5_isAhead_10 : decode cX5_isAhead 10 = .ok (.istore 4, 2) := by decide +kernel
theorem dX5_isAhead_12 : decode cX5_isAhead 12 = .ok (.aload_n 0, 1) := by decide +kernel
theorem dX5_isAhead_13 : decode cX5_isAhead 13 = .ok (.getfield 20, 3) := by decide +kernel
theorem dX5_isAhead_16 : decode cX5_isAhead 16 = .ok (.iload_n 2, 1) := by decide +kernel
theorem dX5_isAhead_17 : decode cX5_isAhead 17 = .ok (.aaload, 1) := by decide +kernel
theorem dX5_isAhead_18 : decode cX5_isAhead 18 = .ok (.iload_n 3, 1) := by decide +kernel
theorem dX5_isAhead_19 : decode cX5_isAhead 19 = .ok (.invokevirtual 87, 3) := by decide +kernel
theorem dX5_isAhead_22 : decode cX5_isAhead 22 = .ok (.istore 5, 2) := by decide +kernel
theorem dX5_isAhead_24 : decode cX5_isAhead 24 = .ok (.iload 4, 2) := by decide +kernel
theorem dX5_isAhead_26 : decode cX5_isAhead 26 = .ok (.iload 5, 2) := by decide +kernel
theorem dX5_isAhead_28 : decode cX5_isAhead 28 = .ok (.if_icmp .lt 15, 3) := by decide +kernel
theorem dX5_isAhead_31 : decode cX5_isAhead 31 = .ok (.iload 4, 2) := by decide +kernel
theorem dX5_isAhead_33 : decode cX5_isAhead 33 = .ok (.iload 5, 2) := by decide +kernel
theorem dX5_isAhead_35 : decode cX5_isAhead 35 = .ok (.if_icmp .ne 12, 3) := by decide +kernel
theorem dX5_isAhead_38 : decode cX5_isAhead 38 = .ok (.iload_n 1, 1) := by decide +kernel
theorem dX5_isAhead_39 : decode cX5_isAhead 39 = .ok (.iload_n 2, 1) := by decide +kernel
theorem dX5_isAhead_40 : decode cX5_isAhead 40 = .ok (.if_icmp .ge 7, 3) := by decide +kernel
theorem dX5_isAhead_43 : decode cX5_isAhead 43 = .ok (.iconst 1, 1) := by decide +kernel
theorem dX5_isAhead_44 : decode cX5_isAhead 44 = .ok (.goto 4, 3) := by decide +kernel
theorem dX5_isAhead_47 : decode cX5_isAhead 47 = .ok (.iconst 0, 1) := by decide +kernel
theorem dX5_isAhead_48 : decode cX5_isAhead 48 = .ok (.ireturn, 1) := by decide +kernel
noncomputable def o_X5_isAhead (τ : cT) (n : Nat) (b : Nat) (s : cS) (a1 : Int32) (a2 : Int32) (a3 : Int32) : Option (Int32) := if iL a1 80 then ((o_X9_turnValue τ n (b + 39 + 1 + a1.toNatClampNeg) s a3).bind fun x2 => (if iL a2 80 then ((o_X9_turnValue τ n (b + 39 + 1 + a2.toNatClampNeg) s a3).bind fun x4 => (if x2 < x4 then (some (nI 1)) else (if x2 = x4 then (if a2 ≤ a1 then (some (nI 0)) else (some (nI 1))) else (some (nI 0))))) else none)) else none
set_option maxHeartbeats 4000000 in
theorem t_X5_isAhead {Γ : jg_G} {g : Nat → jg_C} (τ : cT) (n : Nat) (b : Nat) (s : cS) (a1 : Int32) (a2 : Int32) (a3 : Int32) (hB : Bd τ n b) {x : Int32} (h : o_X5_isAhead τ n b s a1 a2 a3 = some x) : jc Γ mX5_isAhead 2 0 0 [some (.ref (b + 27)), some (.int a1), some (.int a2), some (.int a3), none, none] (ct_h g τ s, n) (.inl (some (.int x))) (ct_h g τ s, n) := by
  refine jc_of ?_
  rw [o_X5_isAhead] at h
  refine jg_aload_n dX5_isAhead_0 rfl ?_
  refine cs_get (s := s) (w := .ref (b + 39)) fl_X5_20 dX5_isAhead_1 (hB.ob 27 (by decide) rfl) rfl ?_
  refine jg_iload_n dX5_isAhead_4 rfl ?_
  obtain ⟨q1, h⟩ := gd_some h
  refine cs_ldr (s := s) (q := (b + 39)) (i := a1) (kd := 6) (by decide) dX5_isAhead_5 (hB.ar 39 (by decide) rfl) q1 ?_
  refine jg_iload_n dX5_isAhead_6 rfl ?_
  obtain ⟨x2, e_x2, h⟩ := bd_some h
  refine cs_call (q := (b + 39 + 1 + a1.toNatClampNeg)) (As := [.int a3]) kv_X5_87 dX5_isAhead_7 (hB.ship q1.2) rfl rfl (by decide) (Nat.le_of_ble_eq_true rfl) rfl (by decide) (Nat.le_of_ble_eq_true rfl) (t_X9_turnValue τ n (b + 39 + 1 + a1.toNatClampNeg) s a3 (hB.ship q1.2) e_x2) ?_
  refine jg_istore (L' := [some (.ref (b + 27)), some (.int a1), some (.int a2), some (.int a3), some (.int x2), none]) dX5_isAhead_10 (by decide) rfl ?_
  refine jg_aload_n dX5_isAhead_12 rfl ?_
  refine cs_get (s := s) (w := .ref (b + 39)) fl_X5_20 dX5_isAhead_13 (hB.ob 27 (by decide) rfl) rfl ?_
  refine jg_iload_n dX5_isAhead_16 rfl ?_
  obtain ⟨q3, h⟩ := gd_some h
  refine cs_ldr (s := s) (q := (b + 39)) (i := a2) (kd := 6) (by decide) dX5_isAhead_17 (hB.ar 39 (by decide) rfl) q3 ?_
  refine jg_iload_n dX5_isAhead_18 rfl ?_
  obtain ⟨x4, e_x4, h⟩ := bd_some h
  refine cs_call (q := (b + 39 + 1 + a2.toNatClampNeg)) (As := [.int a3]) kv_X5_87 dX5_isAhead_19 (hB.ship q3.2) rfl rfl (by decide) (Nat.le_of_ble_eq_true rfl) rfl (by decide) (Nat.le_of_ble_eq_true rfl) (t_X9_turnValue τ n (b + 39 + 1 + a2.toNatClampNeg) s a3 (hB.ship q3.2) e_x4) ?_
  refine jg_istore (L' := [some (.ref (b + 27)), some (.int a1), some (.int a2), some (.int a3), some (.int x2), some (.int x4)]) dX5_isAhead_22 (by decide) rfl ?_
  refine jg_iload dX5_isAhead_24 rfl ?_
  refine jg_iload dX5_isAhead_26 rfl ?_
  refine jg_icmp_lt (x := x2) (y := x4) (tgt := 43) dX5_isAhead_28 (by decide) (fun c5 => ?_) (fun c5 => ?_)
  · replace h := it_t c5 h
    refine jg_iconst (v := nI 1) dX5_isAhead_43 (by decide) ?_
    refine jg_goto (tgt := 48) dX5_isAhead_44 (by decide) ?_
    obtain rfl := Option.some.inj h
    exact jg_zreturn dX5_isAhead_48 rfl (rfl) ⟨rfl, rfl⟩
  · replace h := it_f c5 h
    refine jg_iload dX5_isAhead_31 rfl ?_
    refine jg_iload dX5_isAhead_33 rfl ?_
    refine jg_icmp_ne (x := x2) (y := x4) (tgt := 47) dX5_isAhead_35 (by decide) (fun c6 => ?_) (fun c6 => ?_)
    · replace h := it_f c6 h
      refine jg_iconst (v := nI 0) dX5_isAhead_47 (by decide) ?_
      obtain rfl := Option.some.inj h
      exact jg_zreturn dX5_isAhead_48 rfl (rfl) ⟨rfl, rfl⟩
    · replace h := it_t c6 h
      refine jg_iload_n dX5_isAhead_38 rfl ?_
      refine jg_iload_n dX5_isAhead_39 rfl ?_
      refine jg_icmp_ge (x := a1) (y := a2) (tgt := 47) dX5_isAhead_40 (by decide) (fun c7 => ?_) (fun c7 => ?_)
      · replace h := it_t c7 h
        refine jg_iconst (v := nI 0) dX5_isAhead_47 (by decide) ?_
        obtain rfl := Option.some.inj h
        exact jg_zreturn dX5_isAhead_48 rfl (rfl) ⟨rfl, rfl⟩
      · replace h := it_f c7 h
        refine jg_iconst (v := nI 1) dX5_isAhead_43 (by decide) ?_
        refine jg_goto (tgt := 48) dX5_isAhead_44 (by decide) ?_
        obtain rfl := Option.some.inj h
        exact jg_zreturn dX5_isAhead_48 rfl (rfl) ⟨rfl, rfl⟩
theorem dX5_nextInTurn_0 : decode cX5_nextInTurn 0 = .ok (.iconst (-1), 1) := by decide +kernel
theorem dX5_nextInTurn_1 : decode cX5_nextInTurn 1 = .ok (.istore_n 3, 1) := by decide +kernel
theorem dX5_nextInTurn_2 : decode cX5_nextInTurn 2 = .ok (.iconst 0, 1) := by decide +kernel
theorem dX5_nextInTurn_3 : decode cX5_nextInTurn 3 = .ok (.istore 4, 2) := by decide +kernel
theorem dX5_nextInTurn_5 : decode cX5_nextInTurn 5 = .ok (.iload 4, 2) := by decide +kernel
theorem dX5_nextInTurn_7 : decode cX5_nextInTurn 7 = .ok (.aload_n 0, 1) := by decide +kernel
theorem dX5_nextInTurn_8 : decode cX5_nextInTurn 8 = .ok (.getfield 45, 3) := by decide +kernel
theorem dX5_nextInTurn_11 : decode cX5_nextInTurn 11 = .ok (.if_icmp .ge 57, 3) := by decide +kernel
theorem dX5_nextInTurn_14 : decode cX5_nextInTurn 14 = .ok (.aload_n 0, 1) := by decide +kernel
theorem dX5_nextInTurn_15 : decode cX5_nextInTurn 15 = .ok (.getfield 20, 3) := by decide +kernel
theorem dX5_nextInTurn_18 : decode cX5_nextInTurn 18 = .ok (.iload 4, 2) := by decide +kernel
theorem dX5_nextInTurn_20 : decode cX5_nextInTurn 20 = .ok (.aaload, 1) := by decide +kernel
theorem dX5_nextInTurn_21 : decode cX5_nextInTurn 21 = .ok (.getfield 74, 3) := by decide +kernel
theorem dX5_nextInTurn_24 : decode cX5_nextInTurn 24 = .ok (.ifCond .ne 38, 3) := by decide +kernel
theorem dX5_nextInTurn_27 : decode cX5_nextInTurn 27 = .ok (.iload_n 1, 1) := by decide +kernel
theorem dX5_nextInTurn_28 : decode cX5_nextInTurn 28 = .ok (.iconst (-1), 1) := by decide +kernel
theorem dX5_nextInTurn_29 : decode cX5_nextInTurn 29 = .ok (.if_icmp .eq 14, 3) := by decide +kernel
theorem dX5_nextInTurn_32 : decode cX5_nextInTurn 32 = .ok (.aload_n 0, 1) := by decide +kernel
theorem dX5_nextInTurn_33 : decode cX5_nextInTurn 33 = .ok (.iload_n 1, 1) := by decide +kernel
theorem dX5_nextInTurn_34 : decode cX5_nextInTurn 34 = .ok (.iload 4, 2) := by decide +kernel
theorem dX5_nextInTurn_36 : decode cX5_nextInTurn 36 = .ok (.iload_n 2, 1) := by decide +kernel
theorem dX5_nextInTurn_37 : decode cX5_nextInTurn 37 = .ok (.invokevirtual 91, 3) := by decide +kernel
theorem dX5_nextInTurn_40 : decode cX5_nextInTurn 40 = .ok (.ifCond .eq 22, 3) := by decide +kernel
theorem dX5_nextInTurn_43 : decode cX5_nextInTurn 43 = .ok (.iload_n 3, 1) := by decide +kernel
theorem dX5_nextInTurn_44 : decode cX5_nextInTurn 44 = .ok (.iconst (-1), 1) := by decide +kernel
theorem dX5_nextInTurn_45 : decode cX5_nextInTurn 45 = .ok (.if_icmp .eq 14, 3) := by decide +kernel
theorem dX5_nextInTurn_48 : decode cX5_nextInTurn 48 = .ok (.aload_n 0, 1) := by decide +kernel
theorem dX5_nextInTurn_49 : decode cX5_nextInTurn 49 = .ok (.iload 4, 2) := by decide +kernel
theorem dX5_nextInTurn_51 : decode cX5_nextInTurn 51 = .ok (.iload_n 3, 1) := by decide +kernel
theorem dX5_nextInTurn_52 : decode cX5_nextInTurn 52 = .ok (.iload_n 2, 1) := by decide +kernel
theorem dX5_nextInTurn_53 : decode cX5_nextInTurn 53 = .ok (.invokevirtual 91, 3) := by decide +kernel
theorem dX5_nextInTurn_56 : decode cX5_nextInTurn 56 = .ok (.ifCond .eq 6, 3) := by decide +kernel
theorem dX5_nextInTurn_59 : decode cX5_nextInTurn 59 = .ok (.iload 4, 2) := by decide +kernel
theorem dX5_nextInTurn_61 : decode cX5_nextInTurn 61 = .ok (.istore_n 3, 1) := by decide +kernel
theorem dX5_nextInTurn_62 : decode cX5_nextInTurn 62 = .ok (.iinc 4 1, 3) := by decide +kernel
theorem dX5_nextInTurn_65 : decode cX5_nextInTurn 65 = .ok (.goto (-60), 3) := by decide +kernel
theorem dX5_nextInTurn_68 : decode cX5_nextInTurn 68 = .ok (.iload_n 3, 1) := by decide +kernel
theorem dX5_nextInTurn_69 : decode cX5_nextInTurn 69 = .ok (.ireturn, 1) := by decide +kernel
noncomputable def o_X5_nextInTurn_5 (F : Nat) (τ : cT) (n : Nat) (b : Nat) (l1 : Int32) (l2 : Int32) (s : cS) : Nat → Int32 → Int32 → Option (Int32)
  | 0, _, _ => none
  | f + 1, l3, l4 => if (s.1 (b + 27) 3) ≤ l4 then (some l3) else (if iL l4 80 then (if (s.1 (b + 39 + 1 + l4.toNatClampNeg) 10) = 0 then (if l1 = (-1) then (if l3 = (-1) then (o_X5_nextInTurn_5 F τ n b l1 l2 s f l4 (l4 + nI 1)) else ((o_X5_isAhead τ n b s l4 l3 l2).bind fun x6 => (if x6 = 0 then (o_X5_nextInTurn_5 F τ n b l1 l2 s f l3 (l4 + nI 1)) else (o_X5_nextInTurn_5 F τ n b l1 l2 s f l4 (l4 + nI 1))))) else ((o_X5_isAhead τ n b s l1 l4 l2).bind fun x8 => (if x8 = 0 then (o_X5_nextInTurn_5 F τ n b l1 l2 s f l3 (l4 + nI 1)) else (if l3 = (-1) then (o_X5_nextInTurn_5 F τ n b l1 l2 s f l4 (l4 + nI 1)) else ((o_X5_isAhead τ n b s l4 l3 l2).bind fun x11 => (if x11 = 0 then (o_X5_nextInTurn_5 F τ n b l1 l2 s f l3 (l4 + nI 1)) else (o_X5_nextInTurn_5 F τ n b l1 l2 s f l4 (l4 + nI 1)))))))) else (o_X5_nextInTurn_5 F τ n b l1 l2 s f l3 (l4 + nI 1))) else none)
set_option maxHeartbeats 4000000 in
theorem t_X5_nextInTurn_5 {Γ : jg_G} {g : Nat → jg_C} (F : Nat) (τ : cT) (n : Nat) (b : Nat) (l1 : Int32) (l2 : Int32) (s : cS) (hB : Bd τ n b) (Q : jg_Q) {x : Int32} (K1 : jg Γ mX5_nextInTurn 3 0 0 68 [none, none, none, some (.int x), none] [] (ct_h g τ s, n) Q)  : ∀ (f : Nat) (l3 : Int32) (l4 : Int32), o_X5_nextInTurn_5 F τ n b l1 l2 s f l3 l4 = some x → jg Γ mX5_nextInTurn 3 0 0 5 [some (.ref (b + 27)), some (.int l1), some (.int l2), some (.int l3), some (.int l4)] [] (ct_h g τ s, n) Q := by
  intro f
  induction f with
  | zero => intro l3 l4 h; rw [o_X5_nextInTurn_5] at h; cases h
  | succ f ih =>
   intro l3 l4 h
   rw [o_X5_nextInTurn_5] at h
   refine jg_iload dX5_nextInTurn_5 rfl ?_
   refine jg_aload_n dX5_nextInTurn_7 rfl ?_
   refine cs_get (s := s) (w := .int (s.1 (b + 27) 3)) fl_X5_45 dX5_nextInTurn_8 (hB.ob 27 (by decide) rfl) rfl ?_
   refine jg_icmp_ge (x := l4) (y := (s.1 (b + 27) 3)) (tgt := 68) dX5_nextInTurn_11 (by decide) (fun c1 => ?_) (fun c1 => ?_)
   · replace h := it_t c1 h
     refine jg_fg (L' := [none, none, none, some (.int l3), none]) (by repeat (first | exact trivial | refine ⟨rfl, ?_⟩ | show jg_le _ _)) ?_
     obtain rfl := Option.some.inj h
     exact K1
   · replace h := it_f c1 h
     refine jg_aload_n dX5_nextInTurn_14 rfl ?_
     refine cs_get (s := s) (w := .ref (b + 39)) fl_X5_20 dX5_nextInTurn_15 (hB.ob 27 (by decide) rfl) rfl ?_
     refine jg_iload dX5_nextInTurn_18 rfl ?_
     obtain ⟨q2, h⟩ := gd_some h
     refine cs_ldr (s := s) (q := (b + 39)) (i := l4) (kd := 6) (by decide) dX5_nextInTurn_20 (hB.ar 39 (by decide) rfl) q2 ?_
     refine cs_get (s := s) (w := .int (s.1 (b + 39 + 1 + l4.toNatClampNeg) 10)) fl_X5_74 dX5_nextInTurn_21 (hB.ship q2.2) rfl ?_
     refine jg_if_ne (x := (s.1 (b + 39 + 1 + l4.toNatClampNeg) 10)) (tgt := 62) dX5_nextInTurn_24 (by decide) (fun c3 => ?_) (fun c3 => ?_)
     · replace h := it_f c3 h
       refine jg_iinc (x := l4) (v := l4 + nI 1) (L' := [some (.ref (b + 27)), some (.int l1), some (.int l2), some (.int l3), some (.int (l4 + nI 1))]) dX5_nextInTurn_62 rfl (ic_k _ (by decide)) (by decide) rfl ?_
       refine jg_goto (tgt := 5) dX5_nextInTurn_65 (by decide) ?_
       refine jg_fg (L' := [some (.ref (b + 27)), some (.int l1), some (.int l2), some (.int l3), some (.int (l4 + nI 1))]) (by repeat (first | exact trivial | refine ⟨rfl, ?_⟩ | show jg_le _ _)) ?_
       exact ih l3 (l4 + nI 1) h
     · replace h := it_t c3 h
       refine jg_iload_n dX5_nextInTurn_27 rfl ?_
       refine jg_iconst (v := (-1)) dX5_nextInTurn_28 (by decide) ?_
       refine jg_icmp_eq (x := l1) (y := (-1)) (tgt := 43) dX5_nextInTurn_29 (by decide) (fun c4 => ?_) (fun c4 => ?_)
       · replace h := it_t c4 h
         refine jg_iload_n dX5_nextInTurn_43 rfl ?_
         refine jg_iconst (v := (-1)) dX5_nextInTurn_44 (by decide) ?_
         refine jg_icmp_eq (x := l3) (y := (-1)) (tgt := 59) dX5_nextInTurn_45 (by decide) (fun c5 => ?_) (fun c5 => ?_)
         · replace h := it_t c5 h
           refine jg_iload dX5_nextInTurn_59 rfl ?_
           refine jg_istore_n (L' := [some (.ref (b + 27)), some (.int l1), some (.int l2), some (.int l4), some (.int l4)]) dX5_nextInTurn_61 (by decide) rfl ?_
           refine jg_iinc (x := l4) (v := l4 + nI 1) (L' := [some (.ref (b + 27)), some (.int l1), some (.int l2), some (.int l4), some (.int (l4 + nI 1))]) dX5_nextInTurn_62 rfl (ic_k _ (by decide)) (by decide) rfl ?_
           refine jg_goto (tgt := 5) dX5_nextInTurn_65 (by decide) ?_
           refine jg_fg (L' := [some (.ref (b + 27)), some (.int l1), some (.int l2), some (.int l4), some (.int (l4 + nI 1))]) (by repeat (first | exact trivial | refine ⟨rfl, ?_⟩ | show jg_le _ _)) ?_
           exact ih l4 (l4 + nI 1) h
         · replace h := it_f c5 h
           refine jg_aload_n dX5_nextInTurn_48 rfl ?_
           refine jg_iload dX5_nextInTurn_49 rfl ?_
           refine jg_iload_n dX5_nextInTurn_51 rfl ?_
           refine jg_iload_n dX5_nextInTurn_52 rfl ?_
           obtain ⟨x6, e_x6, h⟩ := bd_some h
           refine cs_call (q := (b + 27)) (As := [.int l4, .int l3, .int l2]) kv_X5_91 dX5_nextInTurn_53 (hB.ob 27 (by decide) rfl) rfl rfl (by decide) (Nat.le_of_ble_eq_true rfl) rfl (by decide) (Nat.le_of_ble_eq_true rfl) (t_X5_isAhead τ n b s l4 l3 l2 hB e_x6) ?_
           refine jg_if_eq (x := x6) (tgt := 62) dX5_nextInTurn_56 (by decide) (fun c7 => ?_) (fun c7 => ?_)
           · replace h := it_t c7 h
             refine jg_iinc (x := l4) (v := l4 + nI 1) (L' := [some (.ref (b + 27)), some (.int l1), some (.int l2), some (.int l3), some (.int (l4 + nI 1))]) dX5_nextInTurn_62 rfl (ic_k _ (by decide)) (by decide) rfl ?_
             refine jg_goto (tgt := 5) dX5_nextInTurn_65 (by decide) ?_
             refine jg_fg (L' := [some (.ref (b + 27)), some (.int l1), some (.int l2), some (.int l3), some (.int (l4 + nI 1))]) (by repeat (first | exact trivial | refine ⟨rfl, ?_⟩ | show jg_le _ _)) ?_
             exact ih l3 (l4 + nI 1) h
           · replace h := it_f c7 h
             refine jg_iload dX5_nextInTurn_59 rfl ?_
             refine jg_istore_n (L' := [some (.ref (b + 27)), some (.int l1), some (.int l2), some (.int l4), some (.int l4)]) dX5_nextInTurn_61 (by decide) rfl ?_
             refine jg_iinc (x := l4) (v := l4 + nI 1) (L' := [some (.ref (b + 27)), some (.int l1), some (.int l2), some (.int l4), some (.int (l4 + nI 1))]) dX5_nextInTurn_62 rfl (ic_k _ (by decide)) (by decide) rfl ?_
             refine jg_goto (tgt := 5) dX5_nextInTurn_65 (by decide) ?_
             refine jg_fg (L' := [some (.ref (b + 27)), some (.int l1), some (.int l2), some (.int l4), some (.int (l4 + nI 1))]) (by repeat (first | exact trivial | refine ⟨rfl, ?_⟩ | show jg_le _ _)) ?_
             exact ih l4 (l4 + nI 1) h
       · replace h := it_f c4 h
         refine jg_aload_n dX5_nextInTurn_32 rfl ?_
         refine jg_iload_n dX5_nextInTurn_33 rfl ?_
         refine jg_iload dX5_nextInTurn_34 rfl ?_
         refine jg_iload_n dX5_nextInTurn_36 rfl ?_
         obtain ⟨x8, e_x8, h⟩ := bd_some h
         refine cs_call (q := (b + 27)) (As := [.int l1, .int l4, .int l2]) kv_X5_91 dX5_nextInTurn_37 (hB.ob 27 (by decide) rfl) rfl rfl (by decide) (Nat.le_of_ble_eq_true rfl) rfl (by decide) (Nat.le_of_ble_eq_true rfl) (t_X5_isAhead τ n b s l1 l4 l2 hB e_x8) ?_
         refine jg_if_eq (x := x8) (tgt := 62) dX5_nextInTurn_40 (by decide) (fun c9 => ?_) (fun c9 => ?_)
         · replace h := it_t c9 h
           refine jg_iinc (x := l4) (v := l4 + nI 1) (L' := [some (.ref (b + 27)), some (.int l1), some (.int l2), some (.int l3), some (.int (l4 + nI 1))]) dX5_nextInTurn_62 rfl (ic_k _ (by decide)) (by decide) rfl ?_
           refine jg_goto (tgt := 5) dX5_nextInTurn_65 (by decide) ?_
           refine jg_fg (L' := [some (.ref (b + 27)), some (.int l1), some (.int l2), some (.int l3), some (.int (l4 + nI 1))]) (by repeat (first | exact trivial | refine ⟨rfl, ?_⟩ | show jg_le _ _)) ?_
           exact ih l3 (l4 + nI 1) h
         · replace h := it_f c9 h
           refine jg_iload_n dX5_nextInTurn_43 rfl ?_
           refine jg_iconst (v := (-1)) dX5_nextInTurn_44 (by decide) ?_
           refine jg_icmp_eq (x := l3) (y := (-1)) (tgt := 59) dX5_nextInTurn_45 (by decide) (fun c10 => ?_) (fun c10 => ?_)
           · replace h := it_t c10 h
             refine jg_iload dX5_nextInTurn_59 rfl ?_
             refine jg_istore_n (L' := [some (.ref (b + 27)), some (.int l1), some (.int l2), some (.int l4), some (.int l4)]) dX5_nextInTurn_61 (by decide) rfl ?_
             refine jg_iinc (x := l4) (v := l4 + nI 1) (L' := [some (.ref (b + 27)), some (.int l1), some (.int l2), some (.int l4), some (.int (l4 + nI 1))]) dX5_nextInTurn_62 rfl (ic_k _ (by decide)) (by decide) rfl ?_
             refine jg_goto (tgt := 5) dX5_nextInTurn_65 (by decide) ?_
             refine jg_fg (L' := [some (.ref (b + 27)), some (.int l1), some (.int l2), some (.int l4), some (.int (l4 + nI 1))]) (by repeat (first | exact trivial | refine ⟨rfl, ?_⟩ | show jg_le _ _)) ?_
             exact ih l4 (l4 + nI 1) h
           · replace h := it_f c10 h
             refine jg_aload_n dX5_nextInTurn_48 rfl ?_
             refine jg_iload dX5_nextInTurn_49 rfl ?_
             refine jg_iload_n dX5_nextInTurn_51 rfl ?_
             refine jg_iload_n dX5_nextInTurn_52 rfl ?_
             obtain ⟨x11, e_x11, h⟩ := bd_some h
             refine cs_call (q := (b + 27)) (As := [.int l4, .int l3, .int l2]) kv_X5_91 dX5_nextInTurn_53 (hB.ob 27 (by decide) rfl) rfl rfl (by decide) (Nat.le_of_ble_eq_true rfl) rfl (by decide) (Nat.le_of_ble_eq_true rfl) (t_X5_isAhead τ n b s l4 l3 l2 hB e_x11) ?_
             refine jg_if_eq (x := x11) (tgt := 62) dX5_nextInTurn_56 (by decide) (fun c12 => ?_) (fun c12 => ?_)
             · replace h := it_t c12 h
               refine jg_iinc (x := l4) (v := l4 + nI 1) (L' := [some (.ref (b + 27)), some (.int l1), some (.int l2), some (.int l3), some (.int (l4 + nI 1))]) dX5_nextInTurn_62 rfl (ic_k _ (by decide)) (by decide) rfl ?_
               refine jg_goto (tgt := 5) dX5_nextInTurn_65 (by decide) ?_
               refine jg_fg (L' := [some (.ref (b + 27)), some (.int l1), some (.int l2), some (.int l3), some (.int (l4 + nI 1))]) (by repeat (first | exact trivial | refine ⟨rfl, ?_⟩ | show jg_le _ _)) ?_
               exact ih l3 (l4 + nI 1) h
             · replace h := it_f c12 h
               refine jg_iload dX5_nextInTurn_59 rfl ?_
               refine jg_istore_n (L' := [some (.ref (b + 27)), some (.int l1), some (.int l2), some (.int l4), some (.int l4)]) dX5_nextInTurn_61 (by decide) rfl ?_
               refine jg_iinc (x := l4) (v := l4 + nI 1) (L' := [some (.ref (b + 27)), some (.int l1), some (.int l2), some (.int l4), some (.int (l4 + nI 1))]) dX5_nextInTurn_62 rfl (ic_k _ (by decide)) (by decide) rfl ?_
               refine jg_goto (tgt := 5) dX5_nextInTurn_65 (by decide) ?_
               refine jg_fg (L' := [some (.ref (b + 27)), some (.int l1), some (.int l2), some (.int l4), some (.int (l4 + nI 1))]) (by repeat (first | exact trivial | refine ⟨rfl, ?_⟩ | show jg_le _ _)) ?_
               exact ih l4 (l4 + nI 1) h
noncomputable def o_X5_nextInTurn (F : Nat) (τ : cT) (n : Nat) (b : Nat) (s : cS) (a1 : Int32) (a2 : Int32) : Option (Int32) := (o_X5_nextInTurn_5 F τ n b a1 a2 s F (-1) (nI 0)).bind fun x13 => (some x13)
set_option maxHeartbeats 4000000 in
theorem t_X5_nextInTurn {Γ : jg_G} {g : Nat → jg_C} (F : Nat) (τ : cT) (n : Nat) (b : Nat) (s : cS) (a1 : Int32) (a2 : Int32) (hB : Bd τ n b) {x : Int32} (h : o_X5_nextInTurn F τ n b s a1 a2 = some x) : jc Γ mX5_nextInTurn 3 0 0 [some (.ref (b + 27)), some (.int a1), some (.int a2), none, none] (ct_h g τ s, n) (.inl (some (.int x))) (ct_h g τ s, n) := by
  refine jc_of ?_
  rw [o_X5_nextInTurn] at h
  refine jg_iconst (v := (-1)) dX5_nextInTurn_0 (by decide) ?_
  refine jg_istore_n (L' := [some (.ref (b + 27)), some (.int a1), some (.int a2), some (.int (-1)), none]) dX5_nextInTurn_1 (by decide) rfl ?_
  refine jg_iconst (v := nI 0) dX5_nextInTurn_2 (by decide) ?_
  refine jg_istore (L' := [some (.ref (b + 27)), some (.int a1), some (.int a2), some (.int (-1)), some (.int (nI 0))]) dX5_nextInTurn_3 (by decide) rfl ?_
  obtain ⟨x13, e_x13, h⟩ := bd_some h
  refine jg_fg (L' := [some (.ref (b + 27)), some (.int a1), some (.int a2), some (.int (-1)), some (.int (nI 0))]) (by repeat (first | exact trivial | refine ⟨rfl, ?_⟩ | show jg_le _ _)) ?_
  refine t_X5_nextInTurn_5  F τ n b a1 a2 s hB _ (x := x13) ?_ F (-1) (nI 0) e_x13
  refine jg_iload_n dX5_nextInTurn_68 rfl ?_
  obtain rfl := Option.some.inj h
  exact jg_ireturn dX5_nextInTurn_69 rfl ⟨rfl, rfl⟩
theorem dX4_addWaiting_0 : decode cX4_addWaiting 0 = .ok (.aload_n 0, 1) := by decide +kernel
theorem dX4_addWaiting_1 : decode cX4_addWaiting 1 = .ok (.getfield 62, 3) := by decide +kernel
theorem dX4_addWaiting_4 : decode cX4_addWaiting 4 = .ok (.iconst 4, 1) := by decide +kernel
theorem dX4_addWaiting_5 : decode cX4_addWaiting 5 = .ok (.if_icmp .ge 54, 3) := by decide +kernel
theorem dX4_addWaiting_8 : decode cX4_addWaiting 8 = .ok (.aload_n 0, 1) := by decide +kernel
theorem dX4_addWaiting_9 : decode cX4_addWaiting 9 = .ok (.getfield 21, 3) := by decide +kernel
theorem dX4_addWaiting_12 : decode cX4_addWaiting 12 = .ok (.aload_n 0, 1) := by decide +kernel
theorem dX4_addWaiting_13 : decode cX4_addWaiting 13 = .ok (.getfield 62, 3) := by decide +kernel
theorem dX4_addWaiting_16 : decode cX4_addWaiting 16 = .ok (.aload_n 1, 1) := by decide +kernel
theorem dX4_addWaiting_17 : decode cX4_addWaiting 17 = .ok (.getfield 72, 3) := by decide +kernel
theorem dX4_addWaiting_20 : decode cX4_addWaiting 20 = .ok (.iload_n 2, 1) := by decide +kernel
theorem dX4_addWaiting_21 : decode cX4_addWaiting 21 = .ok (.iadd, 1) := by decide +kernel
theorem dX4_addWaiting_22 : decode cX4_addWaiting 22 = .ok (.iastore, 1) := by decide +kernel
theorem dX4_addWaiting_23 : decode cX4_addWaiting 23 = .ok (.aload_n 0, 1) := by decide +kernel
theorem dX4_addWaiting_24 : decode cX4_addWaiting 24 = .ok (.getfield 24, 3) := by decide +kernel
theorem dX4_addWaiting_27 : decode cX4_addWaiting 27 = .ok (.aload_n 0, 1) := by decide +kernel
theorem dX4_addWaiting_28 : decode cX4_addWaiting 28 = .ok (.getfield 62, 3) := by decide +kernel
theorem dX4_addWaiting_31 : decode cX4_addWaiting 31 = .ok (.aload_n 1, 1) := by decide +kernel
theorem dX4_addWaiting_32 : decode cX4_addWaiting 32 = .ok (.getfield 77, 3) := by decide +kernel
theorem dX4_addWaiting_35 : decode cX4_addWaiting 35 = .ok (.iastore, 1) := by decide +kernel
theorem dX4_addWaiting_36 : decode cX4_addWaiting 36 = .ok (.aload_n 0, 1) := by decide +kernel
theorem dX4_addWaiting_37 : decode cX4_addWaiting 37 = .ok (.getfield 27, 3) := by decide +kernel
theorem dX4_addWaiting_40 : decode cX4_addWaiting 40 = .ok (.aload_n 0, 1) := by decide +kernel
theorem dX4_addWaiting_41 : decode cX4_addWaiting 41 = .ok (.getfield 62, 3) := by decide +kernel
theorem dX4_addWaiting_44 : decode cX4_addWaiting 44 = .ok (.aload_n 1, 1) := by decide +kernel
theorem dX4_addWaiting_45 : decode cX4_addWaiting 45 = .ok (.getfield 79, 3) := by decide +kernel
theorem dX4_addWaiting_48 : decode cX4_addWaiting 48 = .ok (.iastore, 1) := by decide +kernel
theorem dX4_addWaiting_49 : decode cX4_addWaiting 49 = .ok (.aload_n 0, 1) := by decide +kernel
theorem dX4_addWaiting_50 : decode cX4_addWaiting 50 = .ok (.dup, 1) := by decide +kernel
theorem dX4_addWaiting_51 : decode cX4_addWaiting 51 = .ok (.getfield 62, 3) := by decide +kernel
theorem dX4_addWaiting_54 : decode cX4_addWaiting 54 = .ok (.iconst 1, 1) := by decide +kernel
theorem dX4_addWaiting_55 : decode cX4_addWaiting 55 = .ok (.iadd, 1) := by decide +kernel
theorem dX4_addWaiting_56 : decode cX4_addWaiting 56 = .ok (.putfield 62, 3) := by decide +kernel
theorem dX4_addWaiting_59 : decode cX4_addWaiting 59 = .ok (.return_, 1) := by decide +kernel
noncomputable def o_X4_addWaiting (τ : cT) (n : Nat) (b : Nat) (a1 : Nat) (s : cS) (a2 : Int32) : Option (cS) := if (nI 4) ≤ (s.1 (b + 131) 7) then (some s) else (if iL (s.1 (b + 131) 7) 4 then (if iL ((ca s (b + 135) (s.1 (b + 131) 7) ((s.1 a1 4) + a2)).1 (b + 131) 7) 4 then ((some (ca (ca s (b + 135) (s.1 (b + 131) 7) ((s.1 a1 4) + a2)) (b + 136) ((ca s (b + 135) (s.1 (b + 131) 7) ((s.1 a1 4) + a2)).1 (b + 131) 7) ((ca s (b + 135) (s.1 (b + 131) 7) ((s.1 a1 4) + a2)).1 a1 1))).bind fun x4 => (if iL (x4.1 (b + 131) 7) 4 then ((some (cp (ca x4 (b + 137) (x4.1 (b + 131) 7) (x4.1 a1 2)) (b + 131) 7 (((ca x4 (b + 137) (x4.1 (b + 131) 7) (x4.1 a1 2)).1 (b + 131) 7) + (nI 1)))).bind fun x6 => (some x6)) else none)) else none) else none)
set_option maxHeartbeats 4000000 in
theorem t_X4_addWaiting {Γ : jg_G} {g : Nat → jg_C} (τ : cT) (n : Nat) (b : Nat) (a1 : Nat) (s : cS) (a2 : Int32) (hB : Bd τ n b) (h1 : Ob τ n a1 9) {x : cS} (h : o_X4_addWaiting τ n b a1 s a2 = some x) : jc Γ mX4_addWaiting 0 0 0 [some (.ref (b + 131)), some (.ref a1), some (.int a2)] (ct_h g τ s, n) (.inl none) (ct_h g τ x, n) := by
  refine jc_of ?_
  rw [o_X4_addWaiting] at h
  refine jg_aload_n dX4_addWaiting_0 rfl ?_
  refine cs_get (s := s) (w := .int (s.1 (b + 131) 7)) fl_X4_62 dX4_addWaiting_1 (hB.ob 131 (by decide) rfl) rfl ?_
  refine jg_iconst (v := nI 4) dX4_addWaiting_4 (by decide) ?_
  refine jg_icmp_ge (x := (s.1 (b + 131) 7)) (y := (nI 4)) (tgt := 59) dX4_addWaiting_5 (by decide) (fun c1 => ?_) (fun c1 => ?_)
  · replace h := it_t c1 h
    obtain rfl := Option.some.inj h
    exact jg_return dX4_addWaiting_59 rfl ⟨rfl, rfl⟩
  · replace h := it_f c1 h
    refine jg_aload_n dX4_addWaiting_8 rfl ?_
    refine cs_get (s := s) (w := .ref (b + 135)) fl_X4_21 dX4_addWaiting_9 (hB.ob 131 (by decide) rfl) rfl ?_
    refine jg_aload_n dX4_addWaiting_12 rfl ?_
    refine cs_get (s := s) (w := .int (s.1 (b + 131) 7)) fl_X4_62 dX4_addWaiting_13 (hB.ob 131 (by decide) rfl) rfl ?_
    refine jg_aload_n dX4_addWaiting_16 rfl ?_
    refine cs_get (s := s) (w := .int (s.1 a1 4)) fl_X4_72 dX4_addWaiting_17 h1 rfl ?_
    refine jg_iload_n dX4_addWaiting_20 rfl ?_
    refine jg_iadd (x := (s.1 a1 4)) (y := a2) dX4_addWaiting_21  ?_
    obtain ⟨q2, h⟩ := gd_some h
    refine cs_sta (s := s) (q := (b + 135)) (i := (s.1 (b + 131) 7)) (x := ((s.1 a1 4) + a2)) dX4_addWaiting_22 (hB.ar 135 (by decide) rfl) q2 ?_
    refine jg_aload_n dX4_addWaiting_23 rfl ?_
    refine cs_get (s := (ca s (b + 135) (s.1 (b + 131) 7) ((s.1 a1 4) + a2))) (w := .ref (b + 136)) fl_X4_24 dX4_addWaiting_24 (hB.ob 131 (by decide) rfl) rfl ?_
    refine jg_aload_n dX4_addWaiting_27 rfl ?_
    refine cs_get (s := (ca s (b + 135) (s.1 (b + 131) 7) ((s.1 a1 4) + a2))) (w := .int ((ca s (b + 135) (s.1 (b + 131) 7) ((s.1 a1 4) + a2)).1 (b + 131) 7)) fl_X4_62 dX4_addWaiting_28 (hB.ob 131 (by decide) rfl) rfl ?_
    refine jg_aload_n dX4_addWaiting_31 rfl ?_
    refine cs_get (s := (ca s (b + 135) (s.1 (b + 131) 7) ((s.1 a1 4) + a2))) (w := .int ((ca s (b + 135) (s.1 (b + 131) 7) ((s.1 a1 4) + a2)).1 a1 1)) fl_X4_77 dX4_addWaiting_32 h1 rfl ?_
    obtain ⟨q3, h⟩ := gd_some h
    refine cs_sta (s := (ca s (b + 135) (s.1 (b + 131) 7) ((s.1 a1 4) + a2))) (q := (b + 136)) (i := ((ca s (b + 135) (s.1 (b + 131) 7) ((s.1 a1 4) + a2)).1 (b + 131) 7)) (x := ((ca s (b + 135) (s.1 (b + 131) 7) ((s.1 a1 4) + a2)).1 a1 1)) dX4_addWaiting_35 (hB.ar 136 (by decide) rfl) q3 ?_
    obtain ⟨x4, e_x4, h⟩ := bd_some h
    refine cs_sub (Option.some.inj e_x4) ?_
    refine jg_aload_n dX4_addWaiting_36 rfl ?_
    refine cs_get (s := x4) (w := .ref (b + 137)) fl_X4_27 dX4_addWaiting_37 (hB.ob 131 (by decide) rfl) rfl ?_
    refine jg_aload_n dX4_addWaiting_40 rfl ?_
    refine cs_get (s := x4) (w := .int (x4.1 (b + 131) 7)) fl_X4_62 dX4_addWaiting_41 (hB.ob 131 (by decide) rfl) rfl ?_
    refine jg_aload_n dX4_addWaiting_44 rfl ?_
    refine cs_get (s := x4) (w := .int (x4.1 a1 2)) fl_X4_79 dX4_addWaiting_45 h1 rfl ?_
    obtain ⟨q5, h⟩ := gd_some h
    refine cs_sta (s := x4) (q := (b + 137)) (i := (x4.1 (b + 131) 7)) (x := (x4.1 a1 2)) dX4_addWaiting_48 (hB.ar 137 (by decide) rfl) q5 ?_
    refine jg_aload_n dX4_addWaiting_49 rfl ?_
    refine jg_dup dX4_addWaiting_50 rfl ?_
    refine cs_get (s := (ca x4 (b + 137) (x4.1 (b + 131) 7) (x4.1 a1 2))) (w := .int ((ca x4 (b + 137) (x4.1 (b + 131) 7) (x4.1 a1 2)).1 (b + 131) 7)) fl_X4_62 dX4_addWaiting_51 (hB.ob 131 (by decide) rfl) rfl ?_
    refine jg_iconst (v := nI 1) dX4_addWaiting_54 (by decide) ?_
    refine jg_iadd (x := ((ca x4 (b + 137) (x4.1 (b + 131) 7) (x4.1 a1 2)).1 (b + 131) 7)) (y := (nI 1)) dX4_addWaiting_55  ?_
    refine cs_put (s := (ca x4 (b + 137) (x4.1 (b + 131) 7) (x4.1 a1 2))) (k := 7) (x := (((ca x4 (b + 137) (x4.1 (b + 131) 7) (x4.1 a1 2)).1 (b + 131) 7) + (nI 1))) fl_X4_62 dX4_addWaiting_56 (hB.ob 131 (by decide) rfl) (ltb rfl) (rfl) rfl rfl ?_
    obtain ⟨x6, e_x6, h⟩ := bd_some h
    refine cs_sub (Option.some.inj e_x6) ?_
    obtain rfl := Option.some.inj h
    exact jg_return dX4_addWaiting_59 rfl ⟨rfl, rfl⟩
theorem dX8_fillWaysIn_0 : decode cX8_fillWaysIn 0 = .ok (.sipush 2000, 3) := by decide +kernel
theorem dX8_fillWaysIn_3 : decode cX8_fillWaysIn 3 = .ok (.istore 4, 2) := by decide +kernel
theorem dX8_fillWaysIn_5 : decode cX8_fillWaysIn 5 = .ok (.iconst 0, 1) := by decide +kernel
theorem dX8_fillWaysIn_6 : decode cX8_fillWaysIn 6 = .ok (.istore 5, 2) := by decide +kernel
theorem dX8_fillWaysIn_8 : decode cX8_fillWaysIn 8 = .ok (.iload 5, 2) := by decide +kernel
theorem dX8_fillWaysIn_10 : decode cX8_fillWaysIn 10 = .ok (.aload_n 1, 1) := by decide +kernel
theorem dX8_fillWaysIn_11 : decode cX8_fillWaysIn 11 = .ok (.arraylength, 1) := by decide +kernel
theorem dX8_fillWaysIn_12 : decode cX8_fillWaysIn 12 = .ok (.if_icmp .ge 49, 3) := by decide +kernel
theorem dX8_fillWaysIn_15 : decode cX8_fillWaysIn 15 = .ok (.iload 5, 2) := by decide +kernel
theorem dX8_fillWaysIn_17 : decode cX8_fillWaysIn 17 = .ok (.aload_n 2, 1) := by decide +kernel
theorem dX8_fillWaysIn_18 : decode cX8_fillWaysIn 18 = .ok (.arraylength, 1) := by decide +kernel
theorem dX8_fillWaysIn_19 : decode cX8_fillWaysIn 19 = .ok (.if_icmp .ge 42, 3) := by decide +kernel
theorem dX8_fillWaysIn_22 : decode cX8_fillWaysIn 22 = .ok (.iload 4, 2) := by decide +kernel
theorem dX8_fillWaysIn_24 : decode cX8_fillWaysIn 24 = .ok (.aload_n 2, 1) := by decide +kernel
theorem dX8_fillWaysIn_25 : decode cX8_fillWaysIn 25 = .ok (.iload 5, 2) := by decide +kernel
theorem dX8_fillWaysIn_27 : decode cX8_fillWaysIn 27 = .ok (.iaload, 1) := by decide +kernel
theorem dX8_fillWaysIn_28 : decode cX8_fillWaysIn 28 = .ok (.aload_n 0, 1) := by decide +kernel
theorem dX8_fillWaysIn_29 : decode cX8_fillWaysIn 29 = .ok (.getfield 21, 3) := by decide +kernel
theorem dX8_fillWaysIn_32 : decode cX8_fillWaysIn 32 = .ok (.iload_n 3, 1) := by decide +kernel
theorem dX8_fillWaysIn_33 : decode cX8_fillWaysIn 33 = .ok (.iload 5, 2) := by decide +kernel
theorem dX8_fillWaysIn_35 : decode cX8_fillWaysIn 35 = .ok (.bipush 6, 2) := by decide +kernel
theorem dX8_fillWaysIn_37 : decode cX8_fillWaysIn 37 = .ok (.idiv, 1) := by decide +kernel
theorem dX8_fillWaysIn_38 : decode cX8_fillWaysIn 38 = .ok (.iadd, 1) := by decide +kernel
theorem dX8_fillWaysIn_39 : decode cX8_fillWaysIn 39 = .ok (.bipush 25, 2) := by decide +kernel
theorem dX8_fillWaysIn_41 : decode cX8_fillWaysIn 41 = .ok (.irem, 1) := by decide +kernel
theorem dX8_fillWaysIn_42 : decode cX8_fillWaysIn 42 = .ok (.iaload, 1) := by decide +kernel
theorem dX8_fillWaysIn_43 : decode cX8_fillWaysIn 43 = .ok (.iadd, 1) := by decide +kernel
theorem dX8_fillWaysIn_44 : decode cX8_fillWaysIn 44 = .ok (.invokestatic 65, 3) := by decide +kernel
theorem dX8_fillWaysIn_47 : decode cX8_fillWaysIn 47 = .ok (.istore 4, 2) := by decide +kernel
theorem dX8_fillWaysIn_49 : decode cX8_fillWaysIn 49 = .ok (.aload_n 1, 1) := by decide +kernel
theorem dX8_fillWaysIn_50 : decode cX8_fillWaysIn 50 = .ok (.iload 5, 2) := by decide +kernel
theorem dX8_fillWaysIn_52 : decode cX8_fillWaysIn 52 = .ok (.iload 4, 2) := by decide +kernel
theorem dX8_fillWaysIn_54 : decode cX8_fillWaysIn 54 = .ok (.iastore, 1) := by decide +kernel
theorem dX8_fillWaysIn_55 : decode cX8_fillWaysIn 55 = .ok (.iinc 5 1, 3) := by decide +kernel
theorem dX8_fillWaysIn_58 : decode cX8_fillWaysIn 58 = .ok (.goto (-50), 3) := by decide +kernel
theorem dX8_fillWaysIn_61 : decode cX8_fillWaysIn 61 = .ok (.return_, 1) := by decide +kernel
noncomputable def o_X8_fillWaysIn_8 (F : Nat) (τ : cT) (n : Nat) (b : Nat) (a1 : Nat) (a2 : Nat) (l3 : Int32)  : Nat → Int32 → Int32 → cS → Option (cS)
  | 0, _, _, _ => none
  | f + 1, l4, l5, s => if (nI 24) ≤ l5 then (some s) else (if (nI 24) ≤ l5 then (some s) else (if iL l5 24 then (if iL (irm (l3 + (l5 / (nI 6))) (nI 25)) 25 then ((some (ca s a1 l5 (mni l4 ((cg s a2 l5) + (cg s (b + 5) (irm (l3 + (l5 / (nI 6))) (nI 25))))))).bind fun x5 => (o_X8_fillWaysIn_8 F τ n b a1 a2 l3 f (mni l4 ((cg s a2 l5) + (cg s (b + 5) (irm (l3 + (l5 / (nI 6))) (nI 25))))) (l5 + nI 1) x5)) else none) else none))
set_option maxHeartbeats 4000000 in
theorem t_X8_fillWaysIn_8 {Γ : jg_G} {g : Nat → jg_C} (F : Nat) (τ : cT) (n : Nat) (b : Nat) (a1 : Nat) (a2 : Nat) (l3 : Int32)  (hB : Bd τ n b) (h1 : Ar τ n a1 0 24) (h2 : Ar τ n a2 0 24) (Q : jg_Q) {x : cS} (K1 : jg Γ mX8_fillWaysIn 1 0 0 61 [none, none, none, none, none, none] [] (ct_h g τ x, n) Q)  : ∀ (f : Nat) (l4 : Int32) (l5 : Int32) (s : cS), o_X8_fillWaysIn_8 F τ n b a1 a2 l3 f l4 l5 s = some x → jg Γ mX8_fillWaysIn 1 0 0 8 [some (.ref (b + 1)), some (.ref a1), some (.ref a2), some (.int l3), some (.int l4), some (.int l5)] [] (ct_h g τ s, n) Q := by
  intro f
  induction f with
  | zero => intro l4 l5 s h; rw [o_X8_fillWaysIn_8] at h; cases h
  | succ f ih =>
   intro l4 l5 s h
   rw [o_X8_fillWaysIn_8] at h
   refine jg_iload dX8_fillWaysIn_8 rfl ?_
   refine jg_aload_n dX8_fillWaysIn_10 rfl ?_
   refine cs_len (s := s) (q := a1) (by decide) dX8_fillWaysIn_11 h1 ?_
   refine jg_icmp_ge (x := l5) (y := (nI 24)) (tgt := 61) dX8_fillWaysIn_12 (by decide) (fun c1 => ?_) (fun c1 => ?_)
   · replace h := it_t c1 h
     refine jg_fg (L' := [none, none, none, none, none, none]) (by repeat (first | exact trivial | refine ⟨rfl, ?_⟩ | show jg_le _ _)) ?_
     obtain rfl := Option.some.inj h
     exact K1
   · replace h := it_f c1 h
     refine jg_iload dX8_fillWaysIn_15 rfl ?_
     refine jg_aload_n dX8_fillWaysIn_17 rfl ?_
     refine cs_len (s := s) (q := a2) (by decide) dX8_fillWaysIn_18 h2 ?_
     refine jg_icmp_ge (x := l5) (y := (nI 24)) (tgt := 61) dX8_fillWaysIn_19 (by decide) (fun c2 => ?_) (fun c2 => ?_)
     · replace h := it_t c2 h
       refine jg_fg (L' := [none, none, none, none, none, none]) (by repeat (first | exact trivial | refine ⟨rfl, ?_⟩ | show jg_le _ _)) ?_
       obtain rfl := Option.some.inj h
       exact K1
     · replace h := it_f c2 h
       refine jg_iload dX8_fillWaysIn_22 rfl ?_
       refine jg_aload_n dX8_fillWaysIn_24 rfl ?_
       refine jg_iload dX8_fillWaysIn_25 rfl ?_
       obtain ⟨q3, h⟩ := gd_some h
       refine cs_lda (s := s) (q := a2) (i := l5) dX8_fillWaysIn_27 h2 q3 ?_
       refine jg_aload_n dX8_fillWaysIn_28 rfl ?_
       refine cs_get (s := s) (w := .ref (b + 5)) fl_X8_21 dX8_fillWaysIn_29 (hB.ob 1 (by decide) rfl) rfl ?_
       refine jg_iload_n dX8_fillWaysIn_32 rfl ?_
       refine jg_iload dX8_fillWaysIn_33 rfl ?_
       refine jg_bipush (v := nI 6) dX8_fillWaysIn_35 (by decide) ?_
       refine jg_idiv (x := l5) (y := (nI 6)) dX8_fillWaysIn_37 (by decide) ?_
       refine jg_iadd (x := l3) (y := (l5 / (nI 6))) dX8_fillWaysIn_38  ?_
       refine jg_bipush (v := nI 25) dX8_fillWaysIn_39 (by decide) ?_
       refine jg_iremR (x := (l3 + (l5 / (nI 6)))) (y := (nI 25)) dX8_fillWaysIn_41 (by decide) ?_
       obtain ⟨q4, h⟩ := gd_some h
       refine cs_lda (s := s) (q := (b + 5)) (i := (irm (l3 + (l5 / (nI 6))) (nI 25))) dX8_fillWaysIn_42 (hB.ar 5 (by decide) rfl) q4 ?_
       refine jg_iadd (x := (cg s a2 l5)) (y := (cg s (b + 5) (irm (l3 + (l5 / (nI 6))) (nI 25)))) dX8_fillWaysIn_43  ?_
       refine jg_mmin (x := l4) (y := ((cg s a2 l5) + (cg s (b + 5) (irm (l3 + (l5 / (nI 6))) (nI 25))))) km_X8_65 jw_min.1 jw_min.2 dX8_fillWaysIn_44 (by decide) (Nat.le_of_ble_eq_true rfl) ?_
       refine jg_istore (L' := [some (.ref (b + 1)), some (.ref a1), some (.ref a2), some (.int l3), some (.int (mni l4 ((cg s a2 l5) + (cg s (b + 5) (irm (l3 + (l5 / (nI 6))) (nI 25)))))), some (.int l5)]) dX8_fillWaysIn_47 (by decide) rfl ?_
       refine jg_aload_n dX8_fillWaysIn_49 rfl ?_
       refine jg_iload dX8_fillWaysIn_50 rfl ?_
       refine jg_iload dX8_fillWaysIn_52 rfl ?_
       refine cs_sta (s := s) (q := a1) (i := l5) (x := (mni l4 ((cg s a2 l5) + (cg s (b + 5) (irm (l3 + (l5 / (nI 6))) (nI 25)))))) dX8_fillWaysIn_54 h1 q3 ?_
       obtain ⟨x5, e_x5, h⟩ := bd_some h
       refine cs_sub (Option.some.inj e_x5) ?_
       refine jg_iinc (x := l5) (v := l5 + nI 1) (L' := [some (.ref (b + 1)), some (.ref a1), some (.ref a2), some (.int l3), some (.int (mni l4 ((cg s a2 l5) + (cg s (b + 5) (irm (l3 + (l5 / (nI 6))) (nI 25)))))), some (.int (l5 + nI 1))]) dX8_fillWaysIn_55 rfl (ic_k _ (by decide)) (by decide) rfl ?_
       refine jg_goto (tgt := 8) dX8_fillWaysIn_58 (by decide) ?_
       refine jg_fg (L' := [some (.ref (b + 1)), some (.ref a1), some (.ref a2), some (.int l3), some (.int (mni l4 ((cg s a2 l5) + (cg s (b + 5) (irm (l3 + (l5 / (nI 6))) (nI 25)))))), some (.int (l5 + nI 1))]) (by repeat (first | exact trivial | refine ⟨rfl, ?_⟩ | show jg_le _ _)) ?_
       exact ih (mni l4 ((cg s a2 l5) + (cg s (b + 5) (irm (l3 + (l5 / (nI 6))) (nI 25))))) (l5 + nI 1) x5 h
noncomputable def o_X8_fillWaysIn (F : Nat) (τ : cT) (n : Nat) (b : Nat) (a1 : Nat) (a2 : Nat) (s : cS) (a3 : Int32) : Option (cS) := (o_X8_fillWaysIn_8 F τ n b a1 a2 a3 F (nI 2000) (nI 0) s).bind fun x6 => (some x6)
set_option maxHeartbeats 4000000 in
theorem t_X8_fillWaysIn {Γ : jg_G} {g : Nat → jg_C} (F : Nat) (τ : cT) (n : Nat) (b : Nat) (a1 : Nat) (a2 : Nat) (s : cS) (a3 : Int32) (hB : Bd τ n b) (h1 : Ar τ n a1 0 24) (h2 : Ar τ n a2 0 24) {x : cS} (h : o_X8_fillWaysIn F τ n b a1 a2 s a3 = some x) : jc Γ mX8_fillWaysIn 1 0 0 [some (.ref (b + 1)), some (.ref a1), some (.ref a2), some (.int a3), none, none] (ct_h g τ s, n) (.inl none) (ct_h g τ x, n) := by
  refine jc_of ?_
  rw [o_X8_fillWaysIn] at h
  refine jg_sipush (v := nI 2000) dX8_fillWaysIn_0 (by decide) ?_
  refine jg_istore (L' := [some (.ref (b + 1)), some (.ref a1), some (.ref a2), some (.int a3), some (.int (nI 2000)), none]) dX8_fillWaysIn_3 (by decide) rfl ?_
  refine jg_iconst (v := nI 0) dX8_fillWaysIn_5 (by decide) ?_
  refine jg_istore (L' := [some (.ref (b + 1)), some (.ref a1), some (.ref a2), some (.int a3), some (.int (nI 2000)), some (.int (nI 0))]) dX8_fillWaysIn_6 (by decide) rfl ?_
  obtain ⟨x6, e_x6, h⟩ := bd_some h
  refine jg_fg (L' := [some (.ref (b + 1)), some (.ref a1), some (.ref a2), some (.int a3), some (.int (nI 2000)), some (.int (nI 0))]) (by repeat (first | exact trivial | refine ⟨rfl, ?_⟩ | show jg_le _ _)) ?_
  refine t_X8_fillWaysIn_8  F τ n b a1 a2 a3 hB h1 h2 _ (x := x6) ?_ F (nI 2000) (nI 0) s e_x6
  obtain rfl := Option.some.inj h
  exact jg_return dX8_fillWaysIn_61 rfl ⟨rfl, rfl⟩
theorem dX1_sunk_0 : decode cX1_sunk 0 = .ok (.aload_n 0, 1) := by decide +kernel
theorem dX1_sunk_1 : decode cX1_sunk 1 = .ok (.getfield 27, 3) := by decide +kernel
theorem dX1_sunk_4 : decode cX1_sunk 4 = .ok (.bipush 24, 2) := by decide +kernel
theorem dX1_sunk_6 : decode cX1_sunk 6 = .ok (.idiv, 1) := by decide +kernel
theorem dX1_sunk_7 : decode cX1_sunk 7 = .ok (.ireturn, 1) := by decide +kernel
noncomputable def o_X1_sunk (τ : cT) (n : Nat) (p : Nat) (s : cS) : Option (Int32) := some ((s.1 p 5) / (nI 24))
set_option maxHeartbeats 4000000 in
theorem t_X1_sunk {Γ : jg_G} {g : Nat → jg_C} (τ : cT) (n : Nat) (p : Nat) (s : cS) (hp : Ob τ n p 1) {x : Int32} (h : o_X1_sunk τ n p s = some x) : jc Γ mX1_sunk 0 0 0 [some (.ref p)] (ct_h g τ s, n) (.inl (some (.int x))) (ct_h g τ s, n) := by
  refine jc_of ?_
  rw [o_X1_sunk] at h
  refine jg_aload_n dX1_sunk_0 rfl ?_
  refine cs_get (s := s) (w := .int (s.1 p 5)) fl_X1_27 dX1_sunk_1 hp rfl ?_
  refine jg_bipush (v := nI 24) dX1_sunk_4 (by decide) ?_
  refine jg_idiv (x := (s.1 p 5)) (y := (nI 24)) dX1_sunk_6 (by decide) ?_
  obtain rfl := Option.some.inj h
  exact jg_ireturn dX1_sunk_7 rfl ⟨rfl, rfl⟩
theorem dX1_isClosed_0 : decode cX1_isClosed 0 = .ok (.aload_n 0, 1) := by decide +kernel
theorem dX1_isClosed_1 : decode cX1_isClosed 1 = .ok (.invokevirtual 39, 3) := by decide +kernel
theorem dX1_isClosed_4 : decode cX1_isClosed 4 = .ok (.bipush 10, 2) := by decide +kernel
theorem dX1_isClosed_6 : decode cX1_isClosed 6 = .ok (.if_icmp .lt 7, 3) := by decide +kernel
theorem dX1_isClosed_9 : decode cX1_isClosed 9 = .ok (.iconst 1, 1) := by decide +kernel
theorem dX1_isClosed_10 : decode cX1_isClosed 10 = .ok (.goto 4, 3) := by decide +kernel
theorem dX1_isClosed_13 : decode cX1_isClosed 13 = .ok (.iconst 0, 1) := by decide +kernel
theorem dX1_isClosed_14 : decode cX1_isClosed 14 = .ok (.ireturn, 1) := by decide +kernel
noncomputable def o_X1_isClosed (τ : cT) (n : Nat) (p : Nat) (s : cS) : Option (Int32) := (o_X1_sunk τ n p s).bind fun x1 => (if x1 < (nI 10) then (some (nI 0)) else (some (nI 1)))
set_option maxHeartbeats 4000000 in
theorem t_X1_isClosed {Γ : jg_G} {g : Nat → jg_C} (τ : cT) (n : Nat) (p : Nat) (s : cS) (hp : Ob τ n p 1) {x : Int32} (h : o_X1_isClosed τ n p s = some x) : jc Γ mX1_isClosed 1 0 0 [some (.ref p)] (ct_h g τ s, n) (.inl (some (.int x))) (ct_h g τ s, n) := by
  refine jc_of ?_
  rw [o_X1_isClosed] at h
  refine jg_aload_n dX1_isClosed_0 rfl ?_
  obtain ⟨x1, e_x1, h⟩ := bd_some h
  refine cs_call (q := p) (As := []) kv_X1_39 dX1_isClosed_1 hp rfl rfl (by decide) (Nat.le_of_ble_eq_true rfl) rfl (by decide) (Nat.le_of_ble_eq_true rfl) (t_X1_sunk τ n p s hp e_x1) ?_
  refine jg_bipush (v := nI 10) dX1_isClosed_4 (by decide) ?_
  refine jg_icmp_lt (x := x1) (y := (nI 10)) (tgt := 13) dX1_isClosed_6 (by decide) (fun c2 => ?_) (fun c2 => ?_)
  · replace h := it_t c2 h
    refine jg_iconst (v := nI 0) dX1_isClosed_13 (by decide) ?_
    obtain rfl := Option.some.inj h
    exact jg_zreturn dX1_isClosed_14 rfl (rfl) ⟨rfl, rfl⟩
  · replace h := it_f c2 h
    refine jg_iconst (v := nI 1) dX1_isClosed_9 (by decide) ?_
    refine jg_goto (tgt := 14) dX1_isClosed_10 (by decide) ?_
    obtain rfl := Option.some.inj h
    exact jg_zreturn dX1_isClosed_14 rfl (rfl) ⟨rfl, rfl⟩
theorem dX4_firstBegin_0 : decode cX4_firstBegin 0 = .ok (.iload_n 3, 1) := by decide +kernel
theorem dX4_firstBegin_1 : decode cX4_firstBegin 1 = .ok (.istore 4, 2) := by decide +kernel
theorem dX4_firstBegin_3 : decode cX4_firstBegin 3 = .ok (.iload 4, 2) := by decide +kernel
theorem dX4_firstBegin_5 : decode cX4_firstBegin 5 = .ok (.bipush 72, 2) := by decide +kernel
theorem dX4_firstBegin_7 : decode cX4_firstBegin 7 = .ok (.if_icmp .gt 28, 3) := by decide +kernel
theorem dX4_firstBegin_10 : decode cX4_firstBegin 10 = .ok (.aload_n 0, 1) := by decide +kernel
theorem dX4_firstBegin_11 : decode cX4_firstBegin 11 = .ok (.getfield 32, 3) := by decide +kernel
theorem dX4_firstBegin_14 : decode cX4_firstBegin 14 = .ok (.iload 4, 2) := by decide +kernel
theorem dX4_firstBegin_16 : decode cX4_firstBegin 16 = .ok (.bipush 25, 2) := by decide +kernel
theorem dX4_firstBegin_18 : decode cX4_firstBegin 18 = .ok (.irem, 1) := by decide +kernel
theorem dX4_firstBegin_19 : decode cX4_firstBegin 19 = .ok (.aaload, 1) := by decide +kernel
theorem dX4_firstBegin_20 : decode cX4_firstBegin 20 = .ok (.iload_n 1, 1) := by decide +kernel
theorem dX4_firstBegin_21 : decode cX4_firstBegin 21 = .ok (.iaload, 1) := by decide +kernel
theorem dX4_firstBegin_22 : decode cX4_firstBegin 22 = .ok (.iload_n 2, 1) := by decide +kernel
theorem dX4_firstBegin_23 : decode cX4_firstBegin 23 = .ok (.if_icmp .lt 6, 3) := by decide +kernel
theorem dX4_firstBegin_26 : decode cX4_firstBegin 26 = .ok (.iload 4, 2) := by decide +kernel
theorem dX4_firstBegin_28 : decode cX4_firstBegin 28 = .ok (.ireturn, 1) := by decide +kernel
theorem dX4_firstBegin_29 : decode cX4_firstBegin 29 = .ok (.iinc 4 1, 3) := by decide +kernel
theorem dX4_firstBegin_32 : decode cX4_firstBegin 32 = .ok (.goto (-29), 3) := by decide +kernel
theorem dX4_firstBegin_35 : decode cX4_firstBegin 35 = .ok (.iconst (-1), 1) := by decide +kernel
theorem dX4_firstBegin_36 : decode cX4_firstBegin 36 = .ok (.ireturn, 1) := by decide +kernel
noncomputable def o_X4_firstBegin_3 (F : Nat) (τ : cT) (n : Nat) (b : Nat) (l1 : Int32) (l2 : Int32) (s : cS) : Nat → Int32 → Option ((Unit) ⊕ (Int32))
  | 0, _ => none
  | f + 1, l4 => if (nI 72) < l4 then (some (.inl ())) else (if iL (irm l4 (nI 25)) 25 then (if iL l1 24 then (if (cg s (b + 138 + 1 + (irm l4 (nI 25)).toNatClampNeg) l1) < l2 then (o_X4_firstBegin_3 F τ n b l1 l2 s f (l4 + nI 1)) else (some (.inr l4))) else none) else none)
set_option maxHeartbeats 4000000 in
theorem t_X4_firstBegin_3 {Γ : jg_G} {g : Nat → jg_C} (F : Nat) (τ : cT) (n : Nat) (b : Nat) (l1 : Int32) (l2 : Int32) (s : cS) (hB : Bd τ n b) (Q : jg_Q) {x : (Unit) ⊕ (Int32)} (K1 : ∀ y, x = .inl y → jg Γ mX4_firstBegin 0 0 0 35 [none, none, none, none, none] [] (ct_h g τ s, n) Q) (K2 : ∀ z, x = .inr z → Q (.inl (some (.int z))) (ct_h g τ s, n)) : ∀ (f : Nat) (l4 : Int32), o_X4_firstBegin_3 F τ n b l1 l2 s f l4 = some x → jg Γ mX4_firstBegin 0 0 0 3 [some (.ref (b + 131)), some (.int l1), some (.int l2), none, some (.int l4)] [] (ct_h g τ s, n) Q := by
  intro f
  induction f with
  | zero => intro l4 h; rw [o_X4_firstBegin_3] at h; cases h
  | succ f ih =>
   intro l4 h
   rw [o_X4_firstBegin_3] at h
   refine jg_iload dX4_firstBegin_3 rfl ?_
   refine jg_bipush (v := nI 72) dX4_firstBegin_5 (by decide) ?_
   refine jg_icmp_gt (x := l4) (y := (nI 72)) (tgt := 35) dX4_firstBegin_7 (by decide) (fun c1 => ?_) (fun c1 => ?_)
   · replace h := it_t c1 h
     refine jg_fg (L' := [none, none, none, none, none]) (by repeat (first | exact trivial | refine ⟨rfl, ?_⟩ | show jg_le _ _)) ?_
     obtain rfl := Option.some.inj h
     exact K1 _ rfl
   · replace h := it_f c1 h
     refine jg_aload_n dX4_firstBegin_10 rfl ?_
     refine cs_get (s := s) (w := .ref (b + 138)) fl_X4_32 dX4_firstBegin_11 (hB.ob 131 (by decide) rfl) rfl ?_
     refine jg_iload dX4_firstBegin_14 rfl ?_
     refine jg_bipush (v := nI 25) dX4_firstBegin_16 (by decide) ?_
     refine jg_iremR (x := l4) (y := (nI 25)) dX4_firstBegin_18 (by decide) ?_
     obtain ⟨q2, h⟩ := gd_some h
     refine cs_ldr (s := s) (q := (b + 138)) (i := (irm l4 (nI 25))) (kd := 7) (by decide) dX4_firstBegin_19 (hB.ar 138 (by decide) rfl) q2 ?_
     refine jg_iload_n dX4_firstBegin_20 rfl ?_
     obtain ⟨q3, h⟩ := gd_some h
     refine cs_lda (s := s) (q := (b + 138 + 1 + (irm l4 (nI 25)).toNatClampNeg)) (i := l1) dX4_firstBegin_21 (hB.way q2.2) q3 ?_
     refine jg_iload_n dX4_firstBegin_22 rfl ?_
     refine jg_icmp_lt (x := (cg s (b + 138 + 1 + (irm l4 (nI 25)).toNatClampNeg) l1)) (y := l2) (tgt := 29) dX4_firstBegin_23 (by decide) (fun c4 => ?_) (fun c4 => ?_)
     · replace h := it_t c4 h
       refine jg_iinc (x := l4) (v := l4 + nI 1) (L' := [some (.ref (b + 131)), some (.int l1), some (.int l2), none, some (.int (l4 + nI 1))]) dX4_firstBegin_29 rfl (ic_k _ (by decide)) (by decide) rfl ?_
       refine jg_goto (tgt := 3) dX4_firstBegin_32 (by decide) ?_
       refine jg_fg (L' := [some (.ref (b + 131)), some (.int l1), some (.int l2), none, some (.int (l4 + nI 1))]) (by repeat (first | exact trivial | refine ⟨rfl, ?_⟩ | show jg_le _ _)) ?_
       exact ih (l4 + nI 1) h
     · replace h := it_f c4 h
       refine jg_iload dX4_firstBegin_26 rfl ?_
       obtain rfl := Option.some.inj h
       exact jg_ireturn dX4_firstBegin_28 rfl (K2 _ rfl)
noncomputable def o_X4_firstBegin (F : Nat) (τ : cT) (n : Nat) (b : Nat) (s : cS) (a1 : Int32) (a2 : Int32) (a3 : Int32) : Option (Int32) := (o_X4_firstBegin_3 F τ n b a1 a2 s F a3).bind fun x5 => (Sum.elim (fun y6 => some (-1)) (fun z7 => some z7) x5)
set_option maxHeartbeats 4000000 in
theorem t_X4_firstBegin {Γ : jg_G} {g : Nat → jg_C} (F : Nat) (τ : cT) (n : Nat) (b : Nat) (s : cS) (a1 : Int32) (a2 : Int32) (a3 : Int32) (hB : Bd τ n b) {x : Int32} (h : o_X4_firstBegin F τ n b s a1 a2 a3 = some x) : jc Γ mX4_firstBegin 0 0 0 [some (.ref (b + 131)), some (.int a1), some (.int a2), some (.int a3), none] (ct_h g τ s, n) (.inl (some (.int x))) (ct_h g τ s, n) := by
  refine jc_of ?_
  rw [o_X4_firstBegin] at h
  refine jg_iload_n dX4_firstBegin_0 rfl ?_
  refine jg_istore (L' := [some (.ref (b + 131)), some (.int a1), some (.int a2), some (.int a3), some (.int a3)]) dX4_firstBegin_1 (by decide) rfl ?_
  obtain ⟨x5, e_x5, h⟩ := bd_some h
  refine jg_fg (L' := [some (.ref (b + 131)), some (.int a1), some (.int a2), none, some (.int a3)]) (by repeat (first | exact trivial | refine ⟨rfl, ?_⟩ | show jg_le _ _)) ?_
  refine t_X4_firstBegin_3  F τ n b a1 a2 s hB _ (x := x5) ?_ ?_ F a3 e_x5
  · intro y6 ey; subst ey; replace h := se_l h
    refine jg_iconst (v := (-1)) dX4_firstBegin_35 (by decide) ?_
    obtain rfl := Option.some.inj h
    exact jg_ireturn dX4_firstBegin_36 rfl ⟨rfl, rfl⟩
  · intro z7 ez; subst ez; replace h := se_r h
    obtain rfl := Option.some.inj h
    exact ⟨rfl, rfl⟩
theorem dX4_joinSets_0 : decode cX4_joinSets 0 = .ok (.aload_n 0, 1) := by decide +kernel
theorem dX4_joinSets_1 : decode cX4_joinSets 1 = .ok (.getfield 41, 3) := by decide +kernel
theorem dX4_joinSets_4 : decode cX4_joinSets 4 = .ok (.iload_n 1, 1) := by decide +kernel
theorem dX4_joinSets_5 : decode cX4_joinSets 5 = .ok (.iaload, 1) := by decide +kernel
theorem dX4_joinSets_6 : decode cX4_joinSets 6 = .ok (.istore_n 2, 1) := by decide +kernel
theorem dX4_joinSets_7 : decode cX4_joinSets 7 = .ok (.iconst 1, 1) := by decide +kernel
theorem dX4_joinSets_8 : decode cX4_joinSets 8 = .ok (.istore_n 3, 1) := by decide +kernel
theorem dX4_joinSets_9 : decode cX4_joinSets 9 = .ok (.iload_n 3, 1) := by decide +kernel
theorem dX4_joinSets_10 : decode cX4_joinSets 10 = .ok (.iload_n 1, 1) := by decide +kernel
theorem dX4_joinSets_11 : decode cX4_joinSets 11 = .ok (.if_icmp .gt 36, 3) := by decide +kernel
theorem dX4_joinSets_14 : decode cX4_joinSets 14 = .ok (.iload_n 3, 1) := by decide +kernel
theorem dX4_joinSets_15 : decode cX4_joinSets 15 = .ok (.iload_n 1, 1) := by decide +kernel
theorem dX4_joinSets_16 : decode cX4_joinSets 16 = .ok (.iand, 1) := by decide +kernel
theorem dX4_joinSets_17 : decode cX4_joinSets 17 = .ok (.iload_n 3, 1) := by decide +kernel
theorem dX4_joinSets_18 : decode cX4_joinSets 18 = .ok (.if_icmp .ne 23, 3) := by decide +kernel
theorem dX4_joinSets_21 : decode cX4_joinSets 21 = .ok (.iload_n 2, 1) := by decide +kernel
theorem dX4_joinSets_22 : decode cX4_joinSets 22 = .ok (.aload_n 0, 1) := by decide +kernel
theorem dX4_joinSets_23 : decode cX4_joinSets 23 = .ok (.getfield 41, 3) := by decide +kernel
theorem dX4_joinSets_26 : decode cX4_joinSets 26 = .ok (.iload_n 1, 1) := by decide +kernel
theorem dX4_joinSets_27 : decode cX4_joinSets 27 = .ok (.iload_n 3, 1) := by decide +kernel
theorem dX4_joinSets_28 : decode cX4_joinSets 28 = .ok (.ixor, 1) := by decide +kernel
theorem dX4_joinSets_29 : decode cX4_joinSets 29 = .ok (.iaload, 1) := by decide +kernel
theorem dX4_joinSets_30 : decode cX4_joinSets 30 = .ok (.aload_n 0, 1) := by decide +kernel
theorem dX4_joinSets_31 : decode cX4_joinSets 31 = .ok (.getfield 38, 3) := by decide +kernel
theorem dX4_joinSets_34 : decode cX4_joinSets 34 = .ok (.iload_n 3, 1) := by decide +kernel
theorem dX4_joinSets_35 : decode cX4_joinSets 35 = .ok (.iaload, 1) := by decide +kernel
theorem dX4_joinSets_36 : decode cX4_joinSets 36 = .ok (.iadd, 1) := by decide +kernel
theorem dX4_joinSets_37 : decode cX4_joinSets 37 = .ok (.invokestatic 102, 3) := by decide +kernel
theorem dX4_joinSets_40 : decode cX4_joinSets 40 = .ok (.istore_n 2, 1) := by decide +kernel
theorem dX4_joinSets_41 : decode cX4_joinSets 41 = .ok (.iinc 3 1, 3) := by decide +kernel
theorem dX4_joinSets_44 : decode cX4_joinSets 44 = .ok (.goto (-35), 3) := by decide +kernel
theorem dX4_joinSets_47 : decode cX4_joinSets 47 = .ok (.aload_n 0, 1) := by decide +kernel
theorem dX4_joinSets_48 : decode cX4_joinSets 48 = .ok (.getfield 41, 3) := by decide +kernel
theorem dX4_joinSets_51 : decode cX4_joinSets 51 = .ok (.iload_n 1, 1) := by decide +kernel
theorem dX4_joinSets_52 : decode cX4_joinSets 52 = .ok (.iload_n 2, 1) := by decide +kernel
theorem dX4_joinSets_53 : decode cX4_joinSets 53 = .ok (.iastore, 1) := by decide +kernel
theorem dX4_joinSets_54 : decode cX4_joinSets 54 = .ok (.return_, 1) := by decide +kernel
noncomputable def o_X4_joinSets_9 (F : Nat) (τ : cT) (n : Nat) (b : Nat) (l1 : Int32) (s : cS) : Nat → Int32 → Int32 → Option (Int32)
  | 0, _, _ => none
  | f + 1, l2, l3 => if l1 < l3 then (some l2) else (if (l3 &&& l1) = l3 then (if iL (l1 ^^^ l3) 16 then (if iL l3 16 then (o_X4_joinSets_9 F τ n b l1 s f (mni l2 ((cg s (b + 166) (l1 ^^^ l3)) + (cg s (b + 165) l3))) (l3 + nI 1)) else none) else none) else (o_X4_joinSets_9 F τ n b l1 s f l2 (l3 + nI 1)))
set_option maxHeartbeats 4000000 in
theorem t_X4_joinSets_9 {Γ : jg_G} {g : Nat → jg_C} (F : Nat) (τ : cT) (n : Nat) (b : Nat) (l1 : Int32) (s : cS) (hB : Bd τ n b) (Q : jg_Q) {x : Int32} (K1 : jg Γ mX4_joinSets 1 0 0 47 [some (.ref (b + 131)), some (.int l1), some (.int x), none] [] (ct_h g τ s, n) Q)  : ∀ (f : Nat) (l2 : Int32) (l3 : Int32), o_X4_joinSets_9 F τ n b l1 s f l2 l3 = some x → jg Γ mX4_joinSets 1 0 0 9 [some (.ref (b + 131)), some (.int l1), some (.int l2), some (.int l3)] [] (ct_h g τ s, n) Q := by
  intro f
  induction f with
  | zero => intro l2 l3 h; rw [o_X4_joinSets_9] at h; cases h
  | succ f ih =>
   intro l2 l3 h
   rw [o_X4_joinSets_9] at h
   refine jg_iload_n dX4_joinSets_9 rfl ?_
   refine jg_iload_n dX4_joinSets_10 rfl ?_
   refine jg_icmp_gt (x := l3) (y := l1) (tgt := 47) dX4_joinSets_11 (by decide) (fun c2 => ?_) (fun c2 => ?_)
   · replace h := it_t c2 h
     refine jg_fg (L' := [some (.ref (b + 131)), some (.int l1), some (.int l2), none]) (by repeat (first | exact trivial | refine ⟨rfl, ?_⟩ | show jg_le _ _)) ?_
     obtain rfl := Option.some.inj h
     exact K1
   · replace h := it_f c2 h
     refine jg_iload_n dX4_joinSets_14 rfl ?_
     refine jg_iload_n dX4_joinSets_15 rfl ?_
     refine jg_iand (x := l3) (y := l1) dX4_joinSets_16  ?_
     refine jg_iload_n dX4_joinSets_17 rfl ?_
     refine jg_icmp_ne (x := (l3 &&& l1)) (y := l3) (tgt := 41) dX4_joinSets_18 (by decide) (fun c3 => ?_) (fun c3 => ?_)
     · replace h := it_f c3 h
       refine jg_iinc (x := l3) (v := l3 + nI 1) (L' := [some (.ref (b + 131)), some (.int l1), some (.int l2), some (.int (l3 + nI 1))]) dX4_joinSets_41 rfl (ic_k _ (by decide)) (by decide) rfl ?_
       refine jg_goto (tgt := 9) dX4_joinSets_44 (by decide) ?_
       refine jg_fg (L' := [some (.ref (b + 131)), some (.int l1), some (.int l2), some (.int (l3 + nI 1))]) (by repeat (first | exact trivial | refine ⟨rfl, ?_⟩ | show jg_le _ _)) ?_
       exact ih l2 (l3 + nI 1) h
     · replace h := it_t c3 h
       refine jg_iload_n dX4_joinSets_21 rfl ?_
       refine jg_aload_n dX4_joinSets_22 rfl ?_
       refine cs_get (s := s) (w := .ref (b + 166)) fl_X4_41 dX4_joinSets_23 (hB.ob 131 (by decide) rfl) rfl ?_
       refine jg_iload_n dX4_joinSets_26 rfl ?_
       refine jg_iload_n dX4_joinSets_27 rfl ?_
       refine jg_ixor (x := l1) (y := l3) dX4_joinSets_28  ?_
       obtain ⟨q4, h⟩ := gd_some h
       refine cs_lda (s := s) (q := (b + 166)) (i := (l1 ^^^ l3)) dX4_joinSets_29 (hB.ar 166 (by decide) rfl) q4 ?_
       refine jg_aload_n dX4_joinSets_30 rfl ?_
       refine cs_get (s := s) (w := .ref (b + 165)) fl_X4_38 dX4_joinSets_31 (hB.ob 131 (by decide) rfl) rfl ?_
       refine jg_iload_n dX4_joinSets_34 rfl ?_
       obtain ⟨q5, h⟩ := gd_some h
       refine cs_lda (s := s) (q := (b + 165)) (i := l3) dX4_joinSets_35 (hB.ar 165 (by decide) rfl) q5 ?_
       refine jg_iadd (x := (cg s (b + 166) (l1 ^^^ l3))) (y := (cg s (b + 165) l3)) dX4_joinSets_36  ?_
       refine jg_mmin (x := l2) (y := ((cg s (b + 166) (l1 ^^^ l3)) + (cg s (b + 165) l3))) km_X4_102 jw_min.1 jw_min.2 dX4_joinSets_37 (by decide) (Nat.le_of_ble_eq_true rfl) ?_
       refine jg_istore_n (L' := [some (.ref (b + 131)), some (.int l1), some (.int (mni l2 ((cg s (b + 166) (l1 ^^^ l3)) + (cg s (b + 165) l3)))), some (.int l3)]) dX4_joinSets_40 (by decide) rfl ?_
       refine jg_iinc (x := l3) (v := l3 + nI 1) (L' := [some (.ref (b + 131)), some (.int l1), some (.int (mni l2 ((cg s (b + 166) (l1 ^^^ l3)) + (cg s (b + 165) l3)))), some (.int (l3 + nI 1))]) dX4_joinSets_41 rfl (ic_k _ (by decide)) (by decide) rfl ?_
       refine jg_goto (tgt := 9) dX4_joinSets_44 (by decide) ?_
       refine jg_fg (L' := [some (.ref (b + 131)), some (.int l1), some (.int (mni l2 ((cg s (b + 166) (l1 ^^^ l3)) + (cg s (b + 165) l3)))), some (.int (l3 + nI 1))]) (by repeat (first | exact trivial | refine ⟨rfl, ?_⟩ | show jg_le _ _)) ?_
       exact ih (mni l2 ((cg s (b + 166) (l1 ^^^ l3)) + (cg s (b + 165) l3))) (l3 + nI 1) h
noncomputable def o_X4_joinSets (F : Nat) (τ : cT) (n : Nat) (b : Nat) (s : cS) (a1 : Int32) : Option (cS) := if iL a1 16 then ((o_X4_joinSets_9 F τ n b a1 s F (cg s (b + 166) a1) (nI 1)).bind fun x6 => (some (ca s (b + 166) a1 x6))) else none
set_option maxHeartbeats 4000000 in
theorem t_X4_joinSets {Γ : jg_G} {g : Nat → jg_C} (F : Nat) (τ : cT) (n : Nat) (b : Nat) (s : cS) (a1 : Int32) (hB : Bd τ n b) {x : cS} (h : o_X4_joinSets F τ n b s a1 = some x) : jc Γ mX4_joinSets 1 0 0 [some (.ref (b + 131)), some (.int a1), none, none] (ct_h g τ s, n) (.inl none) (ct_h g τ x, n) := by
  refine jc_of ?_
  rw [o_X4_joinSets] at h
  refine jg_aload_n dX4_joinSets_0 rfl ?_
  refine cs_get (s := s) (w := .ref (b + 166)) fl_X4_41 dX4_joinSets_1 (hB.ob 131 (by decide) rfl) rfl ?_
  refine jg_iload_n dX4_joinSets_4 rfl ?_
  obtain ⟨q1, h⟩ := gd_some h
  refine cs_lda (s := s) (q := (b + 166)) (i := a1) dX4_joinSets_5 (hB.ar 166 (by decide) rfl) q1 ?_
  refine jg_istore_n (L' := [some (.ref (b + 131)), some (.int a1), some (.int (cg s (b + 166) a1)), none]) dX4_joinSets_6 (by decide) rfl ?_
  refine jg_iconst (v := nI 1) dX4_joinSets_7 (by decide) ?_
  refine jg_istore_n (L' := [some (.ref (b + 131)), some (.int a1), some (.int (cg s (b + 166) a1)), some (.int (nI 1))]) dX4_joinSets_8 (by decide) rfl ?_
  obtain ⟨x6, e_x6, h⟩ := bd_some h
  refine jg_fg (L' := [some (.ref (b + 131)), some (.int a1), some (.int (cg s (b + 166) a1)), some (.int (nI 1))]) (by repeat (first | exact trivial | refine ⟨rfl, ?_⟩ | show jg_le _ _)) ?_
  refine t_X4_joinSets_9  F τ n b a1 s hB _ (x := x6) ?_ F (cg s (b + 166) a1) (nI 1) e_x6
  refine jg_aload_n dX4_joinSets_47 rfl ?_
  refine cs_get (s := s) (w := .ref (b + 166)) fl_X4_41 dX4_joinSets_48 (hB.ob 131 (by decide) rfl) rfl ?_
  refine jg_iload_n dX4_joinSets_51 rfl ?_
  refine jg_iload_n dX4_joinSets_52 rfl ?_
  refine cs_sta (s := s) (q := (b + 166)) (i := a1) (x := x6) dX4_joinSets_53 (hB.ar 166 (by decide) rfl) q1 ?_
  obtain rfl := Option.some.inj h
  exact jg_return dX4_joinSets_54 rfl ⟨rfl, rfl⟩
theorem dX4_leastSum_0 : decode cX4_leastSum 0 = .ok (.aload_n 0, 1) := by decide +kernel
theorem dX4_leastSum_1 : decode cX4_leastSum 1 = .ok (.getfield 41, 3) := by decide +kernel
theorem dX4_leastSum_4 : decode cX4_leastSum 4 = .ok (.iconst 1, 1) := by decide +kernel
theorem dX4_leastSum_5 : decode cX4_leastSum 5 = .ok (.aload_n 0, 1) := by decide +kernel
theorem dX4_leastSum_6 : decode cX4_leastSum 6 = .ok (.getfield 62, 3) := by decide +kernel
theorem dX4_leastSum_9 : decode cX4_leastSum 9 = .ok (.ishl, 1) := by decide +kernel
theorem dX4_leastSum_10 : decode cX4_leastSum 10 = .ok (.iconst 1, 1) := by decide +kernel
theorem dX4_leastSum_11 : decode cX4_leastSum 11 = .ok (.isub, 1) := by decide +kernel
theorem dX4_leastSum_12 : decode cX4_leastSum 12 = .ok (.iaload, 1) := by decide +kernel
theorem dX4_leastSum_13 : decode cX4_leastSum 13 = .ok (.istore_n 1, 1) := by decide +kernel
theorem dX4_leastSum_14 : decode cX4_leastSum 14 = .ok (.iload_n 1, 1) := by decide +kernel
theorem dX4_leastSum_15 : decode cX4_leastSum 15 = .ok (.ldc 65, 2) := by decide +kernel
theorem dX4_leastSum_17 : decode cX4_leastSum 17 = .ok (.if_icmp .lt 7, 3) := by decide +kernel
theorem dX4_leastSum_20 : decode cX4_leastSum 20 = .ok (.iconst (-1), 1) := by decide +kernel
theorem dX4_leastSum_21 : decode cX4_leastSum 21 = .ok (.goto 4, 3) := by decide +kernel
theorem dX4_leastSum_24 : decode cX4_leastSum 24 = .ok (.iload_n 1, 1) := by decide +kernel
theorem dX4_leastSum_25 : decode cX4_leastSum 25 = .ok (.ireturn, 1) := by decide +kernel
noncomputable def o_X4_leastSum (τ : cT) (n : Nat) (b : Nat) (s : cS) : Option (Int32) := if iL (((nI 1) <<< ((s.1 (b + 131) 7) &&& 31)) - (nI 1)) 16 then (if (cg s (b + 166) (((nI 1) <<< ((s.1 (b + 131) 7) &&& 31)) - (nI 1))) < (nI 1000000) then (some (cg s (b + 166) (((nI 1) <<< ((s.1 (b + 131) 7) &&& 31)) - (nI 1)))) else (some (-1))) else none
set_option maxHeartbeats 4000000 in
theorem t_X4_leastSum {Γ : jg_G} {g : Nat → jg_C} (τ : cT) (n : Nat) (b : Nat) (s : cS) (hB : Bd τ n b) {x : Int32} (h : o_X4_leastSum τ n b s = some x) : jc Γ mX4_leastSum 0 0 0 [some (.ref (b + 131)), none] (ct_h g τ s, n) (.inl (some (.int x))) (ct_h g τ s, n) := by
  refine jc_of ?_
  rw [o_X4_leastSum] at h
  refine jg_aload_n dX4_leastSum_0 rfl ?_
  refine cs_get (s := s) (w := .ref (b + 166)) fl_X4_41 dX4_leastSum_1 (hB.ob 131 (by decide) rfl) rfl ?_
  refine jg_iconst (v := nI 1) dX4_leastSum_4 (by decide) ?_
  refine jg_aload_n dX4_leastSum_5 rfl ?_
  refine cs_get (s := s) (w := .int (s.1 (b + 131) 7)) fl_X4_62 dX4_leastSum_6 (hB.ob 131 (by decide) rfl) rfl ?_
  refine jg_ishl (x := (nI 1)) (y := (s.1 (b + 131) 7)) dX4_leastSum_9  ?_
  refine jg_iconst (v := nI 1) dX4_leastSum_10 (by decide) ?_
  refine jg_isub (x := ((nI 1) <<< ((s.1 (b + 131) 7) &&& 31))) (y := (nI 1)) dX4_leastSum_11  ?_
  obtain ⟨q1, h⟩ := gd_some h
  refine cs_lda (s := s) (q := (b + 166)) (i := (((nI 1) <<< ((s.1 (b + 131) 7) &&& 31)) - (nI 1))) dX4_leastSum_12 (hB.ar 166 (by decide) rfl) q1 ?_
  refine jg_istore_n (L' := [some (.ref (b + 131)), some (.int (cg s (b + 166) (((nI 1) <<< ((s.1 (b + 131) 7) &&& 31)) - (nI 1))))]) dX4_leastSum_13 (by decide) rfl ?_
  refine jg_iload_n dX4_leastSum_14 rfl ?_
  refine jg_ldc kk_X4_65 dX4_leastSum_15 ?_
  rw [show (1000000 : Int32) = nI 1000000 from rfl]
  refine jg_icmp_lt (x := (cg s (b + 166) (((nI 1) <<< ((s.1 (b + 131) 7) &&& 31)) - (nI 1)))) (y := (nI 1000000)) (tgt := 24) dX4_leastSum_17 (by decide) (fun c2 => ?_) (fun c2 => ?_)
  · replace h := it_t c2 h
    refine jg_iload_n dX4_leastSum_24 rfl ?_
    obtain rfl := Option.some.inj h
    exact jg_ireturn dX4_leastSum_25 rfl ⟨rfl, rfl⟩
  · replace h := it_f c2 h
    refine jg_iconst (v := (-1)) dX4_leastSum_20 (by decide) ?_
    refine jg_goto (tgt := 25) dX4_leastSum_21 (by decide) ?_
    obtain rfl := Option.some.inj h
    exact jg_ireturn dX4_leastSum_25 rfl ⟨rfl, rfl⟩
theorem dX8_copyFrom_0 : decode cX8_copyFrom 0 = .ok (.aload_n 1, 1) := by decide +kernel
theorem dX8_copyFrom_1 : decode cX8_copyFrom 1 = .ok (.getfield 9, 3) := by decide +kernel
theorem dX8_copyFrom_4 : decode cX8_copyFrom 4 = .ok (.aload_n 0, 1) := by decide +kernel
theorem dX8_copyFrom_5 : decode cX8_copyFrom 5 = .ok (.getfield 9, 3) := by decide +kernel
theorem dX8_copyFrom_8 : decode cX8_copyFrom 8 = .ok (.invokestatic 45, 3) := by decide +kernel
theorem dX8_copyFrom_11 : decode cX8_copyFrom 11 = .ok (.aload_n 1, 1) := by decide +kernel
theorem dX8_copyFrom_12 : decode cX8_copyFrom 12 = .ok (.getfield 15, 3) := by decide +kernel
theorem dX8_copyFrom_15 : decode cX8_copyFrom 15 = .ok (.aload_n 0, 1) := by decide +kernel
theorem dX8_copyFrom_16 : decode cX8_copyFrom 16 = .ok (.getfield 15, 3) := by decide +kernel
theorem dX8_copyFrom_19 : decode cX8_copyFrom 19 = .ok (.invokestatic 45, 3) := by decide +kernel
theorem dX8_copyFrom_22 : decode cX8_copyFrom 22 = .ok (.aload_n 1, 1) := by decide +kernel
theorem dX8_copyFrom_23 : decode cX8_copyFrom 23 = .ok (.getfield 18, 3) := by decide +kernel
theorem dX8_copyFrom_26 : decode cX8_copyFrom 26 = .ok (.aload_n 0, 1) := by decide +kernel
theorem dX8_copyFrom_27 : decode cX8_copyFrom 27 = .ok (.getfield 18, 3) := by decide +kernel
theorem dX8_copyFrom_30 : decode cX8_copyFrom 30 = .ok (.invokestatic 45, 3) := by decide +kernel
theorem dX8_copyFrom_33 : decode cX8_copyFrom 33 = .ok (.aload_n 1, 1) := by decide +kernel
theorem dX8_copyFrom_34 : decode cX8_copyFrom 34 = .ok (.getfield 21, 3) := by decide +kernel
theorem dX8_copyFrom_37 : decode cX8_copyFrom 37 = .ok (.aload_n 0, 1) := by decide +kernel
theorem dX8_copyFrom_38 : decode cX8_copyFrom 38 = .ok (.getfield 21, 3) := by decide +kernel
theorem dX8_copyFrom_41 : decode cX8_copyFrom 41 = .ok (.invokestatic 45, 3) := by decide +kernel
theorem dX8_copyFrom_44 : decode cX8_copyFrom 44 = .ok (.aload_n 1, 1) := by decide +kernel
theorem dX8_copyFrom_45 : decode cX8_copyFrom 45 = .ok (.getfield 24, 3) := by decide +kernel
theorem dX8_copyFrom_48 : decode cX8_copyFrom 48 = .ok (.aload_n 0, 1) := by decide +kernel
theorem dX8_copyFrom_49 : decode cX8_copyFrom 49 = .ok (.getfield 24, 3) := by decide +kernel
theorem dX8_copyFrom_52 : decode cX8_copyFrom 52 = .ok (.invokestatic 45, 3) := by decide +kernel
theorem dX8_copyFrom_55 : decode cX8_copyFrom 55 = .ok (.aload_n 1, 1) := by decide +kernel
theorem dX8_copyFrom_56 : decode cX8_copyFrom 56 = .ok (.getfield 27, 3) := by decide +kernel
theorem dX8_copyFrom_59 : decode cX8_copyFrom 59 = .ok (.aload_n 0, 1) := by decide +kernel
theorem dX8_copyFrom_60 : decode cX8_copyFrom 60 = .ok (.getfield 27, 3) := by decide +kernel
theorem dX8_copyFrom_63 : decode cX8_copyFrom 63 = .ok (.invokestatic 45, 3) := by decide +kernel
theorem dX8_copyFrom_66 : decode cX8_copyFrom 66 = .ok (.aload_n 0, 1) := by decide +kernel
theorem dX8_copyFrom_67 : decode cX8_copyFrom 67 = .ok (.aload_n 1, 1) := by decide +kernel
theorem dX8_copyFrom_68 : decode cX8_copyFrom 68 = .ok (.getfield 49, 3) := by decide +kernel
theorem dX8_copyFrom_71 : decode cX8_copyFrom 71 = .ok (.putfield 49, 3) := by decide +kernel
theorem dX8_copyFrom_74 : decode cX8_copyFrom 74 = .ok (.aload_n 1, 1) := by decide +kernel
theorem dX8_copyFrom_75 : decode cX8_copyFrom 75 = .ok (.getfield 30, 3) := by decide +kernel
theorem dX8_copyFrom_78 : decode cX8_copyFrom 78 = .ok (.aload_n 0, 1) := by decide +kernel
theorem dX8_copyFrom_79 : decode cX8_copyFrom 79 = .ok (.getfield 30, 3) := by decide +kernel
theorem dX8_copyFrom_82 : decode cX8_copyFrom 82 = .ok (.invokestatic 45, 3) := by decide +kernel
theorem dX8_copyFrom_85 : decode cX8_copyFrom 85 = .ok (.aload_n 1, 1) := by decide +kernel
theorem dX8_copyFrom_86 : decode cX8_copyFrom 86 = .ok (.getfield 33, 3) := by decide +kernel
theorem dX8_copyFrom_89 : decode cX8_copyFrom 89 = .ok (.aload_n 0, 1) := by decide +kernel
theorem dX8_copyFrom_90 : decode cX8_copyFrom 90 = .ok (.getfield 33, 3) := by decide +kernel
theorem dX8_copyFrom_93 : decode cX8_copyFrom 93 = .ok (.invokestatic 45, 3) := by decide +kernel
theorem dX8_copyFrom_96 : decode cX8_copyFrom 96 = .ok (.aload_n 1, 1) := by decide +kernel
theorem dX8_copyFrom_97 : decode cX8_copyFrom 97 = .ok (.getfield 36, 3) := by decide +kernel
theorem dX8_copyFrom_100 : decode cX8_copyFrom 100 = .ok (.aload_n 0, 1) := by decide +kernel
theorem dX8_copyFrom_101 : decode cX8_copyFrom 101 = .ok (.getfield 36, 3) := by decide +kernel
theorem dX8_copyFrom_104 : decode cX8_copyFrom 104 = .ok (.invokestatic 45, 3) := by decide +kernel
theorem dX8_copyFrom_107 : decode cX8_copyFrom 107 = .ok (.aload_n 0, 1) := by decide +kernel
theorem dX8_copyFrom_108 : decode cX8_copyFrom 108 = .ok (.aload_n 1, 1) := by decide +kernel
theorem dX8_copyFrom_109 : decode cX8_copyFrom 109 = .ok (.getfield 53, 3) := by decide +kernel
theorem dX8_copyFrom_112 : decode cX8_copyFrom 112 = .ok (.putfield 53, 3) := by decide +kernel
theorem dX8_copyFrom_115 : decode cX8_copyFrom 115 = .ok (.aload_n 0, 1) := by decide +kernel
theorem dX8_copyFrom_116 : decode cX8_copyFrom 116 = .ok (.aload_n 1, 1) := by decide +kernel
theorem dX8_copyFrom_117 : decode cX8_copyFrom 117 = .ok (.getfield 56, 3) := by decide +kernel
theorem dX8_copyFrom_120 : decode cX8_copyFrom 120 = .ok (.putfield 56, 3) := by decide +kernel
theorem dX8_copyFrom_123 : decode cX8_copyFrom 123 = .ok (.aload_n 0, 1) := by decide +kernel
theorem dX8_copyFrom_124 : decode cX8_copyFrom 124 = .ok (.aload_n 1, 1) := by decide +kernel
theorem dX8_copyFrom_125 : decode cX8_copyFrom 125 = .ok (.getfield 59, 3) := by decide +kernel
theorem dX8_copyFrom_128 : decode cX8_copyFrom 128 = .ok (.putfield 59, 3) := by decide +kernel
theorem dX8_copyFrom_131 : decode cX8_copyFrom 131 = .ok (.aload_n 0, 1) := by decide +kernel
theorem dX8_copyFrom_132 : decode cX8_copyFrom 132 = .ok (.aload_n 1, 1) := by decide +kernel
theorem dX8_copyFrom_133 : decode cX8_copyFrom 133 = .ok (.getfield 62, 3) := by decide +kernel
theorem dX8_copyFrom_136 : decode cX8_copyFrom 136 = .ok (.putfield 62, 3) := by decide +kernel
theorem dX8_copyFrom_139 : decode cX8_copyFrom 139 = .ok (.return_, 1) := by decide +kernel
noncomputable def o_X8_copyFrom (τ : cT) (n : Nat) (b : Nat) (a1 : Nat) (s : cS) : Option (cS) := (some (cc (cc (cc s (a1 + 2) (b + 2) 24) (a1 + 3) (b + 3) 24) (a1 + 4) (b + 4) 24)).bind fun x1 => ((some (cc (cc (cc x1 (a1 + 5) (b + 5) 25) (a1 + 6) (b + 6) 40) (a1 + 7) (b + 7) 40)).bind fun x2 => ((some (cc (cc (cp x2 (b + 1) 6 (x2.1 (a1 + 1) 6)) (a1 + 8) (b + 8) 6) (a1 + 9) (b + 9) 6)).bind fun x3 => ((some (cp (cc x3 (a1 + 10) (b + 10) 6) (b + 1) 10 ((cc x3 (a1 + 10) (b + 10) 6).1 (a1 + 1) 10))).bind fun x4 => ((some (cp (cp x4 (b + 1) 11 (x4.1 (a1 + 1) 11)) (b + 1) 12 ((cp x4 (b + 1) 11 (x4.1 (a1 + 1) 11)).1 (a1 + 1) 12))).bind fun x5 => (some (cp x5 (b + 1) 13 (x5.1 (a1 + 1) 13)))))))
set_option maxHeartbeats 4000000 in
theorem t_X8_copyFrom {Γ : jg_G} {g : Nat → jg_C} (τ : cT) (n : Nat) (b : Nat) (a1 : Nat) (s : cS) (hB : Bd τ n b) (h1 : Bd τ n a1) {x : cS} (h : o_X8_copyFrom τ n b a1 s = some x) : jc Γ mX8_copyFrom 2 0 0 [some (.ref (b + 1)), some (.ref (a1 + 1))] (ct_h g τ s, n) (.inl none) (ct_h g τ x, n) := by
  refine jc_of ?_
  rw [o_X8_copyFrom] at h
  refine jg_aload_n dX8_copyFrom_0 rfl ?_
  refine cs_get (s := s) (w := .ref (a1 + 2)) fl_X8_9 dX8_copyFrom_1 (h1.ob 1 (by decide) rfl) rfl ?_
  refine jg_aload_n dX8_copyFrom_4 rfl ?_
  refine cs_get (s := s) (w := .ref (b + 2)) fl_X8_9 dX8_copyFrom_5 (hB.ob 1 (by decide) rfl) rfl ?_
  refine cs_callN (As := [.ref (a1 + 2), .ref (b + 2)]) kw_X8_45 dX8_copyFrom_8 rfl (by decide) (Nat.le_of_ble_eq_true rfl) rfl (by decide) (Nat.le_of_ble_eq_true rfl) (t_copyRow s (a1 + 2) (b + 2) 24 (by decide) (h1.ar 2 (by decide) rfl) (hB.ar 2 (by decide) rfl)) ?_
  refine jg_aload_n dX8_copyFrom_11 rfl ?_
  refine cs_get (s := (cc s (a1 + 2) (b + 2) 24)) (w := .ref (a1 + 3)) fl_X8_15 dX8_copyFrom_12 (h1.ob 1 (by decide) rfl) rfl ?_
  refine jg_aload_n dX8_copyFrom_15 rfl ?_
  refine cs_get (s := (cc s (a1 + 2) (b + 2) 24)) (w := .ref (b + 3)) fl_X8_15 dX8_copyFrom_16 (hB.ob 1 (by decide) rfl) rfl ?_
  refine cs_callN (As := [.ref (a1 + 3), .ref (b + 3)]) kw_X8_45 dX8_copyFrom_19 rfl (by decide) (Nat.le_of_ble_eq_true rfl) rfl (by decide) (Nat.le_of_ble_eq_true rfl) (t_copyRow (cc s (a1 + 2) (b + 2) 24) (a1 + 3) (b + 3) 24 (by decide) (h1.ar 3 (by decide) rfl) (hB.ar 3 (by decide) rfl)) ?_
  refine jg_aload_n dX8_copyFrom_22 rfl ?_
  refine cs_get (s := (cc (cc s (a1 + 2) (b + 2) 24) (a1 + 3) (b + 3) 24)) (w := .ref (a1 + 4)) fl_X8_18 dX8_copyFrom_23 (h1.ob 1 (by decide) rfl) rfl ?_
  refine jg_aload_n dX8_copyFrom_26 rfl ?_
  refine cs_get (s := (cc (cc s (a1 + 2) (b + 2) 24) (a1 + 3) (b + 3) 24)) (w := .ref (b + 4)) fl_X8_18 dX8_copyFrom_27 (hB.ob 1 (by decide) rfl) rfl ?_
  refine cs_callN (As := [.ref (a1 + 4), .ref (b + 4)]) kw_X8_45 dX8_copyFrom_30 rfl (by decide) (Nat.le_of_ble_eq_true rfl) rfl (by decide) (Nat.le_of_ble_eq_true rfl) (t_copyRow (cc (cc s (a1 + 2) (b + 2) 24) (a1 + 3) (b + 3) 24) (a1 + 4) (b + 4) 24 (by decide) (h1.ar 4 (by decide) rfl) (hB.ar 4 (by decide) rfl)) ?_
  obtain ⟨x1, e_x1, h⟩ := bd_some h
  refine cs_sub (Option.some.inj e_x1) ?_
  refine jg_aload_n dX8_copyFrom_33 rfl ?_
  refine cs_get (s := x1) (w := .ref (a1 + 5)) fl_X8_21 dX8_copyFrom_34 (h1.ob 1 (by decide) rfl) rfl ?_
  refine jg_aload_n dX8_copyFrom_37 rfl ?_
  refine cs_get (s := x1) (w := .ref (b + 5)) fl_X8_21 dX8_copyFrom_38 (hB.ob 1 (by decide) rfl) rfl ?_
  refine cs_callN (As := [.ref (a1 + 5), .ref (b + 5)]) kw_X8_45 dX8_copyFrom_41 rfl (by decide) (Nat.le_of_ble_eq_true rfl) rfl (by decide) (Nat.le_of_ble_eq_true rfl) (t_copyRow x1 (a1 + 5) (b + 5) 25 (by decide) (h1.ar 5 (by decide) rfl) (hB.ar 5 (by decide) rfl)) ?_
  refine jg_aload_n dX8_copyFrom_44 rfl ?_
  refine cs_get (s := (cc x1 (a1 + 5) (b + 5) 25)) (w := .ref (a1 + 6)) fl_X8_24 dX8_copyFrom_45 (h1.ob 1 (by decide) rfl) rfl ?_
  refine jg_aload_n dX8_copyFrom_48 rfl ?_
  refine cs_get (s := (cc x1 (a1 + 5) (b + 5) 25)) (w := .ref (b + 6)) fl_X8_24 dX8_copyFrom_49 (hB.ob 1 (by decide) rfl) rfl ?_
  refine cs_callN (As := [.ref (a1 + 6), .ref (b + 6)]) kw_X8_45 dX8_copyFrom_52 rfl (by decide) (Nat.le_of_ble_eq_true rfl) rfl (by decide) (Nat.le_of_ble_eq_true rfl) (t_copyRow (cc x1 (a1 + 5) (b + 5) 25) (a1 + 6) (b + 6) 40 (by decide) (h1.ar 6 (by decide) rfl) (hB.ar 6 (by decide) rfl)) ?_
  refine jg_aload_n dX8_copyFrom_55 rfl ?_
  refine cs_get (s := (cc (cc x1 (a1 + 5) (b + 5) 25) (a1 + 6) (b + 6) 40)) (w := .ref (a1 + 7)) fl_X8_27 dX8_copyFrom_56 (h1.ob 1 (by decide) rfl) rfl ?_
  refine jg_aload_n dX8_copyFrom_59 rfl ?_
  refine cs_get (s := (cc (cc x1 (a1 + 5) (b + 5) 25) (a1 + 6) (b + 6) 40)) (w := .ref (b + 7)) fl_X8_27 dX8_copyFrom_60 (hB.ob 1 (by decide) rfl) rfl ?_
  refine cs_callN (As := [.ref (a1 + 7), .ref (b + 7)]) kw_X8_45 dX8_copyFrom_63 rfl (by decide) (Nat.le_of_ble_eq_true rfl) rfl (by decide) (Nat.le_of_ble_eq_true rfl) (t_copyRow (cc (cc x1 (a1 + 5) (b + 5) 25) (a1 + 6) (b + 6) 40) (a1 + 7) (b + 7) 40 (by decide) (h1.ar 7 (by decide) rfl) (hB.ar 7 (by decide) rfl)) ?_
  obtain ⟨x2, e_x2, h⟩ := bd_some h
  refine cs_sub (Option.some.inj e_x2) ?_
  refine jg_aload_n dX8_copyFrom_66 rfl ?_
  refine jg_aload_n dX8_copyFrom_67 rfl ?_
  refine cs_get (s := x2) (w := .int (x2.1 (a1 + 1) 6)) fl_X8_49 dX8_copyFrom_68 (h1.ob 1 (by decide) rfl) rfl ?_
  refine cs_put (s := x2) (k := 6) (x := (x2.1 (a1 + 1) 6)) fl_X8_49 dX8_copyFrom_71 (hB.ob 1 (by decide) rfl) (ltb rfl) (rfl) rfl rfl ?_
  refine jg_aload_n dX8_copyFrom_74 rfl ?_
  refine cs_get (s := (cp x2 (b + 1) 6 (x2.1 (a1 + 1) 6))) (w := .ref (a1 + 8)) fl_X8_30 dX8_copyFrom_75 (h1.ob 1 (by decide) rfl) rfl ?_
  refine jg_aload_n dX8_copyFrom_78 rfl ?_
  refine cs_get (s := (cp x2 (b + 1) 6 (x2.1 (a1 + 1) 6))) (w := .ref (b + 8)) fl_X8_30 dX8_copyFrom_79 (hB.ob 1 (by decide) rfl) rfl ?_
  refine cs_callN (As := [.ref (a1 + 8), .ref (b + 8)]) kw_X8_45 dX8_copyFrom_82 rfl (by decide) (Nat.le_of_ble_eq_true rfl) rfl (by decide) (Nat.le_of_ble_eq_true rfl) (t_copyRow (cp x2 (b + 1) 6 (x2.1 (a1 + 1) 6)) (a1 + 8) (b + 8) 6 (by decide) (h1.ar 8 (by decide) rfl) (hB.ar 8 (by decide) rfl)) ?_
  refine jg_aload_n dX8_copyFrom_85 rfl ?_
  refine cs_get (s := (cc (cp x2 (b + 1) 6 (x2.1 (a1 + 1) 6)) (a1 + 8) (b + 8) 6)) (w := .ref (a1 + 9)) fl_X8_33 dX8_copyFrom_86 (h1.ob 1 (by decide) rfl) rfl ?_
  refine jg_aload_n dX8_copyFrom_89 rfl ?_
  refine cs_get (s := (cc (cp x2 (b + 1) 6 (x2.1 (a1 + 1) 6)) (a1 + 8) (b + 8) 6)) (w := .ref (b + 9)) fl_X8_33 dX8_copyFrom_90 (hB.ob 1 (by decide) rfl) rfl ?_
  refine cs_callN (As := [.ref (a1 + 9), .ref (b + 9)]) kw_X8_45 dX8_copyFrom_93 rfl (by decide) (Nat.le_of_ble_eq_true rfl) rfl (by decide) (Nat.le_of_ble_eq_true rfl) (t_copyRow (cc (cp x2 (b + 1) 6 (x2.1 (a1 + 1) 6)) (a1 + 8) (b + 8) 6) (a1 + 9) (b + 9) 6 (by decide) (h1.ar 9 (by decide) rfl) (hB.ar 9 (by decide) rfl)) ?_
  obtain ⟨x3, e_x3, h⟩ := bd_some h
  refine cs_sub (Option.some.inj e_x3) ?_
  refine jg_aload_n dX8_copyFrom_96 rfl ?_
  refine cs_get (s := x3) (w := .ref (a1 + 10)) fl_X8_36 dX8_copyFrom_97 (h1.ob 1 (by decide) rfl) rfl ?_
  refine jg_aload_n dX8_copyFrom_100 rfl ?_
  refine cs_get (s := x3) (w := .ref (b + 10)) fl_X8_36 dX8_copyFrom_101 (hB.ob 1 (by decide) rfl) rfl ?_
  refine cs_callN (As := [.ref (a1 + 10), .ref (b + 10)]) kw_X8_45 dX8_copyFrom_104 rfl (by decide) (Nat.le_of_ble_eq_true rfl) rfl (by decide) (Nat.le_of_ble_eq_true rfl) (t_copyRow x3 (a1 + 10) (b + 10) 6 (by decide) (h1.ar 10 (by decide) rfl) (hB.ar 10 (by decide) rfl)) ?_
  refine jg_aload_n dX8_copyFrom_107 rfl ?_
  refine jg_aload_n dX8_copyFrom_108 rfl ?_
  refine cs_get (s := (cc x3 (a1 + 10) (b + 10) 6)) (w := .int ((cc x3 (a1 + 10) (b + 10) 6).1 (a1 + 1) 10)) fl_X8_53 dX8_copyFrom_109 (h1.ob 1 (by decide) rfl) rfl ?_
  refine cs_put (s := (cc x3 (a1 + 10) (b + 10) 6)) (k := 10) (x := ((cc x3 (a1 + 10) (b + 10) 6).1 (a1 + 1) 10)) fl_X8_53 dX8_copyFrom_112 (hB.ob 1 (by decide) rfl) (ltb rfl) (rfl) rfl rfl ?_
  obtain ⟨x4, e_x4, h⟩ := bd_some h
  refine cs_sub (Option.some.inj e_x4) ?_
  refine jg_aload_n dX8_copyFrom_115 rfl ?_
  refine jg_aload_n dX8_copyFrom_116 rfl ?_
  refine cs_get (s := x4) (w := .int (x4.1 (a1 + 1) 11)) fl_X8_56 dX8_copyFrom_117 (h1.ob 1 (by decide) rfl) rfl ?_
  refine cs_put (s := x4) (k := 11) (x := (x4.1 (a1 + 1) 11)) fl_X8_56 dX8_copyFrom_120 (hB.ob 1 (by decide) rfl) (ltb rfl) (rfl) rfl rfl ?_
  refine jg_aload_n dX8_copyFrom_123 rfl ?_
  refine jg_aload_n dX8_copyFrom_124 rfl ?_
  refine cs_get (s := (cp x4 (b + 1) 11 (x4.1 (a1 + 1) 11))) (w := .int ((cp x4 (b + 1) 11 (x4.1 (a1 + 1) 11)).1 (a1 + 1) 12)) fl_X8_59 dX8_copyFrom_125 (h1.ob 1 (by decide) rfl) rfl ?_
  refine cs_put (s := (cp x4 (b + 1) 11 (x4.1 (a1 + 1) 11))) (k := 12) (x := ((cp x4 (b + 1) 11 (x4.1 (a1 + 1) 11)).1 (a1 + 1) 12)) fl_X8_59 dX8_copyFrom_128 (hB.ob 1 (by decide) rfl) (ltb rfl) (rfl) rfl rfl ?_
  obtain ⟨x5, e_x5, h⟩ := bd_some h
  refine cs_sub (Option.some.inj e_x5) ?_
  refine jg_aload_n dX8_copyFrom_131 rfl ?_
  refine jg_aload_n dX8_copyFrom_132 rfl ?_
  refine cs_get (s := x5) (w := .int (x5.1 (a1 + 1) 13)) fl_X8_62 dX8_copyFrom_133 (h1.ob 1 (by decide) rfl) rfl ?_
  refine cs_put (s := x5) (k := 13) (x := (x5.1 (a1 + 1) 13)) fl_X8_62 dX8_copyFrom_136 (hB.ob 1 (by decide) rfl) (ltb rfl) (rfl) rfl rfl ?_
  obtain rfl := Option.some.inj h
  exact jg_return dX8_copyFrom_139 rfl ⟨rfl, rfl⟩
theorem dX10_copyFrom_0 : decode cX10_copyFrom 0 = .ok (.aload_n 1, 1) := by decide +kernel
theorem dX10_copyFrom_1 : decode cX10_copyFrom 1 = .ok (.getfield 9, 3) := by decide +kernel
theorem dX10_copyFrom_4 : decode cX10_copyFrom 4 = .ok (.aload_n 0, 1) := by decide +kernel
theorem dX10_copyFrom_5 : decode cX10_copyFrom 5 = .ok (.getfield 9, 3) := by decide +kernel
theorem dX10_copyFrom_8 : decode cX10_copyFrom 8 = .ok (.invokestatic 33, 3) := by decide +kernel
theorem dX10_copyFrom_11 : decode cX10_copyFrom 11 = .ok (.aload_n 1, 1) := by decide +kernel
theorem dX10_copyFrom_12 : decode cX10_copyFrom 12 = .ok (.getfield 15, 3) := by decide +kernel
theorem dX10_copyFrom_15 : decode cX10_copyFrom 15 = .ok (.aload_n 0, 1) := by decide +kernel
theorem dX10_copyFrom_16 : decode cX10_copyFrom 16 = .ok (.getfield 15, 3) := by decide +kernel
theorem dX10_copyFrom_19 : decode cX10_copyFrom 19 = .ok (.invokestatic 33, 3) := by decide +kernel
theorem dX10_copyFrom_22 : decode cX10_copyFrom 22 = .ok (.aload_n 1, 1) := by decide +kernel
theorem dX10_copyFrom_23 : decode cX10_copyFrom 23 = .ok (.getfield 18, 3) := by decide +kernel
theorem dX10_copyFrom_26 : decode cX10_copyFrom 26 = .ok (.aload_n 0, 1) := by decide +kernel
theorem dX10_copyFrom_27 : decode cX10_copyFrom 27 = .ok (.getfield 18, 3) := by decide +kernel
theorem dX10_copyFrom_30 : decode cX10_copyFrom 30 = .ok (.invokestatic 33, 3) := by decide +kernel
theorem dX10_copyFrom_33 : decode cX10_copyFrom 33 = .ok (.aload_n 1, 1) := by decide +kernel
theorem dX10_copyFrom_34 : decode cX10_copyFrom 34 = .ok (.getfield 21, 3) := by decide +kernel
theorem dX10_copyFrom_37 : decode cX10_copyFrom 37 = .ok (.aload_n 0, 1) := by decide +kernel
theorem dX10_copyFrom_38 : decode cX10_copyFrom 38 = .ok (.getfield 21, 3) := by decide +kernel
theorem dX10_copyFrom_41 : decode cX10_copyFrom 41 = .ok (.invokestatic 33, 3) := by decide +kernel
theorem dX10_copyFrom_44 : decode cX10_copyFrom 44 = .ok (.aload_n 0, 1) := by decide +kernel
theorem dX10_copyFrom_45 : decode cX10_copyFrom 45 = .ok (.aload_n 1, 1) := by decide +kernel
theorem dX10_copyFrom_46 : decode cX10_copyFrom 46 = .ok (.getfield 37, 3) := by decide +kernel
theorem dX10_copyFrom_49 : decode cX10_copyFrom 49 = .ok (.putfield 37, 3) := by decide +kernel
theorem dX10_copyFrom_52 : decode cX10_copyFrom 52 = .ok (.aload_n 1, 1) := by decide +kernel
theorem dX10_copyFrom_53 : decode cX10_copyFrom 53 = .ok (.getfield 24, 3) := by decide +kernel
theorem dX10_copyFrom_56 : decode cX10_copyFrom 56 = .ok (.aload_n 0, 1) := by decide +kernel
theorem dX10_copyFrom_57 : decode cX10_copyFrom 57 = .ok (.getfield 24, 3) := by decide +kernel
theorem dX10_copyFrom_60 : decode cX10_copyFrom 60 = .ok (.invokestatic 33, 3) := by decide +kernel
theorem dX10_copyFrom_63 : decode cX10_copyFrom 63 = .ok (.return_, 1) := by decide +kernel
noncomputable def o_X10_copyFrom (τ : cT) (n : Nat) (b : Nat) (a1 : Nat) (s : cS) : Option (cS) := (some (cc (cc (cc s (a1 + 12) (b + 12) 200) (a1 + 13) (b + 13) 200) (a1 + 14) (b + 14) 200)).bind fun x1 => ((some (cp (cc x1 (a1 + 15) (b + 15) 200) (b + 11) 4 ((cc x1 (a1 + 15) (b + 15) 200).1 (a1 + 11) 4))).bind fun x2 => (some (cc x2 (a1 + 16) (b + 16) 24)))
set_option maxHeartbeats 4000000 in
theorem t_X10_copyFrom {Γ : jg_G} {g : Nat → jg_C} (τ : cT) (n : Nat) (b : Nat) (a1 : Nat) (s : cS) (hB : Bd τ n b) (h1 : Bd τ n a1) {x : cS} (h : o_X10_copyFrom τ n b a1 s = some x) : jc Γ mX10_copyFrom 2 0 0 [some (.ref (b + 11)), some (.ref (a1 + 11))] (ct_h g τ s, n) (.inl none) (ct_h g τ x, n) := by
  refine jc_of ?_
  rw [o_X10_copyFrom] at h
  refine jg_aload_n dX10_copyFrom_0 rfl ?_
  refine cs_get (s := s) (w := .ref (a1 + 12)) fl_X10_9 dX10_copyFrom_1 (h1.ob 11 (by decide) rfl) rfl ?_
  refine jg_aload_n dX10_copyFrom_4 rfl ?_
  refine cs_get (s := s) (w := .ref (b + 12)) fl_X10_9 dX10_copyFrom_5 (hB.ob 11 (by decide) rfl) rfl ?_
  refine cs_callN (As := [.ref (a1 + 12), .ref (b + 12)]) kw_X10_33 dX10_copyFrom_8 rfl (by decide) (Nat.le_of_ble_eq_true rfl) rfl (by decide) (Nat.le_of_ble_eq_true rfl) (t_copyRow s (a1 + 12) (b + 12) 200 (by decide) (h1.ar 12 (by decide) rfl) (hB.ar 12 (by decide) rfl)) ?_
  refine jg_aload_n dX10_copyFrom_11 rfl ?_
  refine cs_get (s := (cc s (a1 + 12) (b + 12) 200)) (w := .ref (a1 + 13)) fl_X10_15 dX10_copyFrom_12 (h1.ob 11 (by decide) rfl) rfl ?_
  refine jg_aload_n dX10_copyFrom_15 rfl ?_
  refine cs_get (s := (cc s (a1 + 12) (b + 12) 200)) (w := .ref (b + 13)) fl_X10_15 dX10_copyFrom_16 (hB.ob 11 (by decide) rfl) rfl ?_
  refine cs_callN (As := [.ref (a1 + 13), .ref (b + 13)]) kw_X10_33 dX10_copyFrom_19 rfl (by decide) (Nat.le_of_ble_eq_true rfl) rfl (by decide) (Nat.le_of_ble_eq_true rfl) (t_copyRow (cc s (a1 + 12) (b + 12) 200) (a1 + 13) (b + 13) 200 (by decide) (h1.ar 13 (by decide) rfl) (hB.ar 13 (by decide) rfl)) ?_
  refine jg_aload_n dX10_copyFrom_22 rfl ?_
  refine cs_get (s := (cc (cc s (a1 + 12) (b + 12) 200) (a1 + 13) (b + 13) 200)) (w := .ref (a1 + 14)) fl_X10_18 dX10_copyFrom_23 (h1.ob 11 (by decide) rfl) rfl ?_
  refine jg_aload_n dX10_copyFrom_26 rfl ?_
  refine cs_get (s := (cc (cc s (a1 + 12) (b + 12) 200) (a1 + 13) (b + 13) 200)) (w := .ref (b + 14)) fl_X10_18 dX10_copyFrom_27 (hB.ob 11 (by decide) rfl) rfl ?_
  refine cs_callN (As := [.ref (a1 + 14), .ref (b + 14)]) kw_X10_33 dX10_copyFrom_30 rfl (by decide) (Nat.le_of_ble_eq_true rfl) rfl (by decide) (Nat.le_of_ble_eq_true rfl) (t_copyRow (cc (cc s (a1 + 12) (b + 12) 200) (a1 + 13) (b + 13) 200) (a1 + 14) (b + 14) 200 (by decide) (h1.ar 14 (by decide) rfl) (hB.ar 14 (by decide) rfl)) ?_
  obtain ⟨x1, e_x1, h⟩ := bd_some h
  refine cs_sub (Option.some.inj e_x1) ?_
  refine jg_aload_n dX10_copyFrom_33 rfl ?_
  refine cs_get (s := x1) (w := .ref (a1 + 15)) fl_X10_21 dX10_copyFrom_34 (h1.ob 11 (by decide) rfl) rfl ?_
  refine jg_aload_n dX10_copyFrom_37 rfl ?_
  refine cs_get (s := x1) (w := .ref (b + 15)) fl_X10_21 dX10_copyFrom_38 (hB.ob 11 (by decide) rfl) rfl ?_
  refine cs_callN (As := [.ref (a1 + 15), .ref (b + 15)]) kw_X10_33 dX10_copyFrom_41 rfl (by decide) (Nat.le_of_ble_eq_true rfl) rfl (by decide) (Nat.le_of_ble_eq_true rfl) (t_copyRow x1 (a1 + 15) (b + 15) 200 (by decide) (h1.ar 15 (by decide) rfl) (hB.ar 15 (by decide) rfl)) ?_
  refine jg_aload_n dX10_copyFrom_44 rfl ?_
  refine jg_aload_n dX10_copyFrom_45 rfl ?_
  refine cs_get (s := (cc x1 (a1 + 15) (b + 15) 200)) (w := .int ((cc x1 (a1 + 15) (b + 15) 200).1 (a1 + 11) 4)) fl_X10_37 dX10_copyFrom_46 (h1.ob 11 (by decide) rfl) rfl ?_
  refine cs_put (s := (cc x1 (a1 + 15) (b + 15) 200)) (k := 4) (x := ((cc x1 (a1 + 15) (b + 15) 200).1 (a1 + 11) 4)) fl_X10_37 dX10_copyFrom_49 (hB.ob 11 (by decide) rfl) (ltb rfl) (rfl) rfl rfl ?_
  obtain ⟨x2, e_x2, h⟩ := bd_some h
  refine cs_sub (Option.some.inj e_x2) ?_
  refine jg_aload_n dX10_copyFrom_52 rfl ?_
  refine cs_get (s := x2) (w := .ref (a1 + 16)) fl_X10_24 dX10_copyFrom_53 (h1.ob 11 (by decide) rfl) rfl ?_
  refine jg_aload_n dX10_copyFrom_56 rfl ?_
  refine cs_get (s := x2) (w := .ref (b + 16)) fl_X10_24 dX10_copyFrom_57 (hB.ob 11 (by decide) rfl) rfl ?_
  refine cs_callN (As := [.ref (a1 + 16), .ref (b + 16)]) kw_X10_33 dX10_copyFrom_60 rfl (by decide) (Nat.le_of_ble_eq_true rfl) rfl (by decide) (Nat.le_of_ble_eq_true rfl) (t_copyRow x2 (a1 + 16) (b + 16) 24 (by decide) (h1.ar 16 (by decide) rfl) (hB.ar 16 (by decide) rfl)) ?_
  obtain rfl := Option.some.inj h
  exact jg_return dX10_copyFrom_63 rfl ⟨rfl, rfl⟩
theorem dX1_copyFrom_0 : decode cX1_copyFrom 0 = .ok (.aload_n 0, 1) := by decide +kernel
theorem dX1_copyFrom_1 : decode cX1_copyFrom 1 = .ok (.aload_n 1, 1) := by decide +kernel
theorem dX1_copyFrom_2 : decode cX1_copyFrom 2 = .ok (.getfield 9, 3) := by decide +kernel
theorem dX1_copyFrom_5 : decode cX1_copyFrom 5 = .ok (.putfield 9, 3) := by decide +kernel
theorem dX1_copyFrom_8 : decode cX1_copyFrom 8 = .ok (.aload_n 0, 1) := by decide +kernel
theorem dX1_copyFrom_9 : decode cX1_copyFrom 9 = .ok (.aload_n 1, 1) := by decide +kernel
theorem dX1_copyFrom_10 : decode cX1_copyFrom 10 = .ok (.getfield 15, 3) := by decide +kernel
theorem dX1_copyFrom_13 : decode cX1_copyFrom 13 = .ok (.putfield 15, 3) := by decide +kernel
theorem dX1_copyFrom_16 : decode cX1_copyFrom 16 = .ok (.aload_n 0, 1) := by decide +kernel
theorem dX1_copyFrom_17 : decode cX1_copyFrom 17 = .ok (.aload_n 1, 1) := by decide +kernel
theorem dX1_copyFrom_18 : decode cX1_copyFrom 18 = .ok (.getfield 18, 3) := by decide +kernel
theorem dX1_copyFrom_21 : decode cX1_copyFrom 21 = .ok (.putfield 18, 3) := by decide +kernel
theorem dX1_copyFrom_24 : decode cX1_copyFrom 24 = .ok (.aload_n 0, 1) := by decide +kernel
theorem dX1_copyFrom_25 : decode cX1_copyFrom 25 = .ok (.aload_n 1, 1) := by decide +kernel
theorem dX1_copyFrom_26 : decode cX1_copyFrom 26 = .ok (.getfield 21, 3) := by decide +kernel
theorem dX1_copyFrom_29 : decode cX1_copyFrom 29 = .ok (.putfield 21, 3) := by decide +kernel
theorem dX1_copyFrom_32 : decode cX1_copyFrom 32 = .ok (.aload_n 0, 1) := by decide +kernel
theorem dX1_copyFrom_33 : decode cX1_copyFrom 33 = .ok (.aload_n 1, 1) := by decide +kernel
theorem dX1_copyFrom_34 : decode cX1_copyFrom 34 = .ok (.getfield 24, 3) := by decide +kernel
theorem dX1_copyFrom_37 : decode cX1_copyFrom 37 = .ok (.putfield 24, 3) := by decide +kernel
theorem dX1_copyFrom_40 : decode cX1_copyFrom 40 = .ok (.aload_n 0, 1) := by decide +kernel
theorem dX1_copyFrom_41 : decode cX1_copyFrom 41 = .ok (.aload_n 1, 1) := by decide +kernel
theorem dX1_copyFrom_42 : decode cX1_copyFrom 42 = .ok (.getfield 27, 3) := by decide +kernel
theorem dX1_copyFrom_45 : decode cX1_copyFrom 45 = .ok (.putfield 27, 3) := by decide +kernel
theorem dX1_copyFrom_48 : decode cX1_copyFrom 48 = .ok (.aload_n 0, 1) := by decide +kernel
theorem dX1_copyFrom_49 : decode cX1_copyFrom 49 = .ok (.aload_n 1, 1) := by decide +kernel
theorem dX1_copyFrom_50 : decode cX1_copyFrom 50 = .ok (.getfield 30, 3) := by decide +kernel
theorem dX1_copyFrom_53 : decode cX1_copyFrom 53 = .ok (.putfield 30, 3) := by decide +kernel
theorem dX1_copyFrom_56 : decode cX1_copyFrom 56 = .ok (.aload_n 0, 1) := by decide +kernel
theorem dX1_copyFrom_57 : decode cX1_copyFrom 57 = .ok (.aload_n 1, 1) := by decide +kernel
theorem dX1_copyFrom_58 : decode cX1_copyFrom 58 = .ok (.getfield 33, 3) := by decide +kernel
theorem dX1_copyFrom_61 : decode cX1_copyFrom 61 = .ok (.putfield 33, 3) := by decide +kernel
theorem dX1_copyFrom_64 : decode cX1_copyFrom 64 = .ok (.return_, 1) := by decide +kernel
noncomputable def o_X1_copyFrom (τ : cT) (n : Nat) (p : Nat) (a1 : Nat) (s : cS) : Option (cS) := (some (cp (cp (cp s p 0 (s.1 a1 0)) p 1 ((cp s p 0 (s.1 a1 0)).1 a1 1)) p 2 ((cp (cp s p 0 (s.1 a1 0)) p 1 ((cp s p 0 (s.1 a1 0)).1 a1 1)).1 a1 2))).bind fun x1 => ((some (cp (cp x1 p 3 (x1.1 a1 3)) p 4 ((cp x1 p 3 (x1.1 a1 3)).1 a1 4))).bind fun x2 => ((some (cp (cp x2 p 5 (x2.1 a1 5)) p 6 ((cp x2 p 5 (x2.1 a1 5)).1 a1 6))).bind fun x3 => (some (cp x3 p 7 (x3.1 a1 7)))))
set_option maxHeartbeats 4000000 in
theorem t_X1_copyFrom {Γ : jg_G} {g : Nat → jg_C} (τ : cT) (n : Nat) (p : Nat) (a1 : Nat) (s : cS) (hp : Ob τ n p 1) (h1 : Ob τ n a1 1) {x : cS} (h : o_X1_copyFrom τ n p a1 s = some x) : jc Γ mX1_copyFrom 0 0 0 [some (.ref p), some (.ref a1)] (ct_h g τ s, n) (.inl none) (ct_h g τ x, n) := by
  refine jc_of ?_
  rw [o_X1_copyFrom] at h
  refine jg_aload_n dX1_copyFrom_0 rfl ?_
  refine jg_aload_n dX1_copyFrom_1 rfl ?_
  refine cs_get (s := s) (w := .int (s.1 a1 0)) fl_X1_9 dX1_copyFrom_2 h1 rfl ?_
  refine cs_put (s := s) (k := 0) (x := (s.1 a1 0)) fl_X1_9 dX1_copyFrom_5 hp (ltb rfl) (rfl) rfl rfl ?_
  refine jg_aload_n dX1_copyFrom_8 rfl ?_
  refine jg_aload_n dX1_copyFrom_9 rfl ?_
  refine cs_get (s := (cp s p 0 (s.1 a1 0))) (w := .int ((cp s p 0 (s.1 a1 0)).1 a1 1)) fl_X1_15 dX1_copyFrom_10 h1 rfl ?_
  refine cs_put (s := (cp s p 0 (s.1 a1 0))) (k := 1) (x := ((cp s p 0 (s.1 a1 0)).1 a1 1)) fl_X1_15 dX1_copyFrom_13 hp (ltb rfl) (rfl) rfl rfl ?_
  refine jg_aload_n dX1_copyFrom_16 rfl ?_
  refine jg_aload_n dX1_copyFrom_17 rfl ?_
  refine cs_get (s := (cp (cp s p 0 (s.1 a1 0)) p 1 ((cp s p 0 (s.1 a1 0)).1 a1 1))) (w := .int ((cp (cp s p 0 (s.1 a1 0)) p 1 ((cp s p 0 (s.1 a1 0)).1 a1 1)).1 a1 2)) fl_X1_18 dX1_copyFrom_18 h1 rfl ?_
  refine cs_put (s := (cp (cp s p 0 (s.1 a1 0)) p 1 ((cp s p 0 (s.1 a1 0)).1 a1 1))) (k := 2) (x := ((cp (cp s p 0 (s.1 a1 0)) p 1 ((cp s p 0 (s.1 a1 0)).1 a1 1)).1 a1 2)) fl_X1_18 dX1_copyFrom_21 hp (ltb rfl) (rfl) rfl rfl ?_
  obtain ⟨x1, e_x1, h⟩ := bd_some h
  refine cs_sub (Option.some.inj e_x1) ?_
  refine jg_aload_n dX1_copyFrom_24 rfl ?_
  refine jg_aload_n dX1_copyFrom_25 rfl ?_
  refine cs_get (s := x1) (w := .int (x1.1 a1 3)) fl_X1_21 dX1_copyFrom_26 h1 rfl ?_
  refine cs_put (s := x1) (k := 3) (x := (x1.1 a1 3)) fl_X1_21 dX1_copyFrom_29 hp (ltb rfl) (rfl) rfl rfl ?_
  refine jg_aload_n dX1_copyFrom_32 rfl ?_
  refine jg_aload_n dX1_copyFrom_33 rfl ?_
  refine cs_get (s := (cp x1 p 3 (x1.1 a1 3))) (w := .int ((cp x1 p 3 (x1.1 a1 3)).1 a1 4)) fl_X1_24 dX1_copyFrom_34 h1 rfl ?_
  refine cs_put (s := (cp x1 p 3 (x1.1 a1 3))) (k := 4) (x := ((cp x1 p 3 (x1.1 a1 3)).1 a1 4)) fl_X1_24 dX1_copyFrom_37 hp (ltb rfl) (rfl) rfl rfl ?_
  obtain ⟨x2, e_x2, h⟩ := bd_some h
  refine cs_sub (Option.some.inj e_x2) ?_
  refine jg_aload_n dX1_copyFrom_40 rfl ?_
  refine jg_aload_n dX1_copyFrom_41 rfl ?_
  refine cs_get (s := x2) (w := .int (x2.1 a1 5)) fl_X1_27 dX1_copyFrom_42 h1 rfl ?_
  refine cs_put (s := x2) (k := 5) (x := (x2.1 a1 5)) fl_X1_27 dX1_copyFrom_45 hp (ltb rfl) (rfl) rfl rfl ?_
  refine jg_aload_n dX1_copyFrom_48 rfl ?_
  refine jg_aload_n dX1_copyFrom_49 rfl ?_
  refine cs_get (s := (cp x2 p 5 (x2.1 a1 5))) (w := .int ((cp x2 p 5 (x2.1 a1 5)).1 a1 6)) fl_X1_30 dX1_copyFrom_50 h1 rfl ?_
  refine cs_put (s := (cp x2 p 5 (x2.1 a1 5))) (k := 6) (x := ((cp x2 p 5 (x2.1 a1 5)).1 a1 6)) fl_X1_30 dX1_copyFrom_53 hp (ltb rfl) (rfl) rfl rfl ?_
  obtain ⟨x3, e_x3, h⟩ := bd_some h
  refine cs_sub (Option.some.inj e_x3) ?_
  refine jg_aload_n dX1_copyFrom_56 rfl ?_
  refine jg_aload_n dX1_copyFrom_57 rfl ?_
  refine cs_get (s := x3) (w := .int (x3.1 a1 7)) fl_X1_33 dX1_copyFrom_58 h1 rfl ?_
  refine cs_put (s := x3) (k := 7) (x := (x3.1 a1 7)) fl_X1_33 dX1_copyFrom_61 hp (ltb rfl) (rfl) rfl rfl ?_
  obtain rfl := Option.some.inj h
  exact jg_return dX1_copyFrom_64 rfl ⟨rfl, rfl⟩
theorem dX9_build_0 : decode cX9_build 0 = .ok (.aload_n 0, 1) := by decide +kernel
theorem dX9_build_1 : decode cX9_build 1 = .ok (.iload_n 1, 1) := by decide +kernel
theorem dX9_build_2 : decode cX9_build 2 = .ok (.putfield 15, 3) := by decide +kernel
theorem dX9_build_5 : decode cX9_build 5 = .ok (.aload_n 0, 1) := by decide +kernel
theorem dX9_build_6 : decode cX9_build 6 = .ok (.iload_n 2, 1) := by decide +kernel
theorem dX9_build_7 : decode cX9_build 7 = .ok (.putfield 19, 3) := by decide +kernel
theorem dX9_build_10 : decode cX9_build 10 = .ok (.aload_n 0, 1) := by decide +kernel
theorem dX9_build_11 : decode cX9_build 11 = .ok (.iload_n 3, 1) := by decide +kernel
theorem dX9_build_12 : decode cX9_build 12 = .ok (.putfield 22, 3) := by decide +kernel
theorem dX9_build_15 : decode cX9_build 15 = .ok (.aload_n 0, 1) := by decide +kernel
theorem dX9_build_16 : decode cX9_build 16 = .ok (.iload 4, 2) := by decide +kernel
theorem dX9_build_18 : decode cX9_build 18 = .ok (.putfield 25, 3) := by decide +kernel
theorem dX9_build_21 : decode cX9_build 21 = .ok (.return_, 1) := by decide +kernel
noncomputable def o_X9_build (τ : cT) (n : Nat) (p : Nat) (s : cS) (a1 : Int32) (a2 : Int32) (a3 : Int32) (a4 : Int32) : Option (cS) := if zb a4 then (some (cp (cp (cp (cp s p 0 a1) p 1 a2) p 2 a3) p 3 a4)) else none
set_option maxHeartbeats 4000000 in
theorem t_X9_build {Γ : jg_G} {g : Nat → jg_C} (τ : cT) (n : Nat) (p : Nat) (s : cS) (a1 : Int32) (a2 : Int32) (a3 : Int32) (a4 : Int32) (hp : Ob τ n p 9) {x : cS} (h : o_X9_build τ n p s a1 a2 a3 a4 = some x) : jc Γ mX9_build 0 0 0 [some (.ref p), some (.int a1), some (.int a2), some (.int a3), some (.int a4)] (ct_h g τ s, n) (.inl none) (ct_h g τ x, n) := by
  refine jc_of ?_
  rw [o_X9_build] at h
  refine jg_aload_n dX9_build_0 rfl ?_
  refine jg_iload_n dX9_build_1 rfl ?_
  refine cs_put (s := s) (k := 0) (x := a1) fl_X9_15 dX9_build_2 hp (ltb rfl) (rfl) rfl rfl ?_
  refine jg_aload_n dX9_build_5 rfl ?_
  refine jg_iload_n dX9_build_6 rfl ?_
  refine cs_put (s := (cp s p 0 a1)) (k := 1) (x := a2) fl_X9_19 dX9_build_7 hp (ltb rfl) (rfl) rfl rfl ?_
  refine jg_aload_n dX9_build_10 rfl ?_
  refine jg_iload_n dX9_build_11 rfl ?_
  refine cs_put (s := (cp (cp s p 0 a1) p 1 a2)) (k := 2) (x := a3) fl_X9_22 dX9_build_12 hp (ltb rfl) (rfl) rfl rfl ?_
  refine jg_aload_n dX9_build_15 rfl ?_
  refine jg_iload dX9_build_16 rfl ?_
  obtain ⟨q1, h⟩ := gd_some h
  refine cs_put (s := (cp (cp (cp s p 0 a1) p 1 a2) p 2 a3)) (k := 3) (x := a4) fl_X9_25 dX9_build_18 hp (ltb rfl) (zb_nar q1) (zb_fits q1) rfl ?_
  obtain rfl := Option.some.inj h
  exact jg_return dX9_build_21 rfl ⟨rfl, rfl⟩
theorem dX9_copyFrom_0 : decode cX9_copyFrom 0 = .ok (.aload_n 0, 1) := by decide +kernel
theorem dX9_copyFrom_1 : decode cX9_copyFrom 1 = .ok (.aload_n 1, 1) := by decide +kernel
theorem dX9_copyFrom_2 : decode cX9_copyFrom 2 = .ok (.getfield 15, 3) := by decide +kernel
theorem dX9_copyFrom_5 : decode cX9_copyFrom 5 = .ok (.aload_n 1, 1) := by decide +kernel
theorem dX9_copyFrom_6 : decode cX9_copyFrom 6 = .ok (.getfield 19, 3) := by decide +kernel
theorem dX9_copyFrom_9 : decode cX9_copyFrom 9 = .ok (.aload_n 1, 1) := by decide +kernel
theorem dX9_copyFrom_10 : decode cX9_copyFrom 10 = .ok (.getfield 22, 3) := by decide +kernel
theorem dX9_copyFrom_13 : decode cX9_copyFrom 13 = .ok (.aload_n 1, 1) := by decide +kernel
theorem dX9_copyFrom_14 : decode cX9_copyFrom 14 = .ok (.getfield 25, 3) := by decide +kernel
theorem dX9_copyFrom_17 : decode cX9_copyFrom 17 = .ok (.invokevirtual 59, 3) := by decide +kernel
theorem dX9_copyFrom_20 : decode cX9_copyFrom 20 = .ok (.aload_n 0, 1) := by decide +kernel
theorem dX9_copyFrom_21 : decode cX9_copyFrom 21 = .ok (.aload_n 1, 1) := by decide +kernel
theorem dX9_copyFrom_22 : decode cX9_copyFrom 22 = .ok (.getfield 63, 3) := by decide +kernel
theorem dX9_copyFrom_25 : decode cX9_copyFrom 25 = .ok (.putfield 63, 3) := by decide +kernel
theorem dX9_copyFrom_28 : decode cX9_copyFrom 28 = .ok (.aload_n 0, 1) := by decide +kernel
theorem dX9_copyFrom_29 : decode cX9_copyFrom 29 = .ok (.aload_n 1, 1) := by decide +kernel
theorem dX9_copyFrom_30 : decode cX9_copyFrom 30 = .ok (.getfield 66, 3) := by decide +kernel
theorem dX9_copyFrom_33 : decode cX9_copyFrom 33 = .ok (.putfield 66, 3) := by decide +kernel
theorem dX9_copyFrom_36 : decode cX9_copyFrom 36 = .ok (.aload_n 0, 1) := by decide +kernel
theorem dX9_copyFrom_37 : decode cX9_copyFrom 37 = .ok (.aload_n 1, 1) := by decide +kernel
theorem dX9_copyFrom_38 : decode cX9_copyFrom 38 = .ok (.getfield 69, 3) := by decide +kernel
theorem dX9_copyFrom_41 : decode cX9_copyFrom 41 = .ok (.putfield 69, 3) := by decide +kernel
theorem dX9_copyFrom_44 : decode cX9_copyFrom 44 = .ok (.aload_n 0, 1) := by decide +kernel
theorem dX9_copyFrom_45 : decode cX9_copyFrom 45 = .ok (.aload_n 1, 1) := by decide +kernel
theorem dX9_copyFrom_46 : decode cX9_copyFrom 46 = .ok (.getfield 72, 3) := by decide +kernel
theorem dX9_copyFrom_49 : decode cX9_copyFrom 49 = .ok (.putfield 72, 3) := by decide +kernel
theorem dX9_copyFrom_52 : decode cX9_copyFrom 52 = .ok (.aload_n 0, 1) := by decide +kernel
theorem dX9_copyFrom_53 : decode cX9_copyFrom 53 = .ok (.aload_n 1, 1) := by decide +kernel
theorem dX9_copyFrom_54 : decode cX9_copyFrom 54 = .ok (.getfield 9, 3) := by decide +kernel
theorem dX9_copyFrom_57 : decode cX9_copyFrom 57 = .ok (.putfield 9, 3) := by decide +kernel
theorem dX9_copyFrom_60 : decode cX9_copyFrom 60 = .ok (.aload_n 0, 1) := by decide +kernel
theorem dX9_copyFrom_61 : decode cX9_copyFrom 61 = .ok (.aload_n 1, 1) := by decide +kernel
theorem dX9_copyFrom_62 : decode cX9_copyFrom 62 = .ok (.getfield 29, 3) := by decide +kernel
theorem dX9_copyFrom_65 : decode cX9_copyFrom 65 = .ok (.putfield 29, 3) := by decide +kernel
theorem dX9_copyFrom_68 : decode cX9_copyFrom 68 = .ok (.aload_n 0, 1) := by decide +kernel
theorem dX9_copyFrom_69 : decode cX9_copyFrom 69 = .ok (.aload_n 1, 1) := by decide +kernel
theorem dX9_copyFrom_70 : decode cX9_copyFrom 70 = .ok (.getfield 32, 3) := by decide +kernel
theorem dX9_copyFrom_73 : decode cX9_copyFrom 73 = .ok (.putfield 32, 3) := by decide +kernel
theorem dX9_copyFrom_76 : decode cX9_copyFrom 76 = .ok (.aload_n 0, 1) := by decide +kernel
theorem dX9_copyFrom_77 : decode cX9_copyFrom 77 = .ok (.aload_n 1, 1) := by decide +kernel
theorem dX9_copyFrom_78 : decode cX9_copyFrom 78 = .ok (.getfield 35, 3) := by decide +kernel
theorem dX9_copyFrom_81 : decode cX9_copyFrom 81 = .ok (.putfield 35, 3) := by decide +kernel
theorem dX9_copyFrom_84 : decode cX9_copyFrom 84 = .ok (.aload_n 0, 1) := by decide +kernel
theorem dX9_copyFrom_85 : decode cX9_copyFrom 85 = .ok (.aload_n 1, 1) := by decide +kernel
theorem dX9_copyFrom_86 : decode cX9_copyFrom 86 = .ok (.getfield 38, 3) := by decide +kernel
theorem dX9_copyFrom_89 : decode cX9_copyFrom 89 = .ok (.putfield 38, 3) := by decide +kernel
theorem dX9_copyFrom_92 : decode cX9_copyFrom 92 = .ok (.aload_n 0, 1) := by decide +kernel
theorem dX9_copyFrom_93 : decode cX9_copyFrom 93 = .ok (.aload_n 1, 1) := by decide +kernel
theorem dX9_copyFrom_94 : decode cX9_copyFrom 94 = .ok (.getfield 41, 3) := by decide +kernel
theorem dX9_copyFrom_97 : decode cX9_copyFrom 97 = .ok (.putfield 41, 3) := by decide +kernel
theorem dX9_copyFrom_100 : decode cX9_copyFrom 100 = .ok (.aload_n 0, 1) := by decide +kernel
theorem dX9_copyFrom_101 : decode cX9_copyFrom 101 = .ok (.aload_n 1, 1) := by decide +kernel
theorem dX9_copyFrom_102 : decode cX9_copyFrom 102 = .ok (.getfield 44, 3) := by decide +kernel
theorem dX9_copyFrom_105 : decode cX9_copyFrom 105 = .ok (.putfield 44, 3) := by decide +kernel
theorem dX9_copyFrom_108 : decode cX9_copyFrom 108 = .ok (.aload_n 0, 1) := by decide +kernel
theorem dX9_copyFrom_109 : decode cX9_copyFrom 109 = .ok (.aload_n 1, 1) := by decide +kernel
theorem dX9_copyFrom_110 : decode cX9_copyFrom 110 = .ok (.getfield 47, 3) := by decide +kernel
theorem dX9_copyFrom_113 : decode cX9_copyFrom 113 = .ok (.putfield 47, 3) := by decide +kernel
theorem dX9_copyFrom_116 : decode cX9_copyFrom 116 = .ok (.aload_n 0, 1) := by decide +kernel
theorem dX9_copyFrom_117 : decode cX9_copyFrom 117 = .ok (.aload_n 1, 1) := by decide +kernel
theorem dX9_copyFrom_118 : decode cX9_copyFrom 118 = .ok (.getfield 50, 3) := by decide +kernel
theorem dX9_copyFrom_121 : decode cX9_copyFrom 121 = .ok (.putfield 50, 3) := by decide +kernel
theorem dX9_copyFrom_124 : decode cX9_copyFrom 124 = .ok (.aload_n 0, 1) := by decide +kernel
theorem dX9_copyFrom_125 : decode cX9_copyFrom 125 = .ok (.aload_n 1, 1) := by decide +kernel
theorem dX9_copyFrom_126 : decode cX9_copyFrom 126 = .ok (.getfield 53, 3) := by decide +kernel
theorem dX9_copyFrom_129 : decode cX9_copyFrom 129 = .ok (.putfield 53, 3) := by decide +kernel
theorem dX9_copyFrom_132 : decode cX9_copyFrom 132 = .ok (.aload_n 0, 1) := by decide +kernel
theorem dX9_copyFrom_133 : decode cX9_copyFrom 133 = .ok (.aload_n 1, 1) := by decide +kernel
theorem dX9_copyFrom_134 : decode cX9_copyFrom 134 = .ok (.getfield 56, 3) := by decide +kernel
theorem dX9_copyFrom_137 : decode cX9_copyFrom 137 = .ok (.putfield 56, 3) := by decide +kernel
theorem dX9_copyFrom_140 : decode cX9_copyFrom 140 = .ok (.return_, 1) := by decide +kernel
noncomputable def o_X9_copyFrom (τ : cT) (n : Nat) (p : Nat) (a1 : Nat) (s : cS) : Option (cS) := (o_X9_build τ n p s (s.1 a1 0) (s.1 a1 1) (s.1 a1 2) (s.1 a1 3)).bind fun x1 => ((some (cp (cp x1 p 4 (x1.1 a1 4)) p 5 ((cp x1 p 4 (x1.1 a1 4)).1 a1 5))).bind fun x2 => ((some (cp (cp x2 p 6 (x2.1 a1 6)) p 7 ((cp x2 p 6 (x2.1 a1 6)).1 a1 7))).bind fun x3 => ((x3.2 a1 8).bind fun x4 => (if acb τ n x4 = true then ((some (cp (cp (cq x3 p 8 (some x4)) p 9 ((cq x3 p 8 (some x4)).1 a1 9)) p 10 ((cp (cq x3 p 8 (some x4)) p 9 ((cq x3 p 8 (some x4)).1 a1 9)).1 a1 10))).bind fun x6 => ((some (cp (cp x6 p 11 (x6.1 a1 11)) p 12 ((cp x6 p 11 (x6.1 a1 11)).1 a1 12))).bind fun x7 => ((some (cp (cp x7 p 13 (x7.1 a1 13)) p 14 ((cp x7 p 13 (x7.1 a1 13)).1 a1 14))).bind fun x8 => ((some (cp (cp x8 p 15 (x8.1 a1 15)) p 16 ((cp x8 p 15 (x8.1 a1 15)).1 a1 16))).bind fun x9 => (if zb (x9.1 a1 17) then ((some (cp (cp x9 p 17 (x9.1 a1 17)) p 18 ((cp x9 p 17 (x9.1 a1 17)).1 a1 18))).bind fun x11 => (some x11)) else none))))) else none))))
set_option maxHeartbeats 4000000 in
theorem t_X9_copyFrom {Γ : jg_G} {g : Nat → jg_C} (τ : cT) (n : Nat) (p : Nat) (a1 : Nat) (s : cS) (hp : Ob τ n p 9) (h1 : Ob τ n a1 9) {x : cS} (h : o_X9_copyFrom τ n p a1 s = some x) : jc Γ mX9_copyFrom 1 0 0 [some (.ref p), some (.ref a1)] (ct_h g τ s, n) (.inl none) (ct_h g τ x, n) := by
  refine jc_of ?_
  rw [o_X9_copyFrom] at h
  refine jg_aload_n dX9_copyFrom_0 rfl ?_
  refine jg_aload_n dX9_copyFrom_1 rfl ?_
  refine cs_get (s := s) (w := .int (s.1 a1 0)) fl_X9_15 dX9_copyFrom_2 h1 rfl ?_
  refine jg_aload_n dX9_copyFrom_5 rfl ?_
  refine cs_get (s := s) (w := .int (s.1 a1 1)) fl_X9_19 dX9_copyFrom_6 h1 rfl ?_
  refine jg_aload_n dX9_copyFrom_9 rfl ?_
  refine cs_get (s := s) (w := .int (s.1 a1 2)) fl_X9_22 dX9_copyFrom_10 h1 rfl ?_
  refine jg_aload_n dX9_copyFrom_13 rfl ?_
  refine cs_get (s := s) (w := .int (s.1 a1 3)) fl_X9_25 dX9_copyFrom_14 h1 rfl ?_
  obtain ⟨x1, e_x1, h⟩ := bd_some h
  refine cs_call (q := p) (As := [.int (s.1 a1 0), .int (s.1 a1 1), .int (s.1 a1 2), .int (s.1 a1 3)]) kv_X9_59 dX9_copyFrom_17 hp rfl rfl (by decide) (Nat.le_of_ble_eq_true rfl) rfl (by decide) (Nat.le_of_ble_eq_true rfl) (t_X9_build τ n p s (s.1 a1 0) (s.1 a1 1) (s.1 a1 2) (s.1 a1 3) hp e_x1) ?_
  refine jg_aload_n dX9_copyFrom_20 rfl ?_
  refine jg_aload_n dX9_copyFrom_21 rfl ?_
  refine cs_get (s := x1) (w := .int (x1.1 a1 4)) fl_X9_63 dX9_copyFrom_22 h1 rfl ?_
  refine cs_put (s := x1) (k := 4) (x := (x1.1 a1 4)) fl_X9_63 dX9_copyFrom_25 hp (ltb rfl) (rfl) rfl rfl ?_
  refine jg_aload_n dX9_copyFrom_28 rfl ?_
  refine jg_aload_n dX9_copyFrom_29 rfl ?_
  refine cs_get (s := (cp x1 p 4 (x1.1 a1 4))) (w := .int ((cp x1 p 4 (x1.1 a1 4)).1 a1 5)) fl_X9_66 dX9_copyFrom_30 h1 rfl ?_
  refine cs_put (s := (cp x1 p 4 (x1.1 a1 4))) (k := 5) (x := ((cp x1 p 4 (x1.1 a1 4)).1 a1 5)) fl_X9_66 dX9_copyFrom_33 hp (ltb rfl) (rfl) rfl rfl ?_
  obtain ⟨x2, e_x2, h⟩ := bd_some h
  refine cs_sub (Option.some.inj e_x2) ?_
  refine jg_aload_n dX9_copyFrom_36 rfl ?_
  refine jg_aload_n dX9_copyFrom_37 rfl ?_
  refine cs_get (s := x2) (w := .int (x2.1 a1 6)) fl_X9_69 dX9_copyFrom_38 h1 rfl ?_
  refine cs_put (s := x2) (k := 6) (x := (x2.1 a1 6)) fl_X9_69 dX9_copyFrom_41 hp (ltb rfl) (rfl) rfl rfl ?_
  refine jg_aload_n dX9_copyFrom_44 rfl ?_
  refine jg_aload_n dX9_copyFrom_45 rfl ?_
  refine cs_get (s := (cp x2 p 6 (x2.1 a1 6))) (w := .int ((cp x2 p 6 (x2.1 a1 6)).1 a1 7)) fl_X9_72 dX9_copyFrom_46 h1 rfl ?_
  refine cs_put (s := (cp x2 p 6 (x2.1 a1 6))) (k := 7) (x := ((cp x2 p 6 (x2.1 a1 6)).1 a1 7)) fl_X9_72 dX9_copyFrom_49 hp (ltb rfl) (rfl) rfl rfl ?_
  obtain ⟨x3, e_x3, h⟩ := bd_some h
  refine cs_sub (Option.some.inj e_x3) ?_
  refine jg_aload_n dX9_copyFrom_52 rfl ?_
  refine jg_aload_n dX9_copyFrom_53 rfl ?_
  obtain ⟨x4, e_x4, h⟩ := bd_some h
  obtain ⟨q5, h⟩ := gd_some h
  refine cs_get (s := x3) (w := .ref x4) fl_X9_9 dX9_copyFrom_54 h1 (by show some (vr (x3.2 a1 8)) = _; rw [e_x4]; rfl) ?_
  refine cs_putr (s := x3) (y := x4) fl_X9_9 dX9_copyFrom_57 hp (ltb rfl) rfl rfl rfl ?_
  refine jg_aload_n dX9_copyFrom_60 rfl ?_
  refine jg_aload_n dX9_copyFrom_61 rfl ?_
  refine cs_get (s := (cq x3 p 8 (some x4))) (w := .int ((cq x3 p 8 (some x4)).1 a1 9)) fl_X9_29 dX9_copyFrom_62 h1 rfl ?_
  refine cs_put (s := (cq x3 p 8 (some x4))) (k := 9) (x := ((cq x3 p 8 (some x4)).1 a1 9)) fl_X9_29 dX9_copyFrom_65 hp (ltb rfl) (rfl) rfl rfl ?_
  refine jg_aload_n dX9_copyFrom_68 rfl ?_
  refine jg_aload_n dX9_copyFrom_69 rfl ?_
  refine cs_get (s := (cp (cq x3 p 8 (some x4)) p 9 ((cq x3 p 8 (some x4)).1 a1 9))) (w := .int ((cp (cq x3 p 8 (some x4)) p 9 ((cq x3 p 8 (some x4)).1 a1 9)).1 a1 10)) fl_X9_32 dX9_copyFrom_70 h1 rfl ?_
  refine cs_put (s := (cp (cq x3 p 8 (some x4)) p 9 ((cq x3 p 8 (some x4)).1 a1 9))) (k := 10) (x := ((cp (cq x3 p 8 (some x4)) p 9 ((cq x3 p 8 (some x4)).1 a1 9)).1 a1 10)) fl_X9_32 dX9_copyFrom_73 hp (ltb rfl) (rfl) rfl rfl ?_
  obtain ⟨x6, e_x6, h⟩ := bd_some h
  refine cs_sub (Option.some.inj e_x6) ?_
  refine jg_aload_n dX9_copyFrom_76 rfl ?_
  refine jg_aload_n dX9_copyFrom_77 rfl ?_
  refine cs_get (s := x6) (w := .int (x6.1 a1 11)) fl_X9_35 dX9_copyFrom_78 h1 rfl ?_
  refine cs_put (s := x6) (k := 11) (x := (x6.1 a1 11)) fl_X9_35 dX9_copyFrom_81 hp (ltb rfl) (rfl) rfl rfl ?_
  refine jg_aload_n dX9_copyFrom_84 rfl ?_
  refine jg_aload_n dX9_copyFrom_85 rfl ?_
  refine cs_get (s := (cp x6 p 11 (x6.1 a1 11))) (w := .int ((cp x6 p 11 (x6.1 a1 11)).1 a1 12)) fl_X9_38 dX9_copyFrom_86 h1 rfl ?_
  refine cs_put (s := (cp x6 p 11 (x6.1 a1 11))) (k := 12) (x := ((cp x6 p 11 (x6.1 a1 11)).1 a1 12)) fl_X9_38 dX9_copyFrom_89 hp (ltb rfl) (rfl) rfl rfl ?_
  obtain ⟨x7, e_x7, h⟩ := bd_some h
  refine cs_sub (Option.some.inj e_x7) ?_
  refine jg_aload_n dX9_copyFrom_92 rfl ?_
  refine jg_aload_n dX9_copyFrom_93 rfl ?_
  refine cs_get (s := x7) (w := .int (x7.1 a1 13)) fl_X9_41 dX9_copyFrom_94 h1 rfl ?_
  refine cs_put (s := x7) (k := 13) (x := (x7.1 a1 13)) fl_X9_41 dX9_copyFrom_97 hp (ltb rfl) (rfl) rfl rfl ?_
  refine jg_aload_n dX9_copyFrom_100 rfl ?_
  refine jg_aload_n dX9_copyFrom_101 rfl ?_
  refine cs_get (s := (cp x7 p 13 (x7.1 a1 13))) (w := .int ((cp x7 p 13 (x7.1 a1 13)).1 a1 14)) fl_X9_44 dX9_copyFrom_102 h1 rfl ?_
  refine cs_put (s := (cp x7 p 13 (x7.1 a1 13))) (k := 14) (x := ((cp x7 p 13 (x7.1 a1 13)).1 a1 14)) fl_X9_44 dX9_copyFrom_105 hp (ltb rfl) (rfl) rfl rfl ?_
  obtain ⟨x8, e_x8, h⟩ := bd_some h
  refine cs_sub (Option.some.inj e_x8) ?_
  refine jg_aload_n dX9_copyFrom_108 rfl ?_
  refine jg_aload_n dX9_copyFrom_109 rfl ?_
  refine cs_get (s := x8) (w := .int (x8.1 a1 15)) fl_X9_47 dX9_copyFrom_110 h1 rfl ?_
  refine cs_put (s := x8) (k := 15) (x := (x8.1 a1 15)) fl_X9_47 dX9_copyFrom_113 hp (ltb rfl) (rfl) rfl rfl ?_
  refine jg_aload_n dX9_copyFrom_116 rfl ?_
  refine jg_aload_n dX9_copyFrom_117 rfl ?_
  refine cs_get (s := (cp x8 p 15 (x8.1 a1 15))) (w := .int ((cp x8 p 15 (x8.1 a1 15)).1 a1 16)) fl_X9_50 dX9_copyFrom_118 h1 rfl ?_
  refine cs_put (s := (cp x8 p 15 (x8.1 a1 15))) (k := 16) (x := ((cp x8 p 15 (x8.1 a1 15)).1 a1 16)) fl_X9_50 dX9_copyFrom_121 hp (ltb rfl) (rfl) rfl rfl ?_
  obtain ⟨x9, e_x9, h⟩ := bd_some h
  refine cs_sub (Option.some.inj e_x9) ?_
  refine jg_aload_n dX9_copyFrom_124 rfl ?_
  refine jg_aload_n dX9_copyFrom_125 rfl ?_
  refine cs_get (s := x9) (w := .int (x9.1 a1 17)) fl_X9_53 dX9_copyFrom_126 h1 rfl ?_
  obtain ⟨q10, h⟩ := gd_some h
  refine cs_put (s := x9) (k := 17) (x := (x9.1 a1 17)) fl_X9_53 dX9_copyFrom_129 hp (ltb rfl) (zb_nar q10) (zb_fits q10) rfl ?_
  refine jg_aload_n dX9_copyFrom_132 rfl ?_
  refine jg_aload_n dX9_copyFrom_133 rfl ?_
  refine cs_get (s := (cp x9 p 17 (x9.1 a1 17))) (w := .int ((cp x9 p 17 (x9.1 a1 17)).1 a1 18)) fl_X9_56 dX9_copyFrom_134 h1 rfl ?_
  refine cs_put (s := (cp x9 p 17 (x9.1 a1 17))) (k := 18) (x := ((cp x9 p 17 (x9.1 a1 17)).1 a1 18)) fl_X9_56 dX9_copyFrom_137 hp (ltb rfl) (rfl) rfl rfl ?_
  obtain ⟨x11, e_x11, h⟩ := bd_some h
  refine cs_sub (Option.some.inj e_x11) ?_
  obtain rfl := Option.some.inj h
  exact jg_return dX9_copyFrom_140 rfl ⟨rfl, rfl⟩
theorem dX5_copyFrom_0 : decode cX5_copyFrom 0 = .ok (.aload_n 0, 1) := by decide +kernel
theorem dX5_copyFrom_1 : decode cX5_copyFrom 1 = .ok (.aload_n 1, 1) := by decide +kernel
theorem dX5_copyFrom_2 : decode cX5_copyFrom 2 = .ok (.getfield 38, 3) := by decide +kernel
theorem dX5_copyFrom_5 : decode cX5_copyFrom 5 = .ok (.putfield 38, 3) := by decide +kernel
theorem dX5_copyFrom_8 : decode cX5_copyFrom 8 = .ok (.iconst 0, 1) := by decide +kernel
theorem dX5_copyFrom_9 : decode cX5_copyFrom 9 = .ok (.istore_n 2, 1) := by decide +kernel
theorem dX5_copyFrom_10 : decode cX5_copyFrom 10 = .ok (.iload_n 2, 1) := by decide +kernel
theorem dX5_copyFrom_11 : decode cX5_copyFrom 11 = .ok (.aload_n 0, 1) := by decide +kernel
theorem dX5_copyFrom_12 : decode cX5_copyFrom 12 = .ok (.getfield 38, 3) := by decide +kernel
theorem dX5_copyFrom_15 : decode cX5_copyFrom 15 = .ok (.if_icmp .ge 24, 3) := by decide +kernel
theorem dX5_copyFrom_18 : decode cX5_copyFrom 18 = .ok (.aload_n 0, 1) := by decide +kernel
theorem dX5_copyFrom_19 : decode cX5_copyFrom 19 = .ok (.getfield 11, 3) := by decide +kernel
theorem dX5_copyFrom_22 : decode cX5_copyFrom 22 = .ok (.iload_n 2, 1) := by decide +kernel
theorem dX5_copyFrom_23 : decode cX5_copyFrom 23 = .ok (.aaload, 1) := by decide +kernel
theorem dX5_copyFrom_24 : decode cX5_copyFrom 24 = .ok (.aload_n 1, 1) := by decide +kernel
theorem dX5_copyFrom_25 : decode cX5_copyFrom 25 = .ok (.getfield 11, 3) := by decide +kernel
theorem dX5_copyFrom_28 : decode cX5_copyFrom 28 = .ok (.iload_n 2, 1) := by decide +kernel
theorem dX5_copyFrom_29 : decode cX5_copyFrom 29 = .ok (.aaload, 1) := by decide +kernel
theorem dX5_copyFrom_30 : decode cX5_copyFrom 30 = .ok (.invokevirtual 41, 3) := by decide +kernel
theorem dX5_copyFrom_33 : decode cX5_copyFrom 33 = .ok (.iinc 2 1, 3) := by decide +kernel
theorem dX5_copyFrom_36 : decode cX5_copyFrom 36 = .ok (.goto (-26), 3) := by decide +kernel
theorem dX5_copyFrom_39 : decode cX5_copyFrom 39 = .ok (.aload_n 0, 1) := by decide +kernel
theorem dX5_copyFrom_40 : decode cX5_copyFrom 40 = .ok (.aload_n 1, 1) := by decide +kernel
theorem dX5_copyFrom_41 : decode cX5_copyFrom 41 = .ok (.getfield 45, 3) := by decide +kernel
theorem dX5_copyFrom_44 : decode cX5_copyFrom 44 = .ok (.putfield 45, 3) := by decide +kernel
theorem dX5_copyFrom_47 : decode cX5_copyFrom 47 = .ok (.iconst 0, 1) := by decide +kernel
theorem dX5_copyFrom_48 : decode cX5_copyFrom 48 = .ok (.istore_n 2, 1) := by decide +kernel
theorem dX5_copyFrom_49 : decode cX5_copyFrom 49 = .ok (.iload_n 2, 1) := by decide +kernel
theorem dX5_copyFrom_50 : decode cX5_copyFrom 50 = .ok (.aload_n 0, 1) := by decide +kernel
theorem dX5_copyFrom_51 : decode cX5_copyFrom 51 = .ok (.getfield 45, 3) := by decide +kernel
theorem dX5_copyFrom_54 : decode cX5_copyFrom 54 = .ok (.if_icmp .ge 24, 3) := by decide +kernel
theorem dX5_copyFrom_57 : decode cX5_copyFrom 57 = .ok (.aload_n 0, 1) := by decide +kernel
theorem dX5_copyFrom_58 : decode cX5_copyFrom 58 = .ok (.getfield 20, 3) := by decide +kernel
theorem dX5_copyFrom_61 : decode cX5_copyFrom 61 = .ok (.iload_n 2, 1) := by decide +kernel
theorem dX5_copyFrom_62 : decode cX5_copyFrom 62 = .ok (.aaload, 1) := by decide +kernel
theorem dX5_copyFrom_63 : decode cX5_copyFrom 63 = .ok (.aload_n 1, 1) := by decide +kernel
theorem dX5_copyFrom_64 : decode cX5_copyFrom 64 = .ok (.getfield 20, 3) := by decide +kernel
theorem dX5_copyFrom_67 : decode cX5_copyFrom 67 = .ok (.iload_n 2, 1) := by decide +kernel
theorem dX5_copyFrom_68 : decode cX5_copyFrom 68 = .ok (.aaload, 1) := by decide +kernel
theorem dX5_copyFrom_69 : decode cX5_copyFrom 69 = .ok (.invokevirtual 48, 3) := by decide +kernel
theorem dX5_copyFrom_72 : decode cX5_copyFrom 72 = .ok (.iinc 2 1, 3) := by decide +kernel
theorem dX5_copyFrom_75 : decode cX5_copyFrom 75 = .ok (.goto (-26), 3) := by decide +kernel
theorem dX5_copyFrom_78 : decode cX5_copyFrom 78 = .ok (.aload_n 0, 1) := by decide +kernel
theorem dX5_copyFrom_79 : decode cX5_copyFrom 79 = .ok (.aload_n 1, 1) := by decide +kernel
theorem dX5_copyFrom_80 : decode cX5_copyFrom 80 = .ok (.getfield 27, 3) := by decide +kernel
theorem dX5_copyFrom_83 : decode cX5_copyFrom 83 = .ok (.putfield 27, 3) := by decide +kernel
theorem dX5_copyFrom_86 : decode cX5_copyFrom 86 = .ok (.aload_n 0, 1) := by decide +kernel
theorem dX5_copyFrom_87 : decode cX5_copyFrom 87 = .ok (.aload_n 1, 1) := by decide +kernel
theorem dX5_copyFrom_88 : decode cX5_copyFrom 88 = .ok (.getfield 31, 3) := by decide +kernel
theorem dX5_copyFrom_91 : decode cX5_copyFrom 91 = .ok (.putfield 31, 3) := by decide +kernel
theorem dX5_copyFrom_94 : decode cX5_copyFrom 94 = .ok (.aload_n 1, 1) := by decide +kernel
theorem dX5_copyFrom_95 : decode cX5_copyFrom 95 = .ok (.getfield 34, 3) := by decide +kernel
theorem dX5_copyFrom_98 : decode cX5_copyFrom 98 = .ok (.aload_n 0, 1) := by decide +kernel
theorem dX5_copyFrom_99 : decode cX5_copyFrom 99 = .ok (.getfield 34, 3) := by decide +kernel
theorem dX5_copyFrom_102 : decode cX5_copyFrom 102 = .ok (.invokestatic 51, 3) := by decide +kernel
theorem dX5_copyFrom_105 : decode cX5_copyFrom 105 = .ok (.aload_n 0, 1) := by decide +kernel
theorem dX5_copyFrom_106 : decode cX5_copyFrom 106 = .ok (.aload_n 1, 1) := by decide +kernel
theorem dX5_copyFrom_107 : decode cX5_copyFrom 107 = .ok (.getfield 55, 3) := by decide +kernel
theorem dX5_copyFrom_110 : decode cX5_copyFrom 110 = .ok (.putfield 55, 3) := by decide +kernel
theorem dX5_copyFrom_113 : decode cX5_copyFrom 113 = .ok (.return_, 1) := by decide +kernel
noncomputable def o_X5_copyFrom_10 (F : Nat) (τ : cT) (n : Nat) (b : Nat) (a1 : Nat)  : Nat → Int32 → cS → Option (cS)
  | 0, _, _ => none
  | f + 1, l2, s => if (s.1 (b + 27) 1) ≤ l2 then (some s) else (if iL l2 10 then ((o_X1_copyFrom τ n (b + 28 + 1 + l2.toNatClampNeg) (a1 + 28 + 1 + l2.toNatClampNeg) s).bind fun x3 => (o_X5_copyFrom_10 F τ n b a1 f (l2 + nI 1) x3)) else none)
set_option maxHeartbeats 4000000 in
theorem t_X5_copyFrom_10 {Γ : jg_G} {g : Nat → jg_C} (F : Nat) (τ : cT) (n : Nat) (b : Nat) (a1 : Nat)  (hB : Bd τ n b) (h1 : Bd τ n a1) (Q : jg_Q) {x : cS} (K1 : jg Γ mX5_copyFrom 2 0 0 39 [some (.ref (b + 27)), some (.ref (a1 + 27)), none] [] (ct_h g τ x, n) Q)  : ∀ (f : Nat) (l2 : Int32) (s : cS), o_X5_copyFrom_10 F τ n b a1 f l2 s = some x → jg Γ mX5_copyFrom 2 0 0 10 [some (.ref (b + 27)), some (.ref (a1 + 27)), some (.int l2)] [] (ct_h g τ s, n) Q := by
  intro f
  induction f with
  | zero => intro l2 s h; rw [o_X5_copyFrom_10] at h; cases h
  | succ f ih =>
   intro l2 s h
   rw [o_X5_copyFrom_10] at h
   refine jg_iload_n dX5_copyFrom_10 rfl ?_
   refine jg_aload_n dX5_copyFrom_11 rfl ?_
   refine cs_get (s := s) (w := .int (s.1 (b + 27) 1)) fl_X5_38 dX5_copyFrom_12 (hB.ob 27 (by decide) rfl) rfl ?_
   refine jg_icmp_ge (x := l2) (y := (s.1 (b + 27) 1)) (tgt := 39) dX5_copyFrom_15 (by decide) (fun c1 => ?_) (fun c1 => ?_)
   · replace h := it_t c1 h
     refine jg_fg (L' := [some (.ref (b + 27)), some (.ref (a1 + 27)), none]) (by repeat (first | exact trivial | refine ⟨rfl, ?_⟩ | show jg_le _ _)) ?_
     obtain rfl := Option.some.inj h
     exact K1
   · replace h := it_f c1 h
     refine jg_aload_n dX5_copyFrom_18 rfl ?_
     refine cs_get (s := s) (w := .ref (b + 28)) fl_X5_11 dX5_copyFrom_19 (hB.ob 27 (by decide) rfl) rfl ?_
     refine jg_iload_n dX5_copyFrom_22 rfl ?_
     obtain ⟨q2, h⟩ := gd_some h
     refine cs_ldr (s := s) (q := (b + 28)) (i := l2) (kd := 5) (by decide) dX5_copyFrom_23 (hB.ar 28 (by decide) rfl) q2 ?_
     refine jg_aload_n dX5_copyFrom_24 rfl ?_
     refine cs_get (s := s) (w := .ref (a1 + 28)) fl_X5_11 dX5_copyFrom_25 (h1.ob 27 (by decide) rfl) rfl ?_
     refine jg_iload_n dX5_copyFrom_28 rfl ?_
     refine cs_ldr (s := s) (q := (a1 + 28)) (i := l2) (kd := 5) (by decide) dX5_copyFrom_29 (h1.ar 28 (by decide) rfl) q2 ?_
     obtain ⟨x3, e_x3, h⟩ := bd_some h
     refine cs_call (q := (b + 28 + 1 + l2.toNatClampNeg)) (As := [.ref (a1 + 28 + 1 + l2.toNatClampNeg)]) kv_X5_41 dX5_copyFrom_30 (hB.berth q2.2) rfl rfl (by decide) (Nat.le_of_ble_eq_true rfl) rfl (by decide) (Nat.le_of_ble_eq_true rfl) (t_X1_copyFrom τ n (b + 28 + 1 + l2.toNatClampNeg) (a1 + 28 + 1 + l2.toNatClampNeg) s (hB.berth q2.2) (h1.berth q2.2) e_x3) ?_
     refine jg_iinc (x := l2) (v := l2 + nI 1) (L' := [some (.ref (b + 27)), some (.ref (a1 + 27)), some (.int (l2 + nI 1))]) dX5_copyFrom_33 rfl (ic_k _ (by decide)) (by decide) rfl ?_
     refine jg_goto (tgt := 10) dX5_copyFrom_36 (by decide) ?_
     refine jg_fg (L' := [some (.ref (b + 27)), some (.ref (a1 + 27)), some (.int (l2 + nI 1))]) (by repeat (first | exact trivial | refine ⟨rfl, ?_⟩ | show jg_le _ _)) ?_
     exact ih (l2 + nI 1) x3 h
noncomputable def o_X5_copyFrom_49 (F : Nat) (τ : cT) (n : Nat) (b : Nat) (a1 : Nat)  : Nat → Int32 → cS → Option (cS)
  | 0, _, _ => none
  | f + 1, l2, s => if (s.1 (b + 27) 3) ≤ l2 then (some s) else (if iL l2 80 then ((o_X9_copyFrom τ n (b + 39 + 1 + l2.toNatClampNeg) (a1 + 39 + 1 + l2.toNatClampNeg) s).bind fun x7 => (o_X5_copyFrom_49 F τ n b a1 f (l2 + nI 1) x7)) else none)
set_option maxHeartbeats 4000000 in
theorem t_X5_copyFrom_49 {Γ : jg_G} {g : Nat → jg_C} (F : Nat) (τ : cT) (n : Nat) (b : Nat) (a1 : Nat)  (hB : Bd τ n b) (h1 : Bd τ n a1) (Q : jg_Q) {x : cS} (K1 : jg Γ mX5_copyFrom 2 0 0 78 [some (.ref (b + 27)), some (.ref (a1 + 27)), none] [] (ct_h g τ x, n) Q)  : ∀ (f : Nat) (l2 : Int32) (s : cS), o_X5_copyFrom_49 F τ n b a1 f l2 s = some x → jg Γ mX5_copyFrom 2 0 0 49 [some (.ref (b + 27)), some (.ref (a1 + 27)), some (.int l2)] [] (ct_h g τ s, n) Q := by
  intro f
  induction f with
  | zero => intro l2 s h; rw [o_X5_copyFrom_49] at h; cases h
  | succ f ih =>
   intro l2 s h
   rw [o_X5_copyFrom_49] at h
   refine jg_iload_n dX5_copyFrom_49 rfl ?_
   refine jg_aload_n dX5_copyFrom_50 rfl ?_
   refine cs_get (s := s) (w := .int (s.1 (b + 27) 3)) fl_X5_45 dX5_copyFrom_51 (hB.ob 27 (by decide) rfl) rfl ?_
   refine jg_icmp_ge (x := l2) (y := (s.1 (b + 27) 3)) (tgt := 78) dX5_copyFrom_54 (by decide) (fun c5 => ?_) (fun c5 => ?_)
   · replace h := it_t c5 h
     refine jg_fg (L' := [some (.ref (b + 27)), some (.ref (a1 + 27)), none]) (by repeat (first | exact trivial | refine ⟨rfl, ?_⟩ | show jg_le _ _)) ?_
     obtain rfl := Option.some.inj h
     exact K1
   · replace h := it_f c5 h
     refine jg_aload_n dX5_copyFrom_57 rfl ?_
     refine cs_get (s := s) (w := .ref (b + 39)) fl_X5_20 dX5_copyFrom_58 (hB.ob 27 (by decide) rfl) rfl ?_
     refine jg_iload_n dX5_copyFrom_61 rfl ?_
     obtain ⟨q6, h⟩ := gd_some h
     refine cs_ldr (s := s) (q := (b + 39)) (i := l2) (kd := 6) (by decide) dX5_copyFrom_62 (hB.ar 39 (by decide) rfl) q6 ?_
     refine jg_aload_n dX5_copyFrom_63 rfl ?_
     refine cs_get (s := s) (w := .ref (a1 + 39)) fl_X5_20 dX5_copyFrom_64 (h1.ob 27 (by decide) rfl) rfl ?_
     refine jg_iload_n dX5_copyFrom_67 rfl ?_
     refine cs_ldr (s := s) (q := (a1 + 39)) (i := l2) (kd := 6) (by decide) dX5_copyFrom_68 (h1.ar 39 (by decide) rfl) q6 ?_
     obtain ⟨x7, e_x7, h⟩ := bd_some h
     refine cs_call (q := (b + 39 + 1 + l2.toNatClampNeg)) (As := [.ref (a1 + 39 + 1 + l2.toNatClampNeg)]) kv_X5_48 dX5_copyFrom_69 (hB.ship q6.2) rfl rfl (by decide) (Nat.le_of_ble_eq_true rfl) rfl (by decide) (Nat.le_of_ble_eq_true rfl) (t_X9_copyFrom τ n (b + 39 + 1 + l2.toNatClampNeg) (a1 + 39 + 1 + l2.toNatClampNeg) s (hB.ship q6.2) (h1.ship q6.2) e_x7) ?_
     refine jg_iinc (x := l2) (v := l2 + nI 1) (L' := [some (.ref (b + 27)), some (.ref (a1 + 27)), some (.int (l2 + nI 1))]) dX5_copyFrom_72 rfl (ic_k _ (by decide)) (by decide) rfl ?_
     refine jg_goto (tgt := 49) dX5_copyFrom_75 (by decide) ?_
     refine jg_fg (L' := [some (.ref (b + 27)), some (.ref (a1 + 27)), some (.int (l2 + nI 1))]) (by repeat (first | exact trivial | refine ⟨rfl, ?_⟩ | show jg_le _ _)) ?_
     exact ih (l2 + nI 1) x7 h
noncomputable def o_X5_copyFrom (F : Nat) (τ : cT) (n : Nat) (b : Nat) (a1 : Nat) (s : cS) : Option (cS) := (o_X5_copyFrom_10 F τ n b a1 F (nI 0) (cp s (b + 27) 1 (s.1 (a1 + 27) 1))).bind fun x4 => ((o_X5_copyFrom_49 F τ n b a1 F (nI 0) (cp x4 (b + 27) 3 (x4.1 (a1 + 27) 3))).bind fun x8 => ((some (cp (cp x8 (b + 27) 4 (x8.1 (a1 + 27) 4)) (b + 27) 5 ((cp x8 (b + 27) 4 (x8.1 (a1 + 27) 4)).1 (a1 + 27) 5))).bind fun x9 => ((some (cp (cc x9 (a1 + 120) (b + 120) 4) (b + 27) 7 ((cc x9 (a1 + 120) (b + 120) 4).1 (a1 + 27) 7))).bind fun x10 => (some x10))))
set_option maxHeartbeats 4000000 in
theorem t_X5_copyFrom {Γ : jg_G} {g : Nat → jg_C} (F : Nat) (τ : cT) (n : Nat) (b : Nat) (a1 : Nat) (s : cS) (hB : Bd τ n b) (h1 : Bd τ n a1) {x : cS} (h : o_X5_copyFrom F τ n b a1 s = some x) : jc Γ mX5_copyFrom 2 0 0 [some (.ref (b + 27)), some (.ref (a1 + 27)), none] (ct_h g τ s, n) (.inl none) (ct_h g τ x, n) := by
  refine jc_of ?_
  rw [o_X5_copyFrom] at h
  refine jg_aload_n dX5_copyFrom_0 rfl ?_
  refine jg_aload_n dX5_copyFrom_1 rfl ?_
  refine cs_get (s := s) (w := .int (s.1 (a1 + 27) 1)) fl_X5_38 dX5_copyFrom_2 (h1.ob 27 (by decide) rfl) rfl ?_
  refine cs_put (s := s) (k := 1) (x := (s.1 (a1 + 27) 1)) fl_X5_38 dX5_copyFrom_5 (hB.ob 27 (by decide) rfl) (ltb rfl) (rfl) rfl rfl ?_
  refine jg_iconst (v := nI 0) dX5_copyFrom_8 (by decide) ?_
  refine jg_istore_n (L' := [some (.ref (b + 27)), some (.ref (a1 + 27)), some (.int (nI 0))]) dX5_copyFrom_9 (by decide) rfl ?_
  obtain ⟨x4, e_x4, h⟩ := bd_some h
  refine jg_fg (L' := [some (.ref (b + 27)), some (.ref (a1 + 27)), some (.int (nI 0))]) (by repeat (first | exact trivial | refine ⟨rfl, ?_⟩ | show jg_le _ _)) ?_
  refine t_X5_copyFrom_10  F τ n b a1 hB h1 _ (x := x4) ?_ F (nI 0) (cp s (b + 27) 1 (s.1 (a1 + 27) 1)) e_x4
  refine jg_aload_n dX5_copyFrom_39 rfl ?_
  refine jg_aload_n dX5_copyFrom_40 rfl ?_
  refine cs_get (s := x4) (w := .int (x4.1 (a1 + 27) 3)) fl_X5_45 dX5_copyFrom_41 (h1.ob 27 (by decide) rfl) rfl ?_
  refine cs_put (s := x4) (k := 3) (x := (x4.1 (a1 + 27) 3)) fl_X5_45 dX5_copyFrom_44 (hB.ob 27 (by decide) rfl) (ltb rfl) (rfl) rfl rfl ?_
  refine jg_iconst (v := nI 0) dX5_copyFrom_47 (by decide) ?_
  refine jg_istore_n (L' := [some (.ref (b + 27)), some (.ref (a1 + 27)), some (.int (nI 0))]) dX5_copyFrom_48 (by decide) rfl ?_
  obtain ⟨x8, e_x8, h⟩ := bd_some h
  refine jg_fg (L' := [some (.ref (b + 27)), some (.ref (a1 + 27)), some (.int (nI 0))]) (by repeat (first | exact trivial | refine ⟨rfl, ?_⟩ | show jg_le _ _)) ?_
  refine t_X5_copyFrom_49  F τ n b a1 hB h1 _ (x := x8) ?_ F (nI 0) (cp x4 (b + 27) 3 (x4.1 (a1 + 27) 3)) e_x8
  refine jg_aload_n dX5_copyFrom_78 rfl ?_
  refine jg_aload_n dX5_copyFrom_79 rfl ?_
  refine cs_get (s := x8) (w := .int (x8.1 (a1 + 27) 4)) fl_X5_27 dX5_copyFrom_80 (h1.ob 27 (by decide) rfl) rfl ?_
  refine cs_put (s := x8) (k := 4) (x := (x8.1 (a1 + 27) 4)) fl_X5_27 dX5_copyFrom_83 (hB.ob 27 (by decide) rfl) (ltb rfl) (rfl) rfl rfl ?_
  refine jg_aload_n dX5_copyFrom_86 rfl ?_
  refine jg_aload_n dX5_copyFrom_87 rfl ?_
  refine cs_get (s := (cp x8 (b + 27) 4 (x8.1 (a1 + 27) 4))) (w := .int ((cp x8 (b + 27) 4 (x8.1 (a1 + 27) 4)).1 (a1 + 27) 5)) fl_X5_31 dX5_copyFrom_88 (h1.ob 27 (by decide) rfl) rfl ?_
  refine cs_put (s := (cp x8 (b + 27) 4 (x8.1 (a1 + 27) 4))) (k := 5) (x := ((cp x8 (b + 27) 4 (x8.1 (a1 + 27) 4)).1 (a1 + 27) 5)) fl_X5_31 dX5_copyFrom_91 (hB.ob 27 (by decide) rfl) (ltb rfl) (rfl) rfl rfl ?_
  obtain ⟨x9, e_x9, h⟩ := bd_some h
  refine cs_sub (Option.some.inj e_x9) ?_
  refine jg_aload_n dX5_copyFrom_94 rfl ?_
  refine cs_get (s := x9) (w := .ref (a1 + 120)) fl_X5_34 dX5_copyFrom_95 (h1.ob 27 (by decide) rfl) rfl ?_
  refine jg_aload_n dX5_copyFrom_98 rfl ?_
  refine cs_get (s := x9) (w := .ref (b + 120)) fl_X5_34 dX5_copyFrom_99 (hB.ob 27 (by decide) rfl) rfl ?_
  refine cs_callN (As := [.ref (a1 + 120), .ref (b + 120)]) kw_X5_51 dX5_copyFrom_102 rfl (by decide) (Nat.le_of_ble_eq_true rfl) rfl (by decide) (Nat.le_of_ble_eq_true rfl) (t_copyRow x9 (a1 + 120) (b + 120) 4 (by decide) (h1.ar 120 (by decide) rfl) (hB.ar 120 (by decide) rfl)) ?_
  refine jg_aload_n dX5_copyFrom_105 rfl ?_
  refine jg_aload_n dX5_copyFrom_106 rfl ?_
  refine cs_get (s := (cc x9 (a1 + 120) (b + 120) 4)) (w := .int ((cc x9 (a1 + 120) (b + 120) 4).1 (a1 + 27) 7)) fl_X5_55 dX5_copyFrom_107 (h1.ob 27 (by decide) rfl) rfl ?_
  refine cs_put (s := (cc x9 (a1 + 120) (b + 120) 4)) (k := 7) (x := ((cc x9 (a1 + 120) (b + 120) 4).1 (a1 + 27) 7)) fl_X5_55 dX5_copyFrom_110 (hB.ob 27 (by decide) rfl) (ltb rfl) (rfl) rfl rfl ?_
  obtain ⟨x10, e_x10, h⟩ := bd_some h
  refine cs_sub (Option.some.inj e_x10) ?_
  obtain rfl := Option.some.inj h
  exact jg_return dX5_copyFrom_113 rfl ⟨rfl, rfl⟩
theorem dX6_copyFrom_0 : decode cX6_copyFrom 0 = .ok (.aload_n 0, 1) := by decide +kernel
theorem dX6_copyFrom_1 : decode cX6_copyFrom 1 = .ok (.aload_n 1, 1) := by decide +kernel
theorem dX6_copyFrom_2 : decode cX6_copyFrom 2 = .ok (.getfield 39, 3) := by decide +kernel
theorem dX6_copyFrom_5 : decode cX6_copyFrom 5 = .ok (.putfield 39, 3) := by decide +kernel
theorem dX6_copyFrom_8 : decode cX6_copyFrom 8 = .ok (.aload_n 0, 1) := by decide +kernel
theorem dX6_copyFrom_9 : decode cX6_copyFrom 9 = .ok (.aload_n 1, 1) := by decide +kernel
theorem dX6_copyFrom_10 : decode cX6_copyFrom 10 = .ok (.getfield 43, 3) := by decide +kernel
theorem dX6_copyFrom_13 : decode cX6_copyFrom 13 = .ok (.putfield 43, 3) := by decide +kernel
theorem dX6_copyFrom_16 : decode cX6_copyFrom 16 = .ok (.aload_n 0, 1) := by decide +kernel
theorem dX6_copyFrom_17 : decode cX6_copyFrom 17 = .ok (.aload_n 1, 1) := by decide +kernel
theorem dX6_copyFrom_18 : decode cX6_copyFrom 18 = .ok (.getfield 46, 3) := by decide +kernel
theorem dX6_copyFrom_21 : decode cX6_copyFrom 21 = .ok (.putfield 46, 3) := by decide +kernel
theorem dX6_copyFrom_24 : decode cX6_copyFrom 24 = .ok (.aload_n 1, 1) := by decide +kernel
theorem dX6_copyFrom_25 : decode cX6_copyFrom 25 = .ok (.getfield 9, 3) := by decide +kernel
theorem dX6_copyFrom_28 : decode cX6_copyFrom 28 = .ok (.aload_n 0, 1) := by decide +kernel
theorem dX6_copyFrom_29 : decode cX6_copyFrom 29 = .ok (.getfield 9, 3) := by decide +kernel
theorem dX6_copyFrom_32 : decode cX6_copyFrom 32 = .ok (.invokestatic 49, 3) := by decide +kernel
theorem dX6_copyFrom_35 : decode cX6_copyFrom 35 = .ok (.aload_n 1, 1) := by decide +kernel
theorem dX6_copyFrom_36 : decode cX6_copyFrom 36 = .ok (.getfield 15, 3) := by decide +kernel
theorem dX6_copyFrom_39 : decode cX6_copyFrom 39 = .ok (.aload_n 0, 1) := by decide +kernel
theorem dX6_copyFrom_40 : decode cX6_copyFrom 40 = .ok (.getfield 15, 3) := by decide +kernel
theorem dX6_copyFrom_43 : decode cX6_copyFrom 43 = .ok (.invokestatic 49, 3) := by decide +kernel
theorem dX6_copyFrom_46 : decode cX6_copyFrom 46 = .ok (.aload_n 1, 1) := by decide +kernel
theorem dX6_copyFrom_47 : decode cX6_copyFrom 47 = .ok (.getfield 18, 3) := by decide +kernel
theorem dX6_copyFrom_50 : decode cX6_copyFrom 50 = .ok (.aload_n 0, 1) := by decide +kernel
theorem dX6_copyFrom_51 : decode cX6_copyFrom 51 = .ok (.getfield 18, 3) := by decide +kernel
theorem dX6_copyFrom_54 : decode cX6_copyFrom 54 = .ok (.invokestatic 49, 3) := by decide +kernel
theorem dX6_copyFrom_57 : decode cX6_copyFrom 57 = .ok (.aload_n 0, 1) := by decide +kernel
theorem dX6_copyFrom_58 : decode cX6_copyFrom 58 = .ok (.aload_n 1, 1) := by decide +kernel
theorem dX6_copyFrom_59 : decode cX6_copyFrom 59 = .ok (.getfield 53, 3) := by decide +kernel
theorem dX6_copyFrom_62 : decode cX6_copyFrom 62 = .ok (.putfield 53, 3) := by decide +kernel
theorem dX6_copyFrom_65 : decode cX6_copyFrom 65 = .ok (.aload_n 1, 1) := by decide +kernel
theorem dX6_copyFrom_66 : decode cX6_copyFrom 66 = .ok (.getfield 21, 3) := by decide +kernel
theorem dX6_copyFrom_69 : decode cX6_copyFrom 69 = .ok (.aload_n 0, 1) := by decide +kernel
theorem dX6_copyFrom_70 : decode cX6_copyFrom 70 = .ok (.getfield 21, 3) := by decide +kernel
theorem dX6_copyFrom_73 : decode cX6_copyFrom 73 = .ok (.invokestatic 49, 3) := by decide +kernel
theorem dX6_copyFrom_76 : decode cX6_copyFrom 76 = .ok (.aload_n 1, 1) := by decide +kernel
theorem dX6_copyFrom_77 : decode cX6_copyFrom 77 = .ok (.getfield 24, 3) := by decide +kernel
theorem dX6_copyFrom_80 : decode cX6_copyFrom 80 = .ok (.aload_n 0, 1) := by decide +kernel
theorem dX6_copyFrom_81 : decode cX6_copyFrom 81 = .ok (.getfield 24, 3) := by decide +kernel
theorem dX6_copyFrom_84 : decode cX6_copyFrom 84 = .ok (.invokestatic 49, 3) := by decide +kernel
theorem dX6_copyFrom_87 : decode cX6_copyFrom 87 = .ok (.aload_n 1, 1) := by decide +kernel
theorem dX6_copyFrom_88 : decode cX6_copyFrom 88 = .ok (.getfield 27, 3) := by decide +kernel
theorem dX6_copyFrom_91 : decode cX6_copyFrom 91 = .ok (.aload_n 0, 1) := by decide +kernel
theorem dX6_copyFrom_92 : decode cX6_copyFrom 92 = .ok (.getfield 27, 3) := by decide +kernel
theorem dX6_copyFrom_95 : decode cX6_copyFrom 95 = .ok (.invokestatic 49, 3) := by decide +kernel
theorem dX6_copyFrom_98 : decode cX6_copyFrom 98 = .ok (.aload_n 1, 1) := by decide +kernel
theorem dX6_copyFrom_99 : decode cX6_copyFrom 99 = .ok (.getfield 30, 3) := by decide +kernel
theorem dX6_copyFrom_102 : decode cX6_copyFrom 102 = .ok (.aload_n 0, 1) := by decide +kernel
theorem dX6_copyFrom_103 : decode cX6_copyFrom 103 = .ok (.getfield 30, 3) := by decide +kernel
theorem dX6_copyFrom_106 : decode cX6_copyFrom 106 = .ok (.invokestatic 49, 3) := by decide +kernel
theorem dX6_copyFrom_109 : decode cX6_copyFrom 109 = .ok (.aload_n 1, 1) := by decide +kernel
theorem dX6_copyFrom_110 : decode cX6_copyFrom 110 = .ok (.getfield 33, 3) := by decide +kernel
theorem dX6_copyFrom_113 : decode cX6_copyFrom 113 = .ok (.aload_n 0, 1) := by decide +kernel
theorem dX6_copyFrom_114 : decode cX6_copyFrom 114 = .ok (.getfield 33, 3) := by decide +kernel
theorem dX6_copyFrom_117 : decode cX6_copyFrom 117 = .ok (.invokestatic 49, 3) := by decide +kernel
theorem dX6_copyFrom_120 : decode cX6_copyFrom 120 = .ok (.aload_n 1, 1) := by decide +kernel
theorem dX6_copyFrom_121 : decode cX6_copyFrom 121 = .ok (.getfield 36, 3) := by decide +kernel
theorem dX6_copyFrom_124 : decode cX6_copyFrom 124 = .ok (.aload_n 0, 1) := by decide +kernel
theorem dX6_copyFrom_125 : decode cX6_copyFrom 125 = .ok (.getfield 36, 3) := by decide +kernel
theorem dX6_copyFrom_128 : decode cX6_copyFrom 128 = .ok (.invokestatic 49, 3) := by decide +kernel
theorem dX6_copyFrom_131 : decode cX6_copyFrom 131 = .ok (.aload_n 0, 1) := by decide +kernel
theorem dX6_copyFrom_132 : decode cX6_copyFrom 132 = .ok (.aload_n 1, 1) := by decide +kernel
theorem dX6_copyFrom_133 : decode cX6_copyFrom 133 = .ok (.getfield 56, 3) := by decide +kernel
theorem dX6_copyFrom_136 : decode cX6_copyFrom 136 = .ok (.putfield 56, 3) := by decide +kernel
theorem dX6_copyFrom_139 : decode cX6_copyFrom 139 = .ok (.return_, 1) := by decide +kernel
noncomputable def o_X6_copyFrom (τ : cT) (n : Nat) (b : Nat) (a1 : Nat) (s : cS) : Option (cS) := (some (cp (cp s (b + 121) 0 (s.1 (a1 + 121) 0)) (b + 121) 1 ((cp s (b + 121) 0 (s.1 (a1 + 121) 0)).1 (a1 + 121) 1))).bind fun x1 => ((some (cc (cp x1 (b + 121) 2 (x1.1 (a1 + 121) 2)) (a1 + 122) (b + 122) 30)).bind fun x2 => ((some (cp (cc (cc x2 (a1 + 123) (b + 123) 30) (a1 + 124) (b + 124) 30) (b + 121) 6 ((cc (cc x2 (a1 + 123) (b + 123) 30) (a1 + 124) (b + 124) 30).1 (a1 + 121) 6))).bind fun x3 => ((some (cc (cc (cc x3 (a1 + 125) (b + 125) 20) (a1 + 126) (b + 126) 20) (a1 + 127) (b + 127) 20)).bind fun x4 => ((some (cc (cc (cc x4 (a1 + 128) (b + 128) 20) (a1 + 129) (b + 129) 20) (a1 + 130) (b + 130) 20)).bind fun x5 => (some (cp x5 (b + 121) 13 (x5.1 (a1 + 121) 13)))))))
set_option maxHeartbeats 4000000 in
theorem t_X6_copyFrom {Γ : jg_G} {g : Nat → jg_C} (τ : cT) (n : Nat) (b : Nat) (a1 : Nat) (s : cS) (hB : Bd τ n b) (h1 : Bd τ n a1) {x : cS} (h : o_X6_copyFrom τ n b a1 s = some x) : jc Γ mX6_copyFrom 2 0 0 [some (.ref (b + 121)), some (.ref (a1 + 121))] (ct_h g τ s, n) (.inl none) (ct_h g τ x, n) := by
  refine jc_of ?_
  rw [o_X6_copyFrom] at h
  refine jg_aload_n dX6_copyFrom_0 rfl ?_
  refine jg_aload_n dX6_copyFrom_1 rfl ?_
  refine cs_get (s := s) (w := .int (s.1 (a1 + 121) 0)) fl_X6_39 dX6_copyFrom_2 (h1.ob 121 (by decide) rfl) rfl ?_
  refine cs_put (s := s) (k := 0) (x := (s.1 (a1 + 121) 0)) fl_X6_39 dX6_copyFrom_5 (hB.ob 121 (by decide) rfl) (ltb rfl) (rfl) rfl rfl ?_
  refine jg_aload_n dX6_copyFrom_8 rfl ?_
  refine jg_aload_n dX6_copyFrom_9 rfl ?_
  refine cs_get (s := (cp s (b + 121) 0 (s.1 (a1 + 121) 0))) (w := .int ((cp s (b + 121) 0 (s.1 (a1 + 121) 0)).1 (a1 + 121) 1)) fl_X6_43 dX6_copyFrom_10 (h1.ob 121 (by decide) rfl) rfl ?_
  refine cs_put (s := (cp s (b + 121) 0 (s.1 (a1 + 121) 0))) (k := 1) (x := ((cp s (b + 121) 0 (s.1 (a1 + 121) 0)).1 (a1 + 121) 1)) fl_X6_43 dX6_copyFrom_13 (hB.ob 121 (by decide) rfl) (ltb rfl) (rfl) rfl rfl ?_
  obtain ⟨x1, e_x1, h⟩ := bd_some h
  refine cs_sub (Option.some.inj e_x1) ?_
  refine jg_aload_n dX6_copyFrom_16 rfl ?_
  refine jg_aload_n dX6_copyFrom_17 rfl ?_
  refine cs_get (s := x1) (w := .int (x1.1 (a1 + 121) 2)) fl_X6_46 dX6_copyFrom_18 (h1.ob 121 (by decide) rfl) rfl ?_
  refine cs_put (s := x1) (k := 2) (x := (x1.1 (a1 + 121) 2)) fl_X6_46 dX6_copyFrom_21 (hB.ob 121 (by decide) rfl) (ltb rfl) (rfl) rfl rfl ?_
  refine jg_aload_n dX6_copyFrom_24 rfl ?_
  refine cs_get (s := (cp x1 (b + 121) 2 (x1.1 (a1 + 121) 2))) (w := .ref (a1 + 122)) fl_X6_9 dX6_copyFrom_25 (h1.ob 121 (by decide) rfl) rfl ?_
  refine jg_aload_n dX6_copyFrom_28 rfl ?_
  refine cs_get (s := (cp x1 (b + 121) 2 (x1.1 (a1 + 121) 2))) (w := .ref (b + 122)) fl_X6_9 dX6_copyFrom_29 (hB.ob 121 (by decide) rfl) rfl ?_
  refine cs_callN (As := [.ref (a1 + 122), .ref (b + 122)]) kw_X6_49 dX6_copyFrom_32 rfl (by decide) (Nat.le_of_ble_eq_true rfl) rfl (by decide) (Nat.le_of_ble_eq_true rfl) (t_copyRow (cp x1 (b + 121) 2 (x1.1 (a1 + 121) 2)) (a1 + 122) (b + 122) 30 (by decide) (h1.ar 122 (by decide) rfl) (hB.ar 122 (by decide) rfl)) ?_
  obtain ⟨x2, e_x2, h⟩ := bd_some h
  refine cs_sub (Option.some.inj e_x2) ?_
  refine jg_aload_n dX6_copyFrom_35 rfl ?_
  refine cs_get (s := x2) (w := .ref (a1 + 123)) fl_X6_15 dX6_copyFrom_36 (h1.ob 121 (by decide) rfl) rfl ?_
  refine jg_aload_n dX6_copyFrom_39 rfl ?_
  refine cs_get (s := x2) (w := .ref (b + 123)) fl_X6_15 dX6_copyFrom_40 (hB.ob 121 (by decide) rfl) rfl ?_
  refine cs_callN (As := [.ref (a1 + 123), .ref (b + 123)]) kw_X6_49 dX6_copyFrom_43 rfl (by decide) (Nat.le_of_ble_eq_true rfl) rfl (by decide) (Nat.le_of_ble_eq_true rfl) (t_copyRow x2 (a1 + 123) (b + 123) 30 (by decide) (h1.ar 123 (by decide) rfl) (hB.ar 123 (by decide) rfl)) ?_
  refine jg_aload_n dX6_copyFrom_46 rfl ?_
  refine cs_get (s := (cc x2 (a1 + 123) (b + 123) 30)) (w := .ref (a1 + 124)) fl_X6_18 dX6_copyFrom_47 (h1.ob 121 (by decide) rfl) rfl ?_
  refine jg_aload_n dX6_copyFrom_50 rfl ?_
  refine cs_get (s := (cc x2 (a1 + 123) (b + 123) 30)) (w := .ref (b + 124)) fl_X6_18 dX6_copyFrom_51 (hB.ob 121 (by decide) rfl) rfl ?_
  refine cs_callN (As := [.ref (a1 + 124), .ref (b + 124)]) kw_X6_49 dX6_copyFrom_54 rfl (by decide) (Nat.le_of_ble_eq_true rfl) rfl (by decide) (Nat.le_of_ble_eq_true rfl) (t_copyRow (cc x2 (a1 + 123) (b + 123) 30) (a1 + 124) (b + 124) 30 (by decide) (h1.ar 124 (by decide) rfl) (hB.ar 124 (by decide) rfl)) ?_
  refine jg_aload_n dX6_copyFrom_57 rfl ?_
  refine jg_aload_n dX6_copyFrom_58 rfl ?_
  refine cs_get (s := (cc (cc x2 (a1 + 123) (b + 123) 30) (a1 + 124) (b + 124) 30)) (w := .int ((cc (cc x2 (a1 + 123) (b + 123) 30) (a1 + 124) (b + 124) 30).1 (a1 + 121) 6)) fl_X6_53 dX6_copyFrom_59 (h1.ob 121 (by decide) rfl) rfl ?_
  refine cs_put (s := (cc (cc x2 (a1 + 123) (b + 123) 30) (a1 + 124) (b + 124) 30)) (k := 6) (x := ((cc (cc x2 (a1 + 123) (b + 123) 30) (a1 + 124) (b + 124) 30).1 (a1 + 121) 6)) fl_X6_53 dX6_copyFrom_62 (hB.ob 121 (by decide) rfl) (ltb rfl) (rfl) rfl rfl ?_
  obtain ⟨x3, e_x3, h⟩ := bd_some h
  refine cs_sub (Option.some.inj e_x3) ?_
  refine jg_aload_n dX6_copyFrom_65 rfl ?_
  refine cs_get (s := x3) (w := .ref (a1 + 125)) fl_X6_21 dX6_copyFrom_66 (h1.ob 121 (by decide) rfl) rfl ?_
  refine jg_aload_n dX6_copyFrom_69 rfl ?_
  refine cs_get (s := x3) (w := .ref (b + 125)) fl_X6_21 dX6_copyFrom_70 (hB.ob 121 (by decide) rfl) rfl ?_
  refine cs_callN (As := [.ref (a1 + 125), .ref (b + 125)]) kw_X6_49 dX6_copyFrom_73 rfl (by decide) (Nat.le_of_ble_eq_true rfl) rfl (by decide) (Nat.le_of_ble_eq_true rfl) (t_copyRow x3 (a1 + 125) (b + 125) 20 (by decide) (h1.ar 125 (by decide) rfl) (hB.ar 125 (by decide) rfl)) ?_
  refine jg_aload_n dX6_copyFrom_76 rfl ?_
  refine cs_get (s := (cc x3 (a1 + 125) (b + 125) 20)) (w := .ref (a1 + 126)) fl_X6_24 dX6_copyFrom_77 (h1.ob 121 (by decide) rfl) rfl ?_
  refine jg_aload_n dX6_copyFrom_80 rfl ?_
  refine cs_get (s := (cc x3 (a1 + 125) (b + 125) 20)) (w := .ref (b + 126)) fl_X6_24 dX6_copyFrom_81 (hB.ob 121 (by decide) rfl) rfl ?_
  refine cs_callN (As := [.ref (a1 + 126), .ref (b + 126)]) kw_X6_49 dX6_copyFrom_84 rfl (by decide) (Nat.le_of_ble_eq_true rfl) rfl (by decide) (Nat.le_of_ble_eq_true rfl) (t_copyRow (cc x3 (a1 + 125) (b + 125) 20) (a1 + 126) (b + 126) 20 (by decide) (h1.ar 126 (by decide) rfl) (hB.ar 126 (by decide) rfl)) ?_
  refine jg_aload_n dX6_copyFrom_87 rfl ?_
  refine cs_get (s := (cc (cc x3 (a1 + 125) (b + 125) 20) (a1 + 126) (b + 126) 20)) (w := .ref (a1 + 127)) fl_X6_27 dX6_copyFrom_88 (h1.ob 121 (by decide) rfl) rfl ?_
  refine jg_aload_n dX6_copyFrom_91 rfl ?_
  refine cs_get (s := (cc (cc x3 (a1 + 125) (b + 125) 20) (a1 + 126) (b + 126) 20)) (w := .ref (b + 127)) fl_X6_27 dX6_copyFrom_92 (hB.ob 121 (by decide) rfl) rfl ?_
  refine cs_callN (As := [.ref (a1 + 127), .ref (b + 127)]) kw_X6_49 dX6_copyFrom_95 rfl (by decide) (Nat.le_of_ble_eq_true rfl) rfl (by decide) (Nat.le_of_ble_eq_true rfl) (t_copyRow (cc (cc x3 (a1 + 125) (b + 125) 20) (a1 + 126) (b + 126) 20) (a1 + 127) (b + 127) 20 (by decide) (h1.ar 127 (by decide) rfl) (hB.ar 127 (by decide) rfl)) ?_
  obtain ⟨x4, e_x4, h⟩ := bd_some h
  refine cs_sub (Option.some.inj e_x4) ?_
  refine jg_aload_n dX6_copyFrom_98 rfl ?_
  refine cs_get (s := x4) (w := .ref (a1 + 128)) fl_X6_30 dX6_copyFrom_99 (h1.ob 121 (by decide) rfl) rfl ?_
  refine jg_aload_n dX6_copyFrom_102 rfl ?_
  refine cs_get (s := x4) (w := .ref (b + 128)) fl_X6_30 dX6_copyFrom_103 (hB.ob 121 (by decide) rfl) rfl ?_
  refine cs_callN (As := [.ref (a1 + 128), .ref (b + 128)]) kw_X6_49 dX6_copyFrom_106 rfl (by decide) (Nat.le_of_ble_eq_true rfl) rfl (by decide) (Nat.le_of_ble_eq_true rfl) (t_copyRow x4 (a1 + 128) (b + 128) 20 (by decide) (h1.ar 128 (by decide) rfl) (hB.ar 128 (by decide) rfl)) ?_
  refine jg_aload_n dX6_copyFrom_109 rfl ?_
  refine cs_get (s := (cc x4 (a1 + 128) (b + 128) 20)) (w := .ref (a1 + 129)) fl_X6_33 dX6_copyFrom_110 (h1.ob 121 (by decide) rfl) rfl ?_
  refine jg_aload_n dX6_copyFrom_113 rfl ?_
  refine cs_get (s := (cc x4 (a1 + 128) (b + 128) 20)) (w := .ref (b + 129)) fl_X6_33 dX6_copyFrom_114 (hB.ob 121 (by decide) rfl) rfl ?_
  refine cs_callN (As := [.ref (a1 + 129), .ref (b + 129)]) kw_X6_49 dX6_copyFrom_117 rfl (by decide) (Nat.le_of_ble_eq_true rfl) rfl (by decide) (Nat.le_of_ble_eq_true rfl) (t_copyRow (cc x4 (a1 + 128) (b + 128) 20) (a1 + 129) (b + 129) 20 (by decide) (h1.ar 129 (by decide) rfl) (hB.ar 129 (by decide) rfl)) ?_
  refine jg_aload_n dX6_copyFrom_120 rfl ?_
  refine cs_get (s := (cc (cc x4 (a1 + 128) (b + 128) 20) (a1 + 129) (b + 129) 20)) (w := .ref (a1 + 130)) fl_X6_36 dX6_copyFrom_121 (h1.ob 121 (by decide) rfl) rfl ?_
  refine jg_aload_n dX6_copyFrom_124 rfl ?_
  refine cs_get (s := (cc (cc x4 (a1 + 128) (b + 128) 20) (a1 + 129) (b + 129) 20)) (w := .ref (b + 130)) fl_X6_36 dX6_copyFrom_125 (hB.ob 121 (by decide) rfl) rfl ?_
  refine cs_callN (As := [.ref (a1 + 130), .ref (b + 130)]) kw_X6_49 dX6_copyFrom_128 rfl (by decide) (Nat.le_of_ble_eq_true rfl) rfl (by decide) (Nat.le_of_ble_eq_true rfl) (t_copyRow (cc (cc x4 (a1 + 128) (b + 128) 20) (a1 + 129) (b + 129) 20) (a1 + 130) (b + 130) 20 (by decide) (h1.ar 130 (by decide) rfl) (hB.ar 130 (by decide) rfl)) ?_
  obtain ⟨x5, e_x5, h⟩ := bd_some h
  refine cs_sub (Option.some.inj e_x5) ?_
  refine jg_aload_n dX6_copyFrom_131 rfl ?_
  refine jg_aload_n dX6_copyFrom_132 rfl ?_
  refine cs_get (s := x5) (w := .int (x5.1 (a1 + 121) 13)) fl_X6_56 dX6_copyFrom_133 (h1.ob 121 (by decide) rfl) rfl ?_
  refine cs_put (s := x5) (k := 13) (x := (x5.1 (a1 + 121) 13)) fl_X6_56 dX6_copyFrom_136 (hB.ob 121 (by decide) rfl) (ltb rfl) (rfl) rfl rfl ?_
  obtain rfl := Option.some.inj h
  exact jg_return dX6_copyFrom_139 rfl ⟨rfl, rfl⟩
theorem dX3_copyFrom_0 : decode cX3_copyFrom 0 = .ok (.aload_n 0, 1) := by decide +kernel
theorem dX3_copyFrom_1 : decode cX3_copyFrom 1 = .ok (.aload_n 1, 1) := by decide +kernel
theorem dX3_copyFrom_2 : decode cX3_copyFrom 2 = .ok (.getfield 35, 3) := by decide +kernel
theorem dX3_copyFrom_5 : decode cX3_copyFrom 5 = .ok (.putfield 35, 3) := by decide +kernel
theorem dX3_copyFrom_8 : decode cX3_copyFrom 8 = .ok (.iconst 0, 1) := by decide +kernel
theorem dX3_copyFrom_9 : decode cX3_copyFrom 9 = .ok (.istore_n 2, 1) := by decide +kernel
theorem dX3_copyFrom_10 : decode cX3_copyFrom 10 = .ok (.iload_n 2, 1) := by decide +kernel
theorem dX3_copyFrom_11 : decode cX3_copyFrom 11 = .ok (.aload_n 0, 1) := by decide +kernel
theorem dX3_copyFrom_12 : decode cX3_copyFrom 12 = .ok (.getfield 35, 3) := by decide +kernel
theorem dX3_copyFrom_15 : decode cX3_copyFrom 15 = .ok (.if_icmp .ge 21, 3) := by decide +kernel
theorem dX3_copyFrom_18 : decode cX3_copyFrom 18 = .ok (.aload_n 0, 1) := by decide +kernel
theorem dX3_copyFrom_19 : decode cX3_copyFrom 19 = .ok (.getfield 20, 3) := by decide +kernel
theorem dX3_copyFrom_22 : decode cX3_copyFrom 22 = .ok (.iload_n 2, 1) := by decide +kernel
theorem dX3_copyFrom_23 : decode cX3_copyFrom 23 = .ok (.aload_n 1, 1) := by decide +kernel
theorem dX3_copyFrom_24 : decode cX3_copyFrom 24 = .ok (.getfield 20, 3) := by decide +kernel
theorem dX3_copyFrom_27 : decode cX3_copyFrom 27 = .ok (.iload_n 2, 1) := by decide +kernel
theorem dX3_copyFrom_28 : decode cX3_copyFrom 28 = .ok (.aaload, 1) := by decide +kernel
theorem dX3_copyFrom_29 : decode cX3_copyFrom 29 = .ok (.aastore, 1) := by decide +kernel
theorem dX3_copyFrom_30 : decode cX3_copyFrom 30 = .ok (.iinc 2 1, 3) := by decide +kernel
theorem dX3_copyFrom_33 : decode cX3_copyFrom 33 = .ok (.goto (-23), 3) := by decide +kernel
theorem dX3_copyFrom_36 : decode cX3_copyFrom 36 = .ok (.aload_n 1, 1) := by decide +kernel
theorem dX3_copyFrom_37 : decode cX3_copyFrom 37 = .ok (.getfield 24, 3) := by decide +kernel
theorem dX3_copyFrom_40 : decode cX3_copyFrom 40 = .ok (.aload_n 0, 1) := by decide +kernel
theorem dX3_copyFrom_41 : decode cX3_copyFrom 41 = .ok (.getfield 24, 3) := by decide +kernel
theorem dX3_copyFrom_44 : decode cX3_copyFrom 44 = .ok (.invokestatic 39, 3) := by decide +kernel
theorem dX3_copyFrom_47 : decode cX3_copyFrom 47 = .ok (.aload_n 0, 1) := by decide +kernel
theorem dX3_copyFrom_48 : decode cX3_copyFrom 48 = .ok (.aload_n 1, 1) := by decide +kernel
theorem dX3_copyFrom_49 : decode cX3_copyFrom 49 = .ok (.getfield 43, 3) := by decide +kernel
theorem dX3_copyFrom_52 : decode cX3_copyFrom 52 = .ok (.putfield 43, 3) := by decide +kernel
theorem dX3_copyFrom_55 : decode cX3_copyFrom 55 = .ok (.aload_n 0, 1) := by decide +kernel
theorem dX3_copyFrom_56 : decode cX3_copyFrom 56 = .ok (.aload_n 1, 1) := by decide +kernel
theorem dX3_copyFrom_57 : decode cX3_copyFrom 57 = .ok (.getfield 28, 3) := by decide +kernel
theorem dX3_copyFrom_60 : decode cX3_copyFrom 60 = .ok (.putfield 28, 3) := by decide +kernel
theorem dX3_copyFrom_63 : decode cX3_copyFrom 63 = .ok (.aload_n 0, 1) := by decide +kernel
theorem dX3_copyFrom_64 : decode cX3_copyFrom 64 = .ok (.aload_n 1, 1) := by decide +kernel
theorem dX3_copyFrom_65 : decode cX3_copyFrom 65 = .ok (.getfield 47, 3) := by decide +kernel
theorem dX3_copyFrom_68 : decode cX3_copyFrom 68 = .ok (.putfield 47, 3) := by decide +kernel
theorem dX3_copyFrom_71 : decode cX3_copyFrom 71 = .ok (.iconst 0, 1) := by decide +kernel
theorem dX3_copyFrom_72 : decode cX3_copyFrom 72 = .ok (.istore_n 2, 1) := by decide +kernel
theorem dX3_copyFrom_73 : decode cX3_copyFrom 73 = .ok (.iload_n 2, 1) := by decide +kernel
theorem dX3_copyFrom_74 : decode cX3_copyFrom 74 = .ok (.bipush 30, 2) := by decide +kernel
theorem dX3_copyFrom_76 : decode cX3_copyFrom 76 = .ok (.if_icmp .ge 21, 3) := by decide +kernel
theorem dX3_copyFrom_79 : decode cX3_copyFrom 79 = .ok (.aload_n 0, 1) := by decide +kernel
theorem dX3_copyFrom_80 : decode cX3_copyFrom 80 = .ok (.getfield 31, 3) := by decide +kernel
theorem dX3_copyFrom_83 : decode cX3_copyFrom 83 = .ok (.iload_n 2, 1) := by decide +kernel
theorem dX3_copyFrom_84 : decode cX3_copyFrom 84 = .ok (.aload_n 1, 1) := by decide +kernel
theorem dX3_copyFrom_85 : decode cX3_copyFrom 85 = .ok (.getfield 31, 3) := by decide +kernel
theorem dX3_copyFrom_88 : decode cX3_copyFrom 88 = .ok (.iload_n 2, 1) := by decide +kernel
theorem dX3_copyFrom_89 : decode cX3_copyFrom 89 = .ok (.baload, 1) := by decide +kernel
theorem dX3_copyFrom_90 : decode cX3_copyFrom 90 = .ok (.bastore, 1) := by decide +kernel
theorem dX3_copyFrom_91 : decode cX3_copyFrom 91 = .ok (.iinc 2 1, 3) := by decide +kernel
theorem dX3_copyFrom_94 : decode cX3_copyFrom 94 = .ok (.goto (-21), 3) := by decide +kernel
theorem dX3_copyFrom_97 : decode cX3_copyFrom 97 = .ok (.aload_n 0, 1) := by decide +kernel
theorem dX3_copyFrom_98 : decode cX3_copyFrom 98 = .ok (.aload_n 1, 1) := by decide +kernel
theorem dX3_copyFrom_99 : decode cX3_copyFrom 99 = .ok (.getfield 50, 3) := by decide +kernel
theorem dX3_copyFrom_102 : decode cX3_copyFrom 102 = .ok (.putfield 50, 3) := by decide +kernel
theorem dX3_copyFrom_105 : decode cX3_copyFrom 105 = .ok (.aload_n 0, 1) := by decide +kernel
theorem dX3_copyFrom_106 : decode cX3_copyFrom 106 = .ok (.aload_n 1, 1) := by decide +kernel
theorem dX3_copyFrom_107 : decode cX3_copyFrom 107 = .ok (.getfield 53, 3) := by decide +kernel
theorem dX3_copyFrom_110 : decode cX3_copyFrom 110 = .ok (.putfield 53, 3) := by decide +kernel
theorem dX3_copyFrom_113 : decode cX3_copyFrom 113 = .ok (.return_, 1) := by decide +kernel
noncomputable def o_X3_copyFrom_10 (F : Nat) (τ : cT) (n : Nat) (b : Nat) (a1 : Nat)  : Nat → Int32 → cS → Option (cS)
  | 0, _, _ => none
  | f + 1, l2, s => if (s.1 (b + 17) 3) ≤ l2 then (some s) else (if iL l2 20 then ((s.2 (a1 + 24) l2.toNatClampNeg).bind fun x3 => (if acb τ n x3 = true then (o_X3_copyFrom_10 F τ n b a1 f (l2 + nI 1) (cq s (b + 24) l2.toNatClampNeg (some x3))) else none)) else none)
set_option maxHeartbeats 4000000 in
theorem t_X3_copyFrom_10 {Γ : jg_G} {g : Nat → jg_C} (F : Nat) (τ : cT) (n : Nat) (b : Nat) (a1 : Nat)  (hB : Bd τ n b) (h1 : Bd τ n a1) (Q : jg_Q) {x : cS} (K1 : jg Γ mX3_copyFrom 2 0 0 36 [some (.ref (b + 17)), some (.ref (a1 + 17)), none] [] (ct_h g τ x, n) Q)  : ∀ (f : Nat) (l2 : Int32) (s : cS), o_X3_copyFrom_10 F τ n b a1 f l2 s = some x → jg Γ mX3_copyFrom 2 0 0 10 [some (.ref (b + 17)), some (.ref (a1 + 17)), some (.int l2)] [] (ct_h g τ s, n) Q := by
  intro f
  induction f with
  | zero => intro l2 s h; rw [o_X3_copyFrom_10] at h; cases h
  | succ f ih =>
   intro l2 s h
   rw [o_X3_copyFrom_10] at h
   refine jg_iload_n dX3_copyFrom_10 rfl ?_
   refine jg_aload_n dX3_copyFrom_11 rfl ?_
   refine cs_get (s := s) (w := .int (s.1 (b + 17) 3)) fl_X3_35 dX3_copyFrom_12 (hB.ob 17 (by decide) rfl) rfl ?_
   refine jg_icmp_ge (x := l2) (y := (s.1 (b + 17) 3)) (tgt := 36) dX3_copyFrom_15 (by decide) (fun c1 => ?_) (fun c1 => ?_)
   · replace h := it_t c1 h
     refine jg_fg (L' := [some (.ref (b + 17)), some (.ref (a1 + 17)), none]) (by repeat (first | exact trivial | refine ⟨rfl, ?_⟩ | show jg_le _ _)) ?_
     obtain rfl := Option.some.inj h
     exact K1
   · replace h := it_f c1 h
     refine jg_aload_n dX3_copyFrom_18 rfl ?_
     refine cs_get (s := s) (w := .ref (b + 24)) fl_X3_20 dX3_copyFrom_19 (hB.ob 17 (by decide) rfl) rfl ?_
     refine jg_iload_n dX3_copyFrom_22 rfl ?_
     refine jg_aload_n dX3_copyFrom_23 rfl ?_
     refine cs_get (s := s) (w := .ref (a1 + 24)) fl_X3_20 dX3_copyFrom_24 (h1.ob 17 (by decide) rfl) rfl ?_
     refine jg_iload_n dX3_copyFrom_27 rfl ?_
     obtain ⟨q2, h⟩ := gd_some h
     obtain ⟨x3, e_x3, h⟩ := bd_some h
     obtain ⟨q4, h⟩ := gd_some h
     refine cs_ldt (s := s) (q := (a1 + 24)) (i := l2) dX3_copyFrom_28 (h1.ar 24 (by decide) rfl) q2 e_x3 ?_
     refine cs_stt (s := s) (q := (b + 24)) (i := l2) (y := x3) dX3_copyFrom_29 (hB.ar 24 (by decide) rfl) q2 (acb_ob q4) ?_
     refine jg_iinc (x := l2) (v := l2 + nI 1) (L' := [some (.ref (b + 17)), some (.ref (a1 + 17)), some (.int (l2 + nI 1))]) dX3_copyFrom_30 rfl (ic_k _ (by decide)) (by decide) rfl ?_
     refine jg_goto (tgt := 10) dX3_copyFrom_33 (by decide) ?_
     refine jg_fg (L' := [some (.ref (b + 17)), some (.ref (a1 + 17)), some (.int (l2 + nI 1))]) (by repeat (first | exact trivial | refine ⟨rfl, ?_⟩ | show jg_le _ _)) ?_
     exact ih (l2 + nI 1) (cq s (b + 24) l2.toNatClampNeg (some x3)) h
noncomputable def o_X3_copyFrom_73 (F : Nat) (τ : cT) (n : Nat) (b : Nat) (a1 : Nat)  : Nat → Int32 → cS → Option (cS)
  | 0, _, _ => none
  | f + 1, l2, s => if (nI 30) ≤ l2 then (some s) else (if iL l2 30 then (o_X3_copyFrom_73 F τ n b a1 f (l2 + nI 1) (ca s (b + 26) l2 (vp_nar .boolean (cg s (a1 + 26) l2)))) else none)
set_option maxHeartbeats 4000000 in
theorem t_X3_copyFrom_73 {Γ : jg_G} {g : Nat → jg_C} (F : Nat) (τ : cT) (n : Nat) (b : Nat) (a1 : Nat)  (hB : Bd τ n b) (h1 : Bd τ n a1) (Q : jg_Q) {x : cS} (K1 : jg Γ mX3_copyFrom 2 0 0 97 [some (.ref (b + 17)), some (.ref (a1 + 17)), none] [] (ct_h g τ x, n) Q)  : ∀ (f : Nat) (l2 : Int32) (s : cS), o_X3_copyFrom_73 F τ n b a1 f l2 s = some x → jg Γ mX3_copyFrom 2 0 0 73 [some (.ref (b + 17)), some (.ref (a1 + 17)), some (.int l2)] [] (ct_h g τ s, n) Q := by
  intro f
  induction f with
  | zero => intro l2 s h; rw [o_X3_copyFrom_73] at h; cases h
  | succ f ih =>
   intro l2 s h
   rw [o_X3_copyFrom_73] at h
   refine jg_iload_n dX3_copyFrom_73 rfl ?_
   refine jg_bipush (v := nI 30) dX3_copyFrom_74 (by decide) ?_
   refine jg_icmp_ge (x := l2) (y := (nI 30)) (tgt := 97) dX3_copyFrom_76 (by decide) (fun c11 => ?_) (fun c11 => ?_)
   · replace h := it_t c11 h
     refine jg_fg (L' := [some (.ref (b + 17)), some (.ref (a1 + 17)), none]) (by repeat (first | exact trivial | refine ⟨rfl, ?_⟩ | show jg_le _ _)) ?_
     obtain rfl := Option.some.inj h
     exact K1
   · replace h := it_f c11 h
     refine jg_aload_n dX3_copyFrom_79 rfl ?_
     refine cs_get (s := s) (w := .ref (b + 26)) fl_X3_31 dX3_copyFrom_80 (hB.ob 17 (by decide) rfl) rfl ?_
     refine jg_iload_n dX3_copyFrom_83 rfl ?_
     refine jg_aload_n dX3_copyFrom_84 rfl ?_
     refine cs_get (s := s) (w := .ref (a1 + 26)) fl_X3_31 dX3_copyFrom_85 (h1.ob 17 (by decide) rfl) rfl ?_
     refine jg_iload_n dX3_copyFrom_88 rfl ?_
     obtain ⟨q12, h⟩ := gd_some h
     refine cs_ldz (s := s) (q := (a1 + 26)) (i := l2) dX3_copyFrom_89 (h1.ar 26 (by decide) rfl) q12 ?_
     refine cs_stz (s := s) (q := (b + 26)) (i := l2) (x := (cg s (a1 + 26) l2)) dX3_copyFrom_90 (hB.ar 26 (by decide) rfl) q12 ?_
     refine jg_iinc (x := l2) (v := l2 + nI 1) (L' := [some (.ref (b + 17)), some (.ref (a1 + 17)), some (.int (l2 + nI 1))]) dX3_copyFrom_91 rfl (ic_k _ (by decide)) (by decide) rfl ?_
     refine jg_goto (tgt := 73) dX3_copyFrom_94 (by decide) ?_
     refine jg_fg (L' := [some (.ref (b + 17)), some (.ref (a1 + 17)), some (.int (l2 + nI 1))]) (by repeat (first | exact trivial | refine ⟨rfl, ?_⟩ | show jg_le _ _)) ?_
     exact ih (l2 + nI 1) (ca s (b + 26) l2 (vp_nar .boolean (cg s (a1 + 26) l2))) h
noncomputable def o_X3_copyFrom (F : Nat) (τ : cT) (n : Nat) (b : Nat) (a1 : Nat) (s : cS) : Option (cS) := (o_X3_copyFrom_10 F τ n b a1 F (nI 0) (cp s (b + 17) 3 (s.1 (a1 + 17) 3))).bind fun x5 => (if zb ((cc x5 (a1 + 25) (b + 25) 20).1 (a1 + 17) 4) then ((some (cp (cc x5 (a1 + 25) (b + 25) 20) (b + 17) 4 ((cc x5 (a1 + 25) (b + 25) 20).1 (a1 + 17) 4))).bind fun x7 => ((x7.2 (a1 + 17) 5).bind fun x8 => (if acb τ n x8 = true then ((some (cp (cq x7 (b + 17) 5 (some x8)) (b + 17) 6 ((cq x7 (b + 17) 5 (some x8)).1 (a1 + 17) 6))).bind fun x10 => ((o_X3_copyFrom_73 F τ n b a1 F (nI 0) x10).bind fun x13 => ((some (cp (cp x13 (b + 17) 8 (x13.1 (a1 + 17) 8)) (b + 17) 9 ((cp x13 (b + 17) 8 (x13.1 (a1 + 17) 8)).1 (a1 + 17) 9))).bind fun x14 => (some x14)))) else none))) else none)
set_option maxHeartbeats 4000000 in
theorem t_X3_copyFrom {Γ : jg_G} {g : Nat → jg_C} (F : Nat) (τ : cT) (n : Nat) (b : Nat) (a1 : Nat) (s : cS) (hB : Bd τ n b) (h1 : Bd τ n a1) {x : cS} (h : o_X3_copyFrom F τ n b a1 s = some x) : jc Γ mX3_copyFrom 2 0 0 [some (.ref (b + 17)), some (.ref (a1 + 17)), none] (ct_h g τ s, n) (.inl none) (ct_h g τ x, n) := by
  refine jc_of ?_
  rw [o_X3_copyFrom] at h
  refine jg_aload_n dX3_copyFrom_0 rfl ?_
  refine jg_aload_n dX3_copyFrom_1 rfl ?_
  refine cs_get (s := s) (w := .int (s.1 (a1 + 17) 3)) fl_X3_35 dX3_copyFrom_2 (h1.ob 17 (by decide) rfl) rfl ?_
  refine cs_put (s := s) (k := 3) (x := (s.1 (a1 + 17) 3)) fl_X3_35 dX3_copyFrom_5 (hB.ob 17 (by decide) rfl) (ltb rfl) (rfl) rfl rfl ?_
  refine jg_iconst (v := nI 0) dX3_copyFrom_8 (by decide) ?_
  refine jg_istore_n (L' := [some (.ref (b + 17)), some (.ref (a1 + 17)), some (.int (nI 0))]) dX3_copyFrom_9 (by decide) rfl ?_
  obtain ⟨x5, e_x5, h⟩ := bd_some h
  refine jg_fg (L' := [some (.ref (b + 17)), some (.ref (a1 + 17)), some (.int (nI 0))]) (by repeat (first | exact trivial | refine ⟨rfl, ?_⟩ | show jg_le _ _)) ?_
  refine t_X3_copyFrom_10  F τ n b a1 hB h1 _ (x := x5) ?_ F (nI 0) (cp s (b + 17) 3 (s.1 (a1 + 17) 3)) e_x5
  refine jg_aload_n dX3_copyFrom_36 rfl ?_
  refine cs_get (s := x5) (w := .ref (a1 + 25)) fl_X3_24 dX3_copyFrom_37 (h1.ob 17 (by decide) rfl) rfl ?_
  refine jg_aload_n dX3_copyFrom_40 rfl ?_
  refine cs_get (s := x5) (w := .ref (b + 25)) fl_X3_24 dX3_copyFrom_41 (hB.ob 17 (by decide) rfl) rfl ?_
  refine cs_callN (As := [.ref (a1 + 25), .ref (b + 25)]) kw_X3_39 dX3_copyFrom_44 rfl (by decide) (Nat.le_of_ble_eq_true rfl) rfl (by decide) (Nat.le_of_ble_eq_true rfl) (t_copyRow x5 (a1 + 25) (b + 25) 20 (by decide) (h1.ar 25 (by decide) rfl) (hB.ar 25 (by decide) rfl)) ?_
  refine jg_aload_n dX3_copyFrom_47 rfl ?_
  refine jg_aload_n dX3_copyFrom_48 rfl ?_
  refine cs_get (s := (cc x5 (a1 + 25) (b + 25) 20)) (w := .int ((cc x5 (a1 + 25) (b + 25) 20).1 (a1 + 17) 4)) fl_X3_43 dX3_copyFrom_49 (h1.ob 17 (by decide) rfl) rfl ?_
  obtain ⟨q6, h⟩ := gd_some h
  refine cs_put (s := (cc x5 (a1 + 25) (b + 25) 20)) (k := 4) (x := ((cc x5 (a1 + 25) (b + 25) 20).1 (a1 + 17) 4)) fl_X3_43 dX3_copyFrom_52 (hB.ob 17 (by decide) rfl) (ltb rfl) (zb_nar q6) (zb_fits q6) rfl ?_
  obtain ⟨x7, e_x7, h⟩ := bd_some h
  refine cs_sub (Option.some.inj e_x7) ?_
  refine jg_aload_n dX3_copyFrom_55 rfl ?_
  refine jg_aload_n dX3_copyFrom_56 rfl ?_
  obtain ⟨x8, e_x8, h⟩ := bd_some h
  obtain ⟨q9, h⟩ := gd_some h
  refine cs_get (s := x7) (w := .ref x8) fl_X3_28 dX3_copyFrom_57 (h1.ob 17 (by decide) rfl) (by show some (vr (x7.2 (a1 + 17) 5)) = _; rw [e_x8]; rfl) ?_
  refine cs_putr (s := x7) (y := x8) fl_X3_28 dX3_copyFrom_60 (hB.ob 17 (by decide) rfl) (ltb rfl) rfl rfl rfl ?_
  refine jg_aload_n dX3_copyFrom_63 rfl ?_
  refine jg_aload_n dX3_copyFrom_64 rfl ?_
  refine cs_get (s := (cq x7 (b + 17) 5 (some x8))) (w := .int ((cq x7 (b + 17) 5 (some x8)).1 (a1 + 17) 6)) fl_X3_47 dX3_copyFrom_65 (h1.ob 17 (by decide) rfl) rfl ?_
  refine cs_put (s := (cq x7 (b + 17) 5 (some x8))) (k := 6) (x := ((cq x7 (b + 17) 5 (some x8)).1 (a1 + 17) 6)) fl_X3_47 dX3_copyFrom_68 (hB.ob 17 (by decide) rfl) (ltb rfl) (rfl) rfl rfl ?_
  obtain ⟨x10, e_x10, h⟩ := bd_some h
  refine cs_sub (Option.some.inj e_x10) ?_
  refine jg_iconst (v := nI 0) dX3_copyFrom_71 (by decide) ?_
  refine jg_istore_n (L' := [some (.ref (b + 17)), some (.ref (a1 + 17)), some (.int (nI 0))]) dX3_copyFrom_72 (by decide) rfl ?_
  obtain ⟨x13, e_x13, h⟩ := bd_some h
  refine jg_fg (L' := [some (.ref (b + 17)), some (.ref (a1 + 17)), some (.int (nI 0))]) (by repeat (first | exact trivial | refine ⟨rfl, ?_⟩ | show jg_le _ _)) ?_
  refine t_X3_copyFrom_73  F τ n b a1 hB h1 _ (x := x13) ?_ F (nI 0) x10 e_x13
  refine jg_aload_n dX3_copyFrom_97 rfl ?_
  refine jg_aload_n dX3_copyFrom_98 rfl ?_
  refine cs_get (s := x13) (w := .int (x13.1 (a1 + 17) 8)) fl_X3_50 dX3_copyFrom_99 (h1.ob 17 (by decide) rfl) rfl ?_
  refine cs_put (s := x13) (k := 8) (x := (x13.1 (a1 + 17) 8)) fl_X3_50 dX3_copyFrom_102 (hB.ob 17 (by decide) rfl) (ltb rfl) (rfl) rfl rfl ?_
  refine jg_aload_n dX3_copyFrom_105 rfl ?_
  refine jg_aload_n dX3_copyFrom_106 rfl ?_
  refine cs_get (s := (cp x13 (b + 17) 8 (x13.1 (a1 + 17) 8))) (w := .int ((cp x13 (b + 17) 8 (x13.1 (a1 + 17) 8)).1 (a1 + 17) 9)) fl_X3_53 dX3_copyFrom_107 (h1.ob 17 (by decide) rfl) rfl ?_
  refine cs_put (s := (cp x13 (b + 17) 8 (x13.1 (a1 + 17) 8))) (k := 9) (x := ((cp x13 (b + 17) 8 (x13.1 (a1 + 17) 8)).1 (a1 + 17) 9)) fl_X3_53 dX3_copyFrom_110 (hB.ob 17 (by decide) rfl) (ltb rfl) (rfl) rfl rfl ?_
  obtain ⟨x14, e_x14, h⟩ := bd_some h
  refine cs_sub (Option.some.inj e_x14) ?_
  obtain rfl := Option.some.inj h
  exact jg_return dX3_copyFrom_113 rfl ⟨rfl, rfl⟩
theorem dX4_copyFrom_0 : decode cX4_copyFrom 0 = .ok (.aload_n 1, 1) := by decide +kernel
theorem dX4_copyFrom_1 : decode cX4_copyFrom 1 = .ok (.getfield 9, 3) := by decide +kernel
theorem dX4_copyFrom_4 : decode cX4_copyFrom 4 = .ok (.aload_n 0, 1) := by decide +kernel
theorem dX4_copyFrom_5 : decode cX4_copyFrom 5 = .ok (.getfield 9, 3) := by decide +kernel
theorem dX4_copyFrom_8 : decode cX4_copyFrom 8 = .ok (.invokestatic 44, 3) := by decide +kernel
theorem dX4_copyFrom_11 : decode cX4_copyFrom 11 = .ok (.aload_n 1, 1) := by decide +kernel
theorem dX4_copyFrom_12 : decode cX4_copyFrom 12 = .ok (.getfield 15, 3) := by decide +kernel
theorem dX4_copyFrom_15 : decode cX4_copyFrom 15 = .ok (.aload_n 0, 1) := by decide +kernel
theorem dX4_copyFrom_16 : decode cX4_copyFrom 16 = .ok (.getfield 15, 3) := by decide +kernel
theorem dX4_copyFrom_19 : decode cX4_copyFrom 19 = .ok (.invokestatic 44, 3) := by decide +kernel
theorem dX4_copyFrom_22 : decode cX4_copyFrom 22 = .ok (.aload_n 1, 1) := by decide +kernel
theorem dX4_copyFrom_23 : decode cX4_copyFrom 23 = .ok (.getfield 18, 3) := by decide +kernel
theorem dX4_copyFrom_26 : decode cX4_copyFrom 26 = .ok (.aload_n 0, 1) := by decide +kernel
theorem dX4_copyFrom_27 : decode cX4_copyFrom 27 = .ok (.getfield 18, 3) := by decide +kernel
theorem dX4_copyFrom_30 : decode cX4_copyFrom 30 = .ok (.invokestatic 44, 3) := by decide +kernel
theorem dX4_copyFrom_33 : decode cX4_copyFrom 33 = .ok (.aload_n 0, 1) := by decide +kernel
theorem dX4_copyFrom_34 : decode cX4_copyFrom 34 = .ok (.aload_n 1, 1) := by decide +kernel
theorem dX4_copyFrom_35 : decode cX4_copyFrom 35 = .ok (.getfield 48, 3) := by decide +kernel
theorem dX4_copyFrom_38 : decode cX4_copyFrom 38 = .ok (.putfield 48, 3) := by decide +kernel
theorem dX4_copyFrom_41 : decode cX4_copyFrom 41 = .ok (.return_, 1) := by decide +kernel
noncomputable def o_X4_copyFrom (τ : cT) (n : Nat) (b : Nat) (a1 : Nat) (s : cS) : Option (cS) := (some (cc (cc (cc s (a1 + 132) (b + 132) 6) (a1 + 133) (b + 133) 6) (a1 + 134) (b + 134) 6)).bind fun x1 => (some (cp x1 (b + 131) 3 (x1.1 (a1 + 131) 3)))
set_option maxHeartbeats 4000000 in
theorem t_X4_copyFrom {Γ : jg_G} {g : Nat → jg_C} (τ : cT) (n : Nat) (b : Nat) (a1 : Nat) (s : cS) (hB : Bd τ n b) (h1 : Bd τ n a1) {x : cS} (h : o_X4_copyFrom τ n b a1 s = some x) : jc Γ mX4_copyFrom 2 0 0 [some (.ref (b + 131)), some (.ref (a1 + 131))] (ct_h g τ s, n) (.inl none) (ct_h g τ x, n) := by
  refine jc_of ?_
  rw [o_X4_copyFrom] at h
  refine jg_aload_n dX4_copyFrom_0 rfl ?_
  refine cs_get (s := s) (w := .ref (a1 + 132)) fl_X4_9 dX4_copyFrom_1 (h1.ob 131 (by decide) rfl) rfl ?_
  refine jg_aload_n dX4_copyFrom_4 rfl ?_
  refine cs_get (s := s) (w := .ref (b + 132)) fl_X4_9 dX4_copyFrom_5 (hB.ob 131 (by decide) rfl) rfl ?_
  refine cs_callN (As := [.ref (a1 + 132), .ref (b + 132)]) kw_X4_44 dX4_copyFrom_8 rfl (by decide) (Nat.le_of_ble_eq_true rfl) rfl (by decide) (Nat.le_of_ble_eq_true rfl) (t_copyRow s (a1 + 132) (b + 132) 6 (by decide) (h1.ar 132 (by decide) rfl) (hB.ar 132 (by decide) rfl)) ?_
  refine jg_aload_n dX4_copyFrom_11 rfl ?_
  refine cs_get (s := (cc s (a1 + 132) (b + 132) 6)) (w := .ref (a1 + 133)) fl_X4_15 dX4_copyFrom_12 (h1.ob 131 (by decide) rfl) rfl ?_
  refine jg_aload_n dX4_copyFrom_15 rfl ?_
  refine cs_get (s := (cc s (a1 + 132) (b + 132) 6)) (w := .ref (b + 133)) fl_X4_15 dX4_copyFrom_16 (hB.ob 131 (by decide) rfl) rfl ?_
  refine cs_callN (As := [.ref (a1 + 133), .ref (b + 133)]) kw_X4_44 dX4_copyFrom_19 rfl (by decide) (Nat.le_of_ble_eq_true rfl) rfl (by decide) (Nat.le_of_ble_eq_true rfl) (t_copyRow (cc s (a1 + 132) (b + 132) 6) (a1 + 133) (b + 133) 6 (by decide) (h1.ar 133 (by decide) rfl) (hB.ar 133 (by decide) rfl)) ?_
  refine jg_aload_n dX4_copyFrom_22 rfl ?_
  refine cs_get (s := (cc (cc s (a1 + 132) (b + 132) 6) (a1 + 133) (b + 133) 6)) (w := .ref (a1 + 134)) fl_X4_18 dX4_copyFrom_23 (h1.ob 131 (by decide) rfl) rfl ?_
  refine jg_aload_n dX4_copyFrom_26 rfl ?_
  refine cs_get (s := (cc (cc s (a1 + 132) (b + 132) 6) (a1 + 133) (b + 133) 6)) (w := .ref (b + 134)) fl_X4_18 dX4_copyFrom_27 (hB.ob 131 (by decide) rfl) rfl ?_
  refine cs_callN (As := [.ref (a1 + 134), .ref (b + 134)]) kw_X4_44 dX4_copyFrom_30 rfl (by decide) (Nat.le_of_ble_eq_true rfl) rfl (by decide) (Nat.le_of_ble_eq_true rfl) (t_copyRow (cc (cc s (a1 + 132) (b + 132) 6) (a1 + 133) (b + 133) 6) (a1 + 134) (b + 134) 6 (by decide) (h1.ar 134 (by decide) rfl) (hB.ar 134 (by decide) rfl)) ?_
  obtain ⟨x1, e_x1, h⟩ := bd_some h
  refine cs_sub (Option.some.inj e_x1) ?_
  refine jg_aload_n dX4_copyFrom_33 rfl ?_
  refine jg_aload_n dX4_copyFrom_34 rfl ?_
  refine cs_get (s := x1) (w := .int (x1.1 (a1 + 131) 3)) fl_X4_48 dX4_copyFrom_35 (h1.ob 131 (by decide) rfl) rfl ?_
  refine cs_put (s := x1) (k := 3) (x := (x1.1 (a1 + 131) 3)) fl_X4_48 dX4_copyFrom_38 (hB.ob 131 (by decide) rfl) (ltb rfl) (rfl) rfl rfl ?_
  obtain rfl := Option.some.inj h
  exact jg_return dX4_copyFrom_41 rfl ⟨rfl, rfl⟩
theorem dX2_copyFrom_0 : decode cX2_copyFrom 0 = .ok (.aload_n 0, 1) := by decide +kernel
theorem dX2_copyFrom_1 : decode cX2_copyFrom 1 = .ok (.aload_n 1, 1) := by decide +kernel
theorem dX2_copyFrom_2 : decode cX2_copyFrom 2 = .ok (.getfield 9, 3) := by decide +kernel
theorem dX2_copyFrom_5 : decode cX2_copyFrom 5 = .ok (.putfield 9, 3) := by decide +kernel
theorem dX2_copyFrom_8 : decode cX2_copyFrom 8 = .ok (.aload_n 0, 1) := by decide +kernel
theorem dX2_copyFrom_9 : decode cX2_copyFrom 9 = .ok (.getfield 18, 3) := by decide +kernel
theorem dX2_copyFrom_12 : decode cX2_copyFrom 12 = .ok (.aload_n 1, 1) := by decide +kernel
theorem dX2_copyFrom_13 : decode cX2_copyFrom 13 = .ok (.getfield 18, 3) := by decide +kernel
theorem dX2_copyFrom_16 : decode cX2_copyFrom 16 = .ok (.invokevirtual 73, 3) := by decide +kernel
theorem dX2_copyFrom_19 : decode cX2_copyFrom 19 = .ok (.aload_n 0, 1) := by decide +kernel
theorem dX2_copyFrom_20 : decode cX2_copyFrom 20 = .ok (.getfield 25, 3) := by decide +kernel
theorem dX2_copyFrom_23 : decode cX2_copyFrom 23 = .ok (.aload_n 1, 1) := by decide +kernel
theorem dX2_copyFrom_24 : decode cX2_copyFrom 24 = .ok (.getfield 25, 3) := by decide +kernel
theorem dX2_copyFrom_27 : decode cX2_copyFrom 27 = .ok (.invokevirtual 77, 3) := by decide +kernel
theorem dX2_copyFrom_30 : decode cX2_copyFrom 30 = .ok (.aload_n 0, 1) := by decide +kernel
theorem dX2_copyFrom_31 : decode cX2_copyFrom 31 = .ok (.getfield 45, 3) := by decide +kernel
theorem dX2_copyFrom_34 : decode cX2_copyFrom 34 = .ok (.aload_n 1, 1) := by decide +kernel
theorem dX2_copyFrom_35 : decode cX2_copyFrom 35 = .ok (.getfield 45, 3) := by decide +kernel
theorem dX2_copyFrom_38 : decode cX2_copyFrom 38 = .ok (.invokevirtual 80, 3) := by decide +kernel
theorem dX2_copyFrom_41 : decode cX2_copyFrom 41 = .ok (.aload_n 0, 1) := by decide +kernel
theorem dX2_copyFrom_42 : decode cX2_copyFrom 42 = .ok (.getfield 52, 3) := by decide +kernel
theorem dX2_copyFrom_45 : decode cX2_copyFrom 45 = .ok (.aload_n 1, 1) := by decide +kernel
theorem dX2_copyFrom_46 : decode cX2_copyFrom 46 = .ok (.getfield 52, 3) := by decide +kernel
theorem dX2_copyFrom_49 : decode cX2_copyFrom 49 = .ok (.invokevirtual 83, 3) := by decide +kernel
theorem dX2_copyFrom_52 : decode cX2_copyFrom 52 = .ok (.aload_n 0, 1) := by decide +kernel
theorem dX2_copyFrom_53 : decode cX2_copyFrom 53 = .ok (.getfield 32, 3) := by decide +kernel
theorem dX2_copyFrom_56 : decode cX2_copyFrom 56 = .ok (.aload_n 1, 1) := by decide +kernel
theorem dX2_copyFrom_57 : decode cX2_copyFrom 57 = .ok (.getfield 32, 3) := by decide +kernel
theorem dX2_copyFrom_60 : decode cX2_copyFrom 60 = .ok (.invokevirtual 86, 3) := by decide +kernel
theorem dX2_copyFrom_63 : decode cX2_copyFrom 63 = .ok (.aload_n 0, 1) := by decide +kernel
theorem dX2_copyFrom_64 : decode cX2_copyFrom 64 = .ok (.getfield 59, 3) := by decide +kernel
theorem dX2_copyFrom_67 : decode cX2_copyFrom 67 = .ok (.aload_n 1, 1) := by decide +kernel
theorem dX2_copyFrom_68 : decode cX2_copyFrom 68 = .ok (.getfield 59, 3) := by decide +kernel
theorem dX2_copyFrom_71 : decode cX2_copyFrom 71 = .ok (.invokevirtual 89, 3) := by decide +kernel
theorem dX2_copyFrom_74 : decode cX2_copyFrom 74 = .ok (.return_, 1) := by decide +kernel
noncomputable def o_X2_copyFrom (F : Nat) (τ : cT) (n : Nat) (b : Nat) (a1 : Nat) (s : cS) : Option (cS) := (o_X8_copyFrom τ n b a1 (cp s b 0 (s.1 a1 0))).bind fun x1 => ((o_X10_copyFrom τ n b a1 x1).bind fun x2 => ((o_X5_copyFrom F τ n b a1 x2).bind fun x3 => ((o_X6_copyFrom τ n b a1 x3).bind fun x4 => ((o_X3_copyFrom F τ n b a1 x4).bind fun x5 => ((o_X4_copyFrom τ n b a1 x5).bind fun x6 => (some x6))))))
set_option maxHeartbeats 4000000 in
theorem t_X2_copyFrom {Γ : jg_G} {g : Nat → jg_C} (F : Nat) (τ : cT) (n : Nat) (b : Nat) (a1 : Nat) (s : cS) (hB : Bd τ n b) (h1 : Bd τ n a1) {x : cS} (h : o_X2_copyFrom F τ n b a1 s = some x) : jc Γ mX2_copyFrom 3 0 0 [some (.ref b), some (.ref a1)] (ct_h g τ s, n) (.inl none) (ct_h g τ x, n) := by
  refine jc_of ?_
  rw [o_X2_copyFrom] at h
  refine jg_aload_n dX2_copyFrom_0 rfl ?_
  refine jg_aload_n dX2_copyFrom_1 rfl ?_
  refine cs_get (s := s) (w := .int (s.1 a1 0)) fl_X2_9 dX2_copyFrom_2 h1.ob0 rfl ?_
  refine cs_put (s := s) (k := 0) (x := (s.1 a1 0)) fl_X2_9 dX2_copyFrom_5 hB.ob0 (ltb rfl) (rfl) rfl rfl ?_
  refine jg_aload_n dX2_copyFrom_8 rfl ?_
  refine cs_get (s := (cp s b 0 (s.1 a1 0))) (w := .ref (b + 1)) fl_X2_18 dX2_copyFrom_9 hB.ob0 rfl ?_
  refine jg_aload_n dX2_copyFrom_12 rfl ?_
  refine cs_get (s := (cp s b 0 (s.1 a1 0))) (w := .ref (a1 + 1)) fl_X2_18 dX2_copyFrom_13 h1.ob0 rfl ?_
  obtain ⟨x1, e_x1, h⟩ := bd_some h
  refine cs_call (q := (b + 1)) (As := [.ref (a1 + 1)]) kv_X2_73 dX2_copyFrom_16 (hB.ob 1 (by decide) rfl) rfl rfl (by decide) (Nat.le_of_ble_eq_true rfl) rfl (by decide) (Nat.le_of_ble_eq_true rfl) (t_X8_copyFrom τ n b a1 (cp s b 0 (s.1 a1 0)) hB h1 e_x1) ?_
  refine jg_aload_n dX2_copyFrom_19 rfl ?_
  refine cs_get (s := x1) (w := .ref (b + 11)) fl_X2_25 dX2_copyFrom_20 hB.ob0 rfl ?_
  refine jg_aload_n dX2_copyFrom_23 rfl ?_
  refine cs_get (s := x1) (w := .ref (a1 + 11)) fl_X2_25 dX2_copyFrom_24 h1.ob0 rfl ?_
  obtain ⟨x2, e_x2, h⟩ := bd_some h
  refine cs_call (q := (b + 11)) (As := [.ref (a1 + 11)]) kv_X2_77 dX2_copyFrom_27 (hB.ob 11 (by decide) rfl) rfl rfl (by decide) (Nat.le_of_ble_eq_true rfl) rfl (by decide) (Nat.le_of_ble_eq_true rfl) (t_X10_copyFrom τ n b a1 x1 hB h1 e_x2) ?_
  refine jg_aload_n dX2_copyFrom_30 rfl ?_
  refine cs_get (s := x2) (w := .ref (b + 27)) fl_X2_45 dX2_copyFrom_31 hB.ob0 rfl ?_
  refine jg_aload_n dX2_copyFrom_34 rfl ?_
  refine cs_get (s := x2) (w := .ref (a1 + 27)) fl_X2_45 dX2_copyFrom_35 h1.ob0 rfl ?_
  obtain ⟨x3, e_x3, h⟩ := bd_some h
  refine cs_call (q := (b + 27)) (As := [.ref (a1 + 27)]) kv_X2_80 dX2_copyFrom_38 (hB.ob 27 (by decide) rfl) rfl rfl (by decide) (Nat.le_of_ble_eq_true rfl) rfl (by decide) (Nat.le_of_ble_eq_true rfl) (t_X5_copyFrom F τ n b a1 x2 hB h1 e_x3) ?_
  refine jg_aload_n dX2_copyFrom_41 rfl ?_
  refine cs_get (s := x3) (w := .ref (b + 121)) fl_X2_52 dX2_copyFrom_42 hB.ob0 rfl ?_
  refine jg_aload_n dX2_copyFrom_45 rfl ?_
  refine cs_get (s := x3) (w := .ref (a1 + 121)) fl_X2_52 dX2_copyFrom_46 h1.ob0 rfl ?_
  obtain ⟨x4, e_x4, h⟩ := bd_some h
  refine cs_call (q := (b + 121)) (As := [.ref (a1 + 121)]) kv_X2_83 dX2_copyFrom_49 (hB.ob 121 (by decide) rfl) rfl rfl (by decide) (Nat.le_of_ble_eq_true rfl) rfl (by decide) (Nat.le_of_ble_eq_true rfl) (t_X6_copyFrom τ n b a1 x3 hB h1 e_x4) ?_
  refine jg_aload_n dX2_copyFrom_52 rfl ?_
  refine cs_get (s := x4) (w := .ref (b + 17)) fl_X2_32 dX2_copyFrom_53 hB.ob0 rfl ?_
  refine jg_aload_n dX2_copyFrom_56 rfl ?_
  refine cs_get (s := x4) (w := .ref (a1 + 17)) fl_X2_32 dX2_copyFrom_57 h1.ob0 rfl ?_
  obtain ⟨x5, e_x5, h⟩ := bd_some h
  refine cs_call (q := (b + 17)) (As := [.ref (a1 + 17)]) kv_X2_86 dX2_copyFrom_60 (hB.ob 17 (by decide) rfl) rfl rfl (by decide) (Nat.le_of_ble_eq_true rfl) rfl (by decide) (Nat.le_of_ble_eq_true rfl) (t_X3_copyFrom F τ n b a1 x4 hB h1 e_x5) ?_
  refine jg_aload_n dX2_copyFrom_63 rfl ?_
  refine cs_get (s := x5) (w := .ref (b + 131)) fl_X2_59 dX2_copyFrom_64 hB.ob0 rfl ?_
  refine jg_aload_n dX2_copyFrom_67 rfl ?_
  refine cs_get (s := x5) (w := .ref (a1 + 131)) fl_X2_59 dX2_copyFrom_68 h1.ob0 rfl ?_
  obtain ⟨x6, e_x6, h⟩ := bd_some h
  refine cs_call (q := (b + 131)) (As := [.ref (a1 + 131)]) kv_X2_89 dX2_copyFrom_71 (hB.ob 131 (by decide) rfl) rfl rfl (by decide) (Nat.le_of_ble_eq_true rfl) rfl (by decide) (Nat.le_of_ble_eq_true rfl) (t_X4_copyFrom τ n b a1 x5 hB h1 e_x6) ?_
  obtain rfl := Option.some.inj h
  exact jg_return dX2_copyFrom_74 rfl ⟨rfl, rfl⟩
theorem dX2_year_0 : decode cX2_year 0 = .ok (.aload_n 0, 1) := by decide +kernel
theorem dX2_year_1 : decode cX2_year 1 = .ok (.getfield 9, 3) := by decide +kernel
theorem dX2_year_4 : decode cX2_year 4 = .ok (.sipush 2400, 3) := by decide +kernel
theorem dX2_year_7 : decode cX2_year 7 = .ok (.idiv, 1) := by decide +kernel
theorem dX2_year_8 : decode cX2_year 8 = .ok (.ireturn, 1) := by decide +kernel
noncomputable def o_X2_year (τ : cT) (n : Nat) (b : Nat) (s : cS) : Option (Int32) := some ((s.1 b 0) / (nI 2400))
set_option maxHeartbeats 4000000 in
theorem t_X2_year {Γ : jg_G} {g : Nat → jg_C} (τ : cT) (n : Nat) (b : Nat) (s : cS) (hB : Bd τ n b) {x : Int32} (h : o_X2_year τ n b s = some x) : jc Γ mX2_year 0 0 0 [some (.ref b)] (ct_h g τ s, n) (.inl (some (.int x))) (ct_h g τ s, n) := by
  refine jc_of ?_
  rw [o_X2_year] at h
  refine jg_aload_n dX2_year_0 rfl ?_
  refine cs_get (s := s) (w := .int (s.1 b 0)) fl_X2_9 dX2_year_1 hB.ob0 rfl ?_
  refine jg_sipush (v := nI 2400) dX2_year_4 (by decide) ?_
  refine jg_idiv (x := (s.1 b 0)) (y := (nI 2400)) dX2_year_7 (by decide) ?_
  obtain rfl := Option.some.inj h
  exact jg_ireturn dX2_year_8 rfl ⟨rfl, rfl⟩
theorem dX5_countInState_0 : decode cX5_countInState 0 = .ok (.iconst 0, 1) := by decide +kernel
theorem dX5_countInState_1 : decode cX5_countInState 1 = .ok (.istore_n 2, 1) := by decide +kernel
theorem dX5_countInState_2 : decode cX5_countInState 2 = .ok (.iconst 0, 1) := by decide +kernel
theorem dX5_countInState_3 : decode cX5_countInState 3 = .ok (.istore_n 3, 1) := by decide +kernel
theorem dX5_countInState_4 : decode cX5_countInState 4 = .ok (.iload_n 3, 1) := by decide +kernel
theorem dX5_countInState_5 : decode cX5_countInState 5 = .ok (.aload_n 0, 1) := by decide +kernel
theorem dX5_countInState_6 : decode cX5_countInState 6 = .ok (.getfield 45, 3) := by decide +kernel
theorem dX5_countInState_9 : decode cX5_countInState 9 = .ok (.if_icmp .ge 25, 3) := by decide +kernel
theorem dX5_countInState_12 : decode cX5_countInState 12 = .ok (.aload_n 0, 1) := by decide +kernel
theorem dX5_countInState_13 : decode cX5_countInState 13 = .ok (.getfield 20, 3) := by decide +kernel
theorem dX5_countInState_16 : decode cX5_countInState 16 = .ok (.iload_n 3, 1) := by decide +kernel
theorem dX5_countInState_17 : decode cX5_countInState 17 = .ok (.aaload, 1) := by decide +kernel
theorem dX5_countInState_18 : decode cX5_countInState 18 = .ok (.getfield 74, 3) := by decide +kernel
theorem dX5_countInState_21 : decode cX5_countInState 21 = .ok (.iload_n 1, 1) := by decide +kernel
theorem dX5_countInState_22 : decode cX5_countInState 22 = .ok (.if_icmp .ne 6, 3) := by decide +kernel
theorem dX5_countInState_25 : decode cX5_countInState 25 = .ok (.iinc 2 1, 3) := by decide +kernel
theorem dX5_countInState_28 : decode cX5_countInState 28 = .ok (.iinc 3 1, 3) := by decide +kernel
theorem dX5_countInState_31 : decode cX5_countInState 31 = .ok (.goto (-27), 3) := by decide +kernel
theorem dX5_countInState_34 : decode cX5_countInState 34 = .ok (.iload_n 2, 1) := by decide +kernel
theorem dX5_countInState_35 : decode cX5_countInState 35 = .ok (.ireturn, 1) := by decide +kernel
noncomputable def o_X5_countInState_4 (F : Nat) (τ : cT) (n : Nat) (b : Nat) (l1 : Int32) (s : cS) : Nat → Int32 → Int32 → Option (Int32)
  | 0, _, _ => none
  | f + 1, l2, l3 => if (s.1 (b + 27) 3) ≤ l3 then (some l2) else (if iL l3 80 then (if (s.1 (b + 39 + 1 + l3.toNatClampNeg) 10) = l1 then (o_X5_countInState_4 F τ n b l1 s f (l2 + nI 1) (l3 + nI 1)) else (o_X5_countInState_4 F τ n b l1 s f l2 (l3 + nI 1))) else none)
set_option maxHeartbeats 4000000 in
theorem t_X5_countInState_4 {Γ : jg_G} {g : Nat → jg_C} (F : Nat) (τ : cT) (n : Nat) (b : Nat) (l1 : Int32) (s : cS) (hB : Bd τ n b) (Q : jg_Q) {x : Int32} (K1 : jg Γ mX5_countInState 0 0 0 34 [none, none, some (.int x), none] [] (ct_h g τ s, n) Q)  : ∀ (f : Nat) (l2 : Int32) (l3 : Int32), o_X5_countInState_4 F τ n b l1 s f l2 l3 = some x → jg Γ mX5_countInState 0 0 0 4 [some (.ref (b + 27)), some (.int l1), some (.int l2), some (.int l3)] [] (ct_h g τ s, n) Q := by
  intro f
  induction f with
  | zero => intro l2 l3 h; rw [o_X5_countInState_4] at h; cases h
  | succ f ih =>
   intro l2 l3 h
   rw [o_X5_countInState_4] at h
   refine jg_iload_n dX5_countInState_4 rfl ?_
   refine jg_aload_n dX5_countInState_5 rfl ?_
   refine cs_get (s := s) (w := .int (s.1 (b + 27) 3)) fl_X5_45 dX5_countInState_6 (hB.ob 27 (by decide) rfl) rfl ?_
   refine jg_icmp_ge (x := l3) (y := (s.1 (b + 27) 3)) (tgt := 34) dX5_countInState_9 (by decide) (fun c1 => ?_) (fun c1 => ?_)
   · replace h := it_t c1 h
     refine jg_fg (L' := [none, none, some (.int l2), none]) (by repeat (first | exact trivial | refine ⟨rfl, ?_⟩ | show jg_le _ _)) ?_
     obtain rfl := Option.some.inj h
     exact K1
   · replace h := it_f c1 h
     refine jg_aload_n dX5_countInState_12 rfl ?_
     refine cs_get (s := s) (w := .ref (b + 39)) fl_X5_20 dX5_countInState_13 (hB.ob 27 (by decide) rfl) rfl ?_
     refine jg_iload_n dX5_countInState_16 rfl ?_
     obtain ⟨q2, h⟩ := gd_some h
     refine cs_ldr (s := s) (q := (b + 39)) (i := l3) (kd := 6) (by decide) dX5_countInState_17 (hB.ar 39 (by decide) rfl) q2 ?_
     refine cs_get (s := s) (w := .int (s.1 (b + 39 + 1 + l3.toNatClampNeg) 10)) fl_X5_74 dX5_countInState_18 (hB.ship q2.2) rfl ?_
     refine jg_iload_n dX5_countInState_21 rfl ?_
     refine jg_icmp_ne (x := (s.1 (b + 39 + 1 + l3.toNatClampNeg) 10)) (y := l1) (tgt := 28) dX5_countInState_22 (by decide) (fun c3 => ?_) (fun c3 => ?_)
     · replace h := it_f c3 h
       refine jg_iinc (x := l3) (v := l3 + nI 1) (L' := [some (.ref (b + 27)), some (.int l1), some (.int l2), some (.int (l3 + nI 1))]) dX5_countInState_28 rfl (ic_k _ (by decide)) (by decide) rfl ?_
       refine jg_goto (tgt := 4) dX5_countInState_31 (by decide) ?_
       refine jg_fg (L' := [some (.ref (b + 27)), some (.int l1), some (.int l2), some (.int (l3 + nI 1))]) (by repeat (first | exact trivial | refine ⟨rfl, ?_⟩ | show jg_le _ _)) ?_
       exact ih l2 (l3 + nI 1) h
     · replace h := it_t c3 h
       refine jg_iinc (x := l2) (v := l2 + nI 1) (L' := [some (.ref (b + 27)), some (.int l1), some (.int (l2 + nI 1)), some (.int l3)]) dX5_countInState_25 rfl (ic_k _ (by decide)) (by decide) rfl ?_
       refine jg_iinc (x := l3) (v := l3 + nI 1) (L' := [some (.ref (b + 27)), some (.int l1), some (.int (l2 + nI 1)), some (.int (l3 + nI 1))]) dX5_countInState_28 rfl (ic_k _ (by decide)) (by decide) rfl ?_
       refine jg_goto (tgt := 4) dX5_countInState_31 (by decide) ?_
       refine jg_fg (L' := [some (.ref (b + 27)), some (.int l1), some (.int (l2 + nI 1)), some (.int (l3 + nI 1))]) (by repeat (first | exact trivial | refine ⟨rfl, ?_⟩ | show jg_le _ _)) ?_
       exact ih (l2 + nI 1) (l3 + nI 1) h
noncomputable def o_X5_countInState (F : Nat) (τ : cT) (n : Nat) (b : Nat) (s : cS) (a1 : Int32) : Option (Int32) := (o_X5_countInState_4 F τ n b a1 s F (nI 0) (nI 0)).bind fun x4 => (some x4)
set_option maxHeartbeats 4000000 in
theorem t_X5_countInState {Γ : jg_G} {g : Nat → jg_C} (F : Nat) (τ : cT) (n : Nat) (b : Nat) (s : cS) (a1 : Int32) (hB : Bd τ n b) {x : Int32} (h : o_X5_countInState F τ n b s a1 = some x) : jc Γ mX5_countInState 0 0 0 [some (.ref (b + 27)), some (.int a1), none, none] (ct_h g τ s, n) (.inl (some (.int x))) (ct_h g τ s, n) := by
  refine jc_of ?_
  rw [o_X5_countInState] at h
  refine jg_iconst (v := nI 0) dX5_countInState_0 (by decide) ?_
  refine jg_istore_n (L' := [some (.ref (b + 27)), some (.int a1), some (.int (nI 0)), none]) dX5_countInState_1 (by decide) rfl ?_
  refine jg_iconst (v := nI 0) dX5_countInState_2 (by decide) ?_
  refine jg_istore_n (L' := [some (.ref (b + 27)), some (.int a1), some (.int (nI 0)), some (.int (nI 0))]) dX5_countInState_3 (by decide) rfl ?_
  obtain ⟨x4, e_x4, h⟩ := bd_some h
  refine jg_fg (L' := [some (.ref (b + 27)), some (.int a1), some (.int (nI 0)), some (.int (nI 0))]) (by repeat (first | exact trivial | refine ⟨rfl, ?_⟩ | show jg_le _ _)) ?_
  refine t_X5_countInState_4  F τ n b a1 s hB _ (x := x4) ?_ F (nI 0) (nI 0) e_x4
  refine jg_iload_n dX5_countInState_34 rfl ?_
  obtain rfl := Option.some.inj h
  exact jg_ireturn dX5_countInState_35 rfl ⟨rfl, rfl⟩
theorem dX5_freePilots_0 : decode cX5_freePilots 0 = .ok (.iconst 0, 1) := by decide +kernel
theorem dX5_freePilots_1 : decode cX5_freePilots 1 = .ok (.aload_n 0, 1) := by decide +kernel
theorem dX5_freePilots_2 : decode cX5_freePilots 2 = .ok (.getfield 27, 3) := by decide +kernel
theorem dX5_freePilots_5 : decode cX5_freePilots 5 = .ok (.aload_n 0, 1) := by decide +kernel
theorem dX5_freePilots_6 : decode cX5_freePilots 6 = .ok (.getfield 34, 3) := by decide +kernel
theorem dX5_freePilots_9 : decode cX5_freePilots 9 = .ok (.iconst 0, 1) := by decide +kernel
theorem dX5_freePilots_10 : decode cX5_freePilots 10 = .ok (.iaload, 1) := by decide +kernel
theorem dX5_freePilots_11 : decode cX5_freePilots 11 = .ok (.isub, 1) := by decide +kernel
theorem dX5_freePilots_12 : decode cX5_freePilots 12 = .ok (.invokestatic 62, 3) := by decide +kernel
theorem dX5_freePilots_15 : decode cX5_freePilots 15 = .ok (.ireturn, 1) := by decide +kernel
noncomputable def o_X5_freePilots (τ : cT) (n : Nat) (b : Nat) (s : cS) : Option (Int32) := some (mxi (nI 0) ((s.1 (b + 27) 4) - (cg s (b + 120) (nI 0))))
set_option maxHeartbeats 4000000 in
theorem t_X5_freePilots {Γ : jg_G} {g : Nat → jg_C} (τ : cT) (n : Nat) (b : Nat) (s : cS) (hB : Bd τ n b) {x : Int32} (h : o_X5_freePilots τ n b s = some x) : jc Γ mX5_freePilots 1 0 0 [some (.ref (b + 27))] (ct_h g τ s, n) (.inl (some (.int x))) (ct_h g τ s, n) := by
  refine jc_of ?_
  rw [o_X5_freePilots] at h
  refine jg_iconst (v := nI 0) dX5_freePilots_0 (by decide) ?_
  refine jg_aload_n dX5_freePilots_1 rfl ?_
  refine cs_get (s := s) (w := .int (s.1 (b + 27) 4)) fl_X5_27 dX5_freePilots_2 (hB.ob 27 (by decide) rfl) rfl ?_
  refine jg_aload_n dX5_freePilots_5 rfl ?_
  refine cs_get (s := s) (w := .ref (b + 120)) fl_X5_34 dX5_freePilots_6 (hB.ob 27 (by decide) rfl) rfl ?_
  refine jg_iconst (v := nI 0) dX5_freePilots_9 (by decide) ?_
  refine cs_lda (s := s) (q := (b + 120)) (i := (nI 0)) dX5_freePilots_10 (hB.ar 120 (by decide) rfl) (show iL (nI 0) 4 by decide) ?_
  refine jg_isub (x := (s.1 (b + 27) 4)) (y := (cg s (b + 120) (nI 0))) dX5_freePilots_11  ?_
  refine jg_mmax (x := (nI 0)) (y := ((s.1 (b + 27) 4) - (cg s (b + 120) (nI 0)))) km_X5_62 jw_max.1 jw_max.2 dX5_freePilots_12 (by decide) (Nat.le_of_ble_eq_true rfl) ?_
  obtain rfl := Option.some.inj h
  exact jg_ireturn dX5_freePilots_15 rfl ⟨rfl, rfl⟩
theorem dX5_loadOfAll_0 : decode cX5_loadOfAll 0 = .ok (.iconst 0, 1) := by decide +kernel
theorem dX5_loadOfAll_1 : decode cX5_loadOfAll 1 = .ok (.istore_n 1, 1) := by decide +kernel
theorem dX5_loadOfAll_2 : decode cX5_loadOfAll 2 = .ok (.iconst 0, 1) := by decide +kernel
theorem dX5_loadOfAll_3 : decode cX5_loadOfAll 3 = .ok (.istore_n 2, 1) := by decide +kernel
theorem dX5_loadOfAll_4 : decode cX5_loadOfAll 4 = .ok (.iload_n 2, 1) := by decide +kernel
theorem dX5_loadOfAll_5 : decode cX5_loadOfAll 5 = .ok (.aload_n 0, 1) := by decide +kernel
theorem dX5_loadOfAll_6 : decode cX5_loadOfAll 6 = .ok (.getfield 38, 3) := by decide +kernel
theorem dX5_loadOfAll_9 : decode cX5_loadOfAll 9 = .ok (.if_icmp .ge 21, 3) := by decide +kernel
theorem dX5_loadOfAll_12 : decode cX5_loadOfAll 12 = .ok (.iload_n 1, 1) := by decide +kernel
theorem dX5_loadOfAll_13 : decode cX5_loadOfAll 13 = .ok (.aload_n 0, 1) := by decide +kernel
theorem dX5_loadOfAll_14 : decode cX5_loadOfAll 14 = .ok (.getfield 11, 3) := by decide +kernel
theorem dX5_loadOfAll_17 : decode cX5_loadOfAll 17 = .ok (.iload_n 2, 1) := by decide +kernel
theorem dX5_loadOfAll_18 : decode cX5_loadOfAll 18 = .ok (.aaload, 1) := by decide +kernel
theorem dX5_loadOfAll_19 : decode cX5_loadOfAll 19 = .ok (.getfield 111, 3) := by decide +kernel
theorem dX5_loadOfAll_22 : decode cX5_loadOfAll 22 = .ok (.iadd, 1) := by decide +kernel
theorem dX5_loadOfAll_23 : decode cX5_loadOfAll 23 = .ok (.istore_n 1, 1) := by decide +kernel
theorem dX5_loadOfAll_24 : decode cX5_loadOfAll 24 = .ok (.iinc 2 1, 3) := by decide +kernel
theorem dX5_loadOfAll_27 : decode cX5_loadOfAll 27 = .ok (.goto (-23), 3) := by decide +kernel
theorem dX5_loadOfAll_30 : decode cX5_loadOfAll 30 = .ok (.iload_n 1, 1) := by decide +kernel
theorem dX5_loadOfAll_31 : decode cX5_loadOfAll 31 = .ok (.ireturn, 1) := by decide +kernel
noncomputable def o_X5_loadOfAll_4 (F : Nat) (τ : cT) (n : Nat) (b : Nat) (s : cS) : Nat → Int32 → Int32 → Option (Int32)
  | 0, _, _ => none
  | f + 1, l1, l2 => if (s.1 (b + 27) 1) ≤ l2 then (some l1) else (if iL l2 10 then (o_X5_loadOfAll_4 F τ n b s f (l1 + (s.1 (b + 28 + 1 + l2.toNatClampNeg) 4)) (l2 + nI 1)) else none)
set_option maxHeartbeats 4000000 in
theorem t_X5_loadOfAll_4 {Γ : jg_G} {g : Nat → jg_C} (F : Nat) (τ : cT) (n : Nat) (b : Nat) (s : cS) (hB : Bd τ n b) (Q : jg_Q) {x : Int32} (K1 : jg Γ mX5_loadOfAll 0 0 0 30 [none, some (.int x), none] [] (ct_h g τ s, n) Q)  : ∀ (f : Nat) (l1 : Int32) (l2 : Int32), o_X5_loadOfAll_4 F τ n b s f l1 l2 = some x → jg Γ mX5_loadOfAll 0 0 0 4 [some (.ref (b + 27)), some (.int l1), some (.int l2)] [] (ct_h g τ s, n) Q := by
  intro f
  induction f with
  | zero => intro l1 l2 h; rw [o_X5_loadOfAll_4] at h; cases h
  | succ f ih =>
   intro l1 l2 h
   rw [o_X5_loadOfAll_4] at h
   refine jg_iload_n dX5_loadOfAll_4 rfl ?_
   refine jg_aload_n dX5_loadOfAll_5 rfl ?_
   refine cs_get (s := s) (w := .int (s.1 (b + 27) 1)) fl_X5_38 dX5_loadOfAll_6 (hB.ob 27 (by decide) rfl) rfl ?_
   refine jg_icmp_ge (x := l2) (y := (s.1 (b + 27) 1)) (tgt := 30) dX5_loadOfAll_9 (by decide) (fun c1 => ?_) (fun c1 => ?_)
   · replace h := it_t c1 h
     refine jg_fg (L' := [none, some (.int l1), none]) (by repeat (first | exact trivial | refine ⟨rfl, ?_⟩ | show jg_le _ _)) ?_
     obtain rfl := Option.some.inj h
     exact K1
   · replace h := it_f c1 h
     refine jg_iload_n dX5_loadOfAll_12 rfl ?_
     refine jg_aload_n dX5_loadOfAll_13 rfl ?_
     refine cs_get (s := s) (w := .ref (b + 28)) fl_X5_11 dX5_loadOfAll_14 (hB.ob 27 (by decide) rfl) rfl ?_
     refine jg_iload_n dX5_loadOfAll_17 rfl ?_
     obtain ⟨q2, h⟩ := gd_some h
     refine cs_ldr (s := s) (q := (b + 28)) (i := l2) (kd := 5) (by decide) dX5_loadOfAll_18 (hB.ar 28 (by decide) rfl) q2 ?_
     refine cs_get (s := s) (w := .int (s.1 (b + 28 + 1 + l2.toNatClampNeg) 4)) fl_X5_111 dX5_loadOfAll_19 (hB.berth q2.2) rfl ?_
     refine jg_iadd (x := l1) (y := (s.1 (b + 28 + 1 + l2.toNatClampNeg) 4)) dX5_loadOfAll_22  ?_
     refine jg_istore_n (L' := [some (.ref (b + 27)), some (.int (l1 + (s.1 (b + 28 + 1 + l2.toNatClampNeg) 4))), some (.int l2)]) dX5_loadOfAll_23 (by decide) rfl ?_
     refine jg_iinc (x := l2) (v := l2 + nI 1) (L' := [some (.ref (b + 27)), some (.int (l1 + (s.1 (b + 28 + 1 + l2.toNatClampNeg) 4))), some (.int (l2 + nI 1))]) dX5_loadOfAll_24 rfl (ic_k _ (by decide)) (by decide) rfl ?_
     refine jg_goto (tgt := 4) dX5_loadOfAll_27 (by decide) ?_
     refine jg_fg (L' := [some (.ref (b + 27)), some (.int (l1 + (s.1 (b + 28 + 1 + l2.toNatClampNeg) 4))), some (.int (l2 + nI 1))]) (by repeat (first | exact trivial | refine ⟨rfl, ?_⟩ | show jg_le _ _)) ?_
     exact ih (l1 + (s.1 (b + 28 + 1 + l2.toNatClampNeg) 4)) (l2 + nI 1) h
noncomputable def o_X5_loadOfAll (F : Nat) (τ : cT) (n : Nat) (b : Nat) (s : cS) : Option (Int32) := (o_X5_loadOfAll_4 F τ n b s F (nI 0) (nI 0)).bind fun x3 => (some x3)
set_option maxHeartbeats 4000000 in
theorem t_X5_loadOfAll {Γ : jg_G} {g : Nat → jg_C} (F : Nat) (τ : cT) (n : Nat) (b : Nat) (s : cS) (hB : Bd τ n b) {x : Int32} (h : o_X5_loadOfAll F τ n b s = some x) : jc Γ mX5_loadOfAll 0 0 0 [some (.ref (b + 27)), none, none] (ct_h g τ s, n) (.inl (some (.int x))) (ct_h g τ s, n) := by
  refine jc_of ?_
  rw [o_X5_loadOfAll] at h
  refine jg_iconst (v := nI 0) dX5_loadOfAll_0 (by decide) ?_
  refine jg_istore_n (L' := [some (.ref (b + 27)), some (.int (nI 0)), none]) dX5_loadOfAll_1 (by decide) rfl ?_
  refine jg_iconst (v := nI 0) dX5_loadOfAll_2 (by decide) ?_
  refine jg_istore_n (L' := [some (.ref (b + 27)), some (.int (nI 0)), some (.int (nI 0))]) dX5_loadOfAll_3 (by decide) rfl ?_
  obtain ⟨x3, e_x3, h⟩ := bd_some h
  refine jg_fg (L' := [some (.ref (b + 27)), some (.int (nI 0)), some (.int (nI 0))]) (by repeat (first | exact trivial | refine ⟨rfl, ?_⟩ | show jg_le _ _)) ?_
  refine t_X5_loadOfAll_4  F τ n b s hB _ (x := x3) ?_ F (nI 0) (nI 0) e_x3
  refine jg_iload_n dX5_loadOfAll_30 rfl ?_
  obtain rfl := Option.some.inj h
  exact jg_ireturn dX5_loadOfAll_31 rfl ⟨rfl, rfl⟩
theorem dX5_countTouches_0 : decode cX5_countTouches 0 = .ok (.iconst 0, 1) := by decide +kernel
theorem dX5_countTouches_1 : decode cX5_countTouches 1 = .ok (.istore_n 1, 1) := by decide +kernel
theorem dX5_countTouches_2 : decode cX5_countTouches 2 = .ok (.iconst 0, 1) := by decide +kernel
theorem dX5_countTouches_3 : decode cX5_countTouches 3 = .ok (.istore_n 2, 1) := by decide +kernel
theorem dX5_countTouches_4 : decode cX5_countTouches 4 = .ok (.iload_n 2, 1) := by decide +kernel
theorem dX5_countTouches_5 : decode cX5_countTouches 5 = .ok (.aload_n 0, 1) := by decide +kernel
theorem dX5_countTouches_6 : decode cX5_countTouches 6 = .ok (.getfield 45, 3) := by decide +kernel
theorem dX5_countTouches_9 : decode cX5_countTouches 9 = .ok (.if_icmp .ge 21, 3) := by decide +kernel
theorem dX5_countTouches_12 : decode cX5_countTouches 12 = .ok (.iload_n 1, 1) := by decide +kernel
theorem dX5_countTouches_13 : decode cX5_countTouches 13 = .ok (.aload_n 0, 1) := by decide +kernel
theorem dX5_countTouches_14 : decode cX5_countTouches 14 = .ok (.getfield 20, 3) := by decide +kernel
theorem dX5_countTouches_17 : decode cX5_countTouches 17 = .ok (.iload_n 2, 1) := by decide +kernel
theorem dX5_countTouches_18 : decode cX5_countTouches 18 = .ok (.aaload, 1) := by decide +kernel
theorem dX5_countTouches_19 : decode cX5_countTouches 19 = .ok (.getfield 130, 3) := by decide +kernel
theorem dX5_countTouches_22 : decode cX5_countTouches 22 = .ok (.iadd, 1) := by decide +kernel
theorem dX5_countTouches_23 : decode cX5_countTouches 23 = .ok (.istore_n 1, 1) := by decide +kernel
theorem dX5_countTouches_24 : decode cX5_countTouches 24 = .ok (.iinc 2 1, 3) := by decide +kernel
theorem dX5_countTouches_27 : decode cX5_countTouches 27 = .ok (.goto (-23), 3) := by decide +kernel
theorem dX5_countTouches_30 : decode cX5_countTouches 30 = .ok (.iload_n 1, 1) := by decide +kernel
theorem dX5_countTouches_31 : decode cX5_countTouches 31 = .ok (.ireturn, 1) := by decide +kernel
noncomputable def o_X5_countTouches_4 (F : Nat) (τ : cT) (n : Nat) (b : Nat) (s : cS) : Nat → Int32 → Int32 → Option (Int32)
  | 0, _, _ => none
  | f + 1, l1, l2 => if (s.1 (b + 27) 3) ≤ l2 then (some l1) else (if iL l2 80 then (o_X5_countTouches_4 F τ n b s f (l1 + (s.1 (b + 39 + 1 + l2.toNatClampNeg) 18)) (l2 + nI 1)) else none)
set_option maxHeartbeats 4000000 in
theorem t_X5_countTouches_4 {Γ : jg_G} {g : Nat → jg_C} (F : Nat) (τ : cT) (n : Nat) (b : Nat) (s : cS) (hB : Bd τ n b) (Q : jg_Q) {x : Int32} (K1 : jg Γ mX5_countTouches 0 0 0 30 [none, some (.int x), none] [] (ct_h g τ s, n) Q)  : ∀ (f : Nat) (l1 : Int32) (l2 : Int32), o_X5_countTouches_4 F τ n b s f l1 l2 = some x → jg Γ mX5_countTouches 0 0 0 4 [some (.ref (b + 27)), some (.int l1), some (.int l2)] [] (ct_h g τ s, n) Q := by
  intro f
  induction f with
  | zero => intro l1 l2 h; rw [o_X5_countTouches_4] at h; cases h
  | succ f ih =>
   intro l1 l2 h
   rw [o_X5_countTouches_4] at h
   refine jg_iload_n dX5_countTouches_4 rfl ?_
   refine jg_aload_n dX5_countTouches_5 rfl ?_
   refine cs_get (s := s) (w := .int (s.1 (b + 27) 3)) fl_X5_45 dX5_countTouches_6 (hB.ob 27 (by decide) rfl) rfl ?_
   refine jg_icmp_ge (x := l2) (y := (s.1 (b + 27) 3)) (tgt := 30) dX5_countTouches_9 (by decide) (fun c1 => ?_) (fun c1 => ?_)
   · replace h := it_t c1 h
     refine jg_fg (L' := [none, some (.int l1), none]) (by repeat (first | exact trivial | refine ⟨rfl, ?_⟩ | show jg_le _ _)) ?_
     obtain rfl := Option.some.inj h
     exact K1
   · replace h := it_f c1 h
     refine jg_iload_n dX5_countTouches_12 rfl ?_
     refine jg_aload_n dX5_countTouches_13 rfl ?_
     refine cs_get (s := s) (w := .ref (b + 39)) fl_X5_20 dX5_countTouches_14 (hB.ob 27 (by decide) rfl) rfl ?_
     refine jg_iload_n dX5_countTouches_17 rfl ?_
     obtain ⟨q2, h⟩ := gd_some h
     refine cs_ldr (s := s) (q := (b + 39)) (i := l2) (kd := 6) (by decide) dX5_countTouches_18 (hB.ar 39 (by decide) rfl) q2 ?_
     refine cs_get (s := s) (w := .int (s.1 (b + 39 + 1 + l2.toNatClampNeg) 18)) fl_X5_130 dX5_countTouches_19 (hB.ship q2.2) rfl ?_
     refine jg_iadd (x := l1) (y := (s.1 (b + 39 + 1 + l2.toNatClampNeg) 18)) dX5_countTouches_22  ?_
     refine jg_istore_n (L' := [some (.ref (b + 27)), some (.int (l1 + (s.1 (b + 39 + 1 + l2.toNatClampNeg) 18))), some (.int l2)]) dX5_countTouches_23 (by decide) rfl ?_
     refine jg_iinc (x := l2) (v := l2 + nI 1) (L' := [some (.ref (b + 27)), some (.int (l1 + (s.1 (b + 39 + 1 + l2.toNatClampNeg) 18))), some (.int (l2 + nI 1))]) dX5_countTouches_24 rfl (ic_k _ (by decide)) (by decide) rfl ?_
     refine jg_goto (tgt := 4) dX5_countTouches_27 (by decide) ?_
     refine jg_fg (L' := [some (.ref (b + 27)), some (.int (l1 + (s.1 (b + 39 + 1 + l2.toNatClampNeg) 18))), some (.int (l2 + nI 1))]) (by repeat (first | exact trivial | refine ⟨rfl, ?_⟩ | show jg_le _ _)) ?_
     exact ih (l1 + (s.1 (b + 39 + 1 + l2.toNatClampNeg) 18)) (l2 + nI 1) h
noncomputable def o_X5_countTouches (F : Nat) (τ : cT) (n : Nat) (b : Nat) (s : cS) : Option (Int32) := (o_X5_countTouches_4 F τ n b s F (nI 0) (nI 0)).bind fun x3 => (some x3)
set_option maxHeartbeats 4000000 in
theorem t_X5_countTouches {Γ : jg_G} {g : Nat → jg_C} (F : Nat) (τ : cT) (n : Nat) (b : Nat) (s : cS) (hB : Bd τ n b) {x : Int32} (h : o_X5_countTouches F τ n b s = some x) : jc Γ mX5_countTouches 0 0 0 [some (.ref (b + 27)), none, none] (ct_h g τ s, n) (.inl (some (.int x))) (ct_h g τ s, n) := by
  refine jc_of ?_
  rw [o_X5_countTouches] at h
  refine jg_iconst (v := nI 0) dX5_countTouches_0 (by decide) ?_
  refine jg_istore_n (L' := [some (.ref (b + 27)), some (.int (nI 0)), none]) dX5_countTouches_1 (by decide) rfl ?_
  refine jg_iconst (v := nI 0) dX5_countTouches_2 (by decide) ?_
  refine jg_istore_n (L' := [some (.ref (b + 27)), some (.int (nI 0)), some (.int (nI 0))]) dX5_countTouches_3 (by decide) rfl ?_
  obtain ⟨x3, e_x3, h⟩ := bd_some h
  refine jg_fg (L' := [some (.ref (b + 27)), some (.int (nI 0)), some (.int (nI 0))]) (by repeat (first | exact trivial | refine ⟨rfl, ?_⟩ | show jg_le _ _)) ?_
  refine t_X5_countTouches_4  F τ n b s hB _ (x := x3) ?_ F (nI 0) (nI 0) e_x3
  refine jg_iload_n dX5_countTouches_30 rfl ?_
  obtain rfl := Option.some.inj h
  exact jg_ireturn dX5_countTouches_31 rfl ⟨rfl, rfl⟩
theorem dX6_owedInAll_0 : decode cX6_owedInAll 0 = .ok (.iconst 0, 1) := by decide +kernel
theorem dX6_owedInAll_1 : decode cX6_owedInAll 1 = .ok (.istore_n 1, 1) := by decide +kernel
theorem dX6_owedInAll_2 : decode cX6_owedInAll 2 = .ok (.iconst 0, 1) := by decide +kernel
theorem dX6_owedInAll_3 : decode cX6_owedInAll 3 = .ok (.istore_n 2, 1) := by decide +kernel
theorem dX6_owedInAll_4 : decode cX6_owedInAll 4 = .ok (.iload_n 2, 1) := by decide +kernel
theorem dX6_owedInAll_5 : decode cX6_owedInAll 5 = .ok (.aload_n 0, 1) := by decide +kernel
theorem dX6_owedInAll_6 : decode cX6_owedInAll 6 = .ok (.getfield 56, 3) := by decide +kernel
theorem dX6_owedInAll_9 : decode cX6_owedInAll 9 = .ok (.if_icmp .ge 18, 3) := by decide +kernel
theorem dX6_owedInAll_12 : decode cX6_owedInAll 12 = .ok (.iload_n 1, 1) := by decide +kernel
theorem dX6_owedInAll_13 : decode cX6_owedInAll 13 = .ok (.aload_n 0, 1) := by decide +kernel
theorem dX6_owedInAll_14 : decode cX6_owedInAll 14 = .ok (.getfield 33, 3) := by decide +kernel
theorem dX6_owedInAll_17 : decode cX6_owedInAll 17 = .ok (.iload_n 2, 1) := by decide +kernel
theorem dX6_owedInAll_18 : decode cX6_owedInAll 18 = .ok (.iaload, 1) := by decide +kernel
theorem dX6_owedInAll_19 : decode cX6_owedInAll 19 = .ok (.iadd, 1) := by decide +kernel
theorem dX6_owedInAll_20 : decode cX6_owedInAll 20 = .ok (.istore_n 1, 1) := by decide +kernel
theorem dX6_owedInAll_21 : decode cX6_owedInAll 21 = .ok (.iinc 2 1, 3) := by decide +kernel
theorem dX6_owedInAll_24 : decode cX6_owedInAll 24 = .ok (.goto (-20), 3) := by decide +kernel
theorem dX6_owedInAll_27 : decode cX6_owedInAll 27 = .ok (.iload_n 1, 1) := by decide +kernel
theorem dX6_owedInAll_28 : decode cX6_owedInAll 28 = .ok (.ireturn, 1) := by decide +kernel
noncomputable def o_X6_owedInAll_4 (F : Nat) (τ : cT) (n : Nat) (b : Nat) (s : cS) : Nat → Int32 → Int32 → Option (Int32)
  | 0, _, _ => none
  | f + 1, l1, l2 => if (s.1 (b + 121) 13) ≤ l2 then (some l1) else (if iL l2 20 then (o_X6_owedInAll_4 F τ n b s f (l1 + (cg s (b + 129) l2)) (l2 + nI 1)) else none)
set_option maxHeartbeats 4000000 in
theorem t_X6_owedInAll_4 {Γ : jg_G} {g : Nat → jg_C} (F : Nat) (τ : cT) (n : Nat) (b : Nat) (s : cS) (hB : Bd τ n b) (Q : jg_Q) {x : Int32} (K1 : jg Γ mX6_owedInAll 0 0 0 27 [none, some (.int x), none] [] (ct_h g τ s, n) Q)  : ∀ (f : Nat) (l1 : Int32) (l2 : Int32), o_X6_owedInAll_4 F τ n b s f l1 l2 = some x → jg Γ mX6_owedInAll 0 0 0 4 [some (.ref (b + 121)), some (.int l1), some (.int l2)] [] (ct_h g τ s, n) Q := by
  intro f
  induction f with
  | zero => intro l1 l2 h; rw [o_X6_owedInAll_4] at h; cases h
  | succ f ih =>
   intro l1 l2 h
   rw [o_X6_owedInAll_4] at h
   refine jg_iload_n dX6_owedInAll_4 rfl ?_
   refine jg_aload_n dX6_owedInAll_5 rfl ?_
   refine cs_get (s := s) (w := .int (s.1 (b + 121) 13)) fl_X6_56 dX6_owedInAll_6 (hB.ob 121 (by decide) rfl) rfl ?_
   refine jg_icmp_ge (x := l2) (y := (s.1 (b + 121) 13)) (tgt := 27) dX6_owedInAll_9 (by decide) (fun c1 => ?_) (fun c1 => ?_)
   · replace h := it_t c1 h
     refine jg_fg (L' := [none, some (.int l1), none]) (by repeat (first | exact trivial | refine ⟨rfl, ?_⟩ | show jg_le _ _)) ?_
     obtain rfl := Option.some.inj h
     exact K1
   · replace h := it_f c1 h
     refine jg_iload_n dX6_owedInAll_12 rfl ?_
     refine jg_aload_n dX6_owedInAll_13 rfl ?_
     refine cs_get (s := s) (w := .ref (b + 129)) fl_X6_33 dX6_owedInAll_14 (hB.ob 121 (by decide) rfl) rfl ?_
     refine jg_iload_n dX6_owedInAll_17 rfl ?_
     obtain ⟨q2, h⟩ := gd_some h
     refine cs_lda (s := s) (q := (b + 129)) (i := l2) dX6_owedInAll_18 (hB.ar 129 (by decide) rfl) q2 ?_
     refine jg_iadd (x := l1) (y := (cg s (b + 129) l2)) dX6_owedInAll_19  ?_
     refine jg_istore_n (L' := [some (.ref (b + 121)), some (.int (l1 + (cg s (b + 129) l2))), some (.int l2)]) dX6_owedInAll_20 (by decide) rfl ?_
     refine jg_iinc (x := l2) (v := l2 + nI 1) (L' := [some (.ref (b + 121)), some (.int (l1 + (cg s (b + 129) l2))), some (.int (l2 + nI 1))]) dX6_owedInAll_21 rfl (ic_k _ (by decide)) (by decide) rfl ?_
     refine jg_goto (tgt := 4) dX6_owedInAll_24 (by decide) ?_
     refine jg_fg (L' := [some (.ref (b + 121)), some (.int (l1 + (cg s (b + 129) l2))), some (.int (l2 + nI 1))]) (by repeat (first | exact trivial | refine ⟨rfl, ?_⟩ | show jg_le _ _)) ?_
     exact ih (l1 + (cg s (b + 129) l2)) (l2 + nI 1) h
noncomputable def o_X6_owedInAll (F : Nat) (τ : cT) (n : Nat) (b : Nat) (s : cS) : Option (Int32) := (o_X6_owedInAll_4 F τ n b s F (nI 0) (nI 0)).bind fun x3 => (some x3)
set_option maxHeartbeats 4000000 in
theorem t_X6_owedInAll {Γ : jg_G} {g : Nat → jg_C} (F : Nat) (τ : cT) (n : Nat) (b : Nat) (s : cS) (hB : Bd τ n b) {x : Int32} (h : o_X6_owedInAll F τ n b s = some x) : jc Γ mX6_owedInAll 0 0 0 [some (.ref (b + 121)), none, none] (ct_h g τ s, n) (.inl (some (.int x))) (ct_h g τ s, n) := by
  refine jc_of ?_
  rw [o_X6_owedInAll] at h
  refine jg_iconst (v := nI 0) dX6_owedInAll_0 (by decide) ?_
  refine jg_istore_n (L' := [some (.ref (b + 121)), some (.int (nI 0)), none]) dX6_owedInAll_1 (by decide) rfl ?_
  refine jg_iconst (v := nI 0) dX6_owedInAll_2 (by decide) ?_
  refine jg_istore_n (L' := [some (.ref (b + 121)), some (.int (nI 0)), some (.int (nI 0))]) dX6_owedInAll_3 (by decide) rfl ?_
  obtain ⟨x3, e_x3, h⟩ := bd_some h
  refine jg_fg (L' := [some (.ref (b + 121)), some (.int (nI 0)), some (.int (nI 0))]) (by repeat (first | exact trivial | refine ⟨rfl, ?_⟩ | show jg_le _ _)) ?_
  refine t_X6_owedInAll_4  F τ n b s hB _ (x := x3) ?_ F (nI 0) (nI 0) e_x3
  refine jg_iload_n dX6_owedInAll_27 rfl ?_
  obtain rfl := Option.some.inj h
  exact jg_ireturn dX6_owedInAll_28 rfl ⟨rfl, rfl⟩
theorem dX8_tellRun_0 : decode cX8_tellRun 0 = .ok (.aload_n 0, 1) := by decide +kernel
theorem dX8_tellRun_1 : decode cX8_tellRun 1 = .ok (.getfield 49, 3) := by decide +kernel
theorem dX8_tellRun_4 : decode cX8_tellRun 4 = .ok (.bipush 40, 2) := by decide +kernel
theorem dX8_tellRun_6 : decode cX8_tellRun 6 = .ok (.if_icmp .lt 5, 3) := by decide +kernel
theorem dX8_tellRun_9 : decode cX8_tellRun 9 = .ok (.iconst (-1), 1) := by decide +kernel
theorem dX8_tellRun_10 : decode cX8_tellRun 10 = .ok (.ireturn, 1) := by decide +kernel
theorem dX8_tellRun_11 : decode cX8_tellRun 11 = .ok (.aload_n 0, 1) := by decide +kernel
theorem dX8_tellRun_12 : decode cX8_tellRun 12 = .ok (.getfield 24, 3) := by decide +kernel
theorem dX8_tellRun_15 : decode cX8_tellRun 15 = .ok (.aload_n 0, 1) := by decide +kernel
theorem dX8_tellRun_16 : decode cX8_tellRun 16 = .ok (.getfield 49, 3) := by decide +kernel
theorem dX8_tellRun_19 : decode cX8_tellRun 19 = .ok (.iload_n 1, 1) := by decide +kernel
theorem dX8_tellRun_20 : decode cX8_tellRun 20 = .ok (.iastore, 1) := by decide +kernel
theorem dX8_tellRun_21 : decode cX8_tellRun 21 = .ok (.aload_n 0, 1) := by decide +kernel
theorem dX8_tellRun_22 : decode cX8_tellRun 22 = .ok (.getfield 27, 3) := by decide +kernel
theorem dX8_tellRun_25 : decode cX8_tellRun 25 = .ok (.aload_n 0, 1) := by decide +kernel
theorem dX8_tellRun_26 : decode cX8_tellRun 26 = .ok (.getfield 49, 3) := by decide +kernel
theorem dX8_tellRun_29 : decode cX8_tellRun 29 = .ok (.iload_n 2, 1) := by decide +kernel
theorem dX8_tellRun_30 : decode cX8_tellRun 30 = .ok (.iastore, 1) := by decide +kernel
theorem dX8_tellRun_31 : decode cX8_tellRun 31 = .ok (.aload_n 0, 1) := by decide +kernel
theorem dX8_tellRun_32 : decode cX8_tellRun 32 = .ok (.dup, 1) := by decide +kernel
theorem dX8_tellRun_33 : decode cX8_tellRun 33 = .ok (.getfield 49, 3) := by decide +kernel
theorem dX8_tellRun_36 : decode cX8_tellRun 36 = .ok (.iconst 1, 1) := by decide +kernel
theorem dX8_tellRun_37 : decode cX8_tellRun 37 = .ok (.iadd, 1) := by decide +kernel
theorem dX8_tellRun_38 : decode cX8_tellRun 38 = .ok (.putfield 49, 3) := by decide +kernel
theorem dX8_tellRun_41 : decode cX8_tellRun 41 = .ok (.aload_n 0, 1) := by decide +kernel
theorem dX8_tellRun_42 : decode cX8_tellRun 42 = .ok (.getfield 49, 3) := by decide +kernel
theorem dX8_tellRun_45 : decode cX8_tellRun 45 = .ok (.ireturn, 1) := by decide +kernel
noncomputable def o_X8_tellRun (τ : cT) (n : Nat) (b : Nat) (s : cS) (a1 : Int32) (a2 : Int32) : Option (Int32 × cS) := if (s.1 (b + 1) 6) < (nI 40) then (if iL (s.1 (b + 1) 6) 40 then (if iL ((ca s (b + 6) (s.1 (b + 1) 6) a1).1 (b + 1) 6) 40 then ((some (ca (ca s (b + 6) (s.1 (b + 1) 6) a1) (b + 7) ((ca s (b + 6) (s.1 (b + 1) 6) a1).1 (b + 1) 6) a2)).bind fun x4 => (some ((cp x4 (b + 1) 6 ((x4.1 (b + 1) 6) + (nI 1))).1 (b + 1) 6, cp x4 (b + 1) 6 ((x4.1 (b + 1) 6) + (nI 1))))) else none) else none) else (some ((-1), s))
set_option maxHeartbeats 4000000 in
theorem t_X8_tellRun {Γ : jg_G} {g : Nat → jg_C} (τ : cT) (n : Nat) (b : Nat) (s : cS) (a1 : Int32) (a2 : Int32) (hB : Bd τ n b) {x : Int32 × cS} (h : o_X8_tellRun τ n b s a1 a2 = some x) : jc Γ mX8_tellRun 0 0 0 [some (.ref (b + 1)), some (.int a1), some (.int a2)] (ct_h g τ s, n) (.inl (some (.int x.1))) (ct_h g τ x.2, n) := by
  refine jc_of ?_
  rw [o_X8_tellRun] at h
  refine jg_aload_n dX8_tellRun_0 rfl ?_
  refine cs_get (s := s) (w := .int (s.1 (b + 1) 6)) fl_X8_49 dX8_tellRun_1 (hB.ob 1 (by decide) rfl) rfl ?_
  refine jg_bipush (v := nI 40) dX8_tellRun_4 (by decide) ?_
  refine jg_icmp_lt (x := (s.1 (b + 1) 6)) (y := (nI 40)) (tgt := 11) dX8_tellRun_6 (by decide) (fun c1 => ?_) (fun c1 => ?_)
  · replace h := it_t c1 h
    refine jg_aload_n dX8_tellRun_11 rfl ?_
    refine cs_get (s := s) (w := .ref (b + 6)) fl_X8_24 dX8_tellRun_12 (hB.ob 1 (by decide) rfl) rfl ?_
    refine jg_aload_n dX8_tellRun_15 rfl ?_
    refine cs_get (s := s) (w := .int (s.1 (b + 1) 6)) fl_X8_49 dX8_tellRun_16 (hB.ob 1 (by decide) rfl) rfl ?_
    refine jg_iload_n dX8_tellRun_19 rfl ?_
    obtain ⟨q2, h⟩ := gd_some h
    refine cs_sta (s := s) (q := (b + 6)) (i := (s.1 (b + 1) 6)) (x := a1) dX8_tellRun_20 (hB.ar 6 (by decide) rfl) q2 ?_
    refine jg_aload_n dX8_tellRun_21 rfl ?_
    refine cs_get (s := (ca s (b + 6) (s.1 (b + 1) 6) a1)) (w := .ref (b + 7)) fl_X8_27 dX8_tellRun_22 (hB.ob 1 (by decide) rfl) rfl ?_
    refine jg_aload_n dX8_tellRun_25 rfl ?_
    refine cs_get (s := (ca s (b + 6) (s.1 (b + 1) 6) a1)) (w := .int ((ca s (b + 6) (s.1 (b + 1) 6) a1).1 (b + 1) 6)) fl_X8_49 dX8_tellRun_26 (hB.ob 1 (by decide) rfl) rfl ?_
    refine jg_iload_n dX8_tellRun_29 rfl ?_
    obtain ⟨q3, h⟩ := gd_some h
    refine cs_sta (s := (ca s (b + 6) (s.1 (b + 1) 6) a1)) (q := (b + 7)) (i := ((ca s (b + 6) (s.1 (b + 1) 6) a1).1 (b + 1) 6)) (x := a2) dX8_tellRun_30 (hB.ar 7 (by decide) rfl) q3 ?_
    obtain ⟨x4, e_x4, h⟩ := bd_some h
    refine cs_sub (Option.some.inj e_x4) ?_
    refine jg_aload_n dX8_tellRun_31 rfl ?_
    refine jg_dup dX8_tellRun_32 rfl ?_
    refine cs_get (s := x4) (w := .int (x4.1 (b + 1) 6)) fl_X8_49 dX8_tellRun_33 (hB.ob 1 (by decide) rfl) rfl ?_
    refine jg_iconst (v := nI 1) dX8_tellRun_36 (by decide) ?_
    refine jg_iadd (x := (x4.1 (b + 1) 6)) (y := (nI 1)) dX8_tellRun_37  ?_
    refine cs_put (s := x4) (k := 6) (x := ((x4.1 (b + 1) 6) + (nI 1))) fl_X8_49 dX8_tellRun_38 (hB.ob 1 (by decide) rfl) (ltb rfl) (rfl) rfl rfl ?_
    refine jg_aload_n dX8_tellRun_41 rfl ?_
    refine cs_get (s := (cp x4 (b + 1) 6 ((x4.1 (b + 1) 6) + (nI 1)))) (w := .int ((cp x4 (b + 1) 6 ((x4.1 (b + 1) 6) + (nI 1))).1 (b + 1) 6)) fl_X8_49 dX8_tellRun_42 (hB.ob 1 (by decide) rfl) rfl ?_
    obtain rfl := Option.some.inj h
    exact jg_ireturn dX8_tellRun_45 rfl ⟨rfl, rfl⟩
  · replace h := it_f c1 h
    refine jg_iconst (v := (-1)) dX8_tellRun_9 (by decide) ?_
    obtain rfl := Option.some.inj h
    exact jg_ireturn dX8_tellRun_10 rfl ⟨rfl, rfl⟩
theorem dX8_addDredger_0 : decode cX8_addDredger 0 = .ok (.aload_n 0, 1) := by decide +kernel
theorem dX8_addDredger_1 : decode cX8_addDredger 1 = .ok (.getfield 30, 3) := by decide +kernel
theorem dX8_addDredger_4 : decode cX8_addDredger 4 = .ok (.aload_n 0, 1) := by decide +kernel
theorem dX8_addDredger_5 : decode cX8_addDredger 5 = .ok (.getfield 53, 3) := by decide +kernel
theorem dX8_addDredger_8 : decode cX8_addDredger 8 = .ok (.iload_n 1, 1) := by decide +kernel
theorem dX8_addDredger_9 : decode cX8_addDredger 9 = .ok (.iastore, 1) := by decide +kernel
theorem dX8_addDredger_10 : decode cX8_addDredger 10 = .ok (.aload_n 0, 1) := by decide +kernel
theorem dX8_addDredger_11 : decode cX8_addDredger 11 = .ok (.getfield 33, 3) := by decide +kernel
theorem dX8_addDredger_14 : decode cX8_addDredger 14 = .ok (.aload_n 0, 1) := by decide +kernel
theorem dX8_addDredger_15 : decode cX8_addDredger 15 = .ok (.getfield 53, 3) := by decide +kernel
theorem dX8_addDredger_18 : decode cX8_addDredger 18 = .ok (.iconst (-1), 1) := by decide +kernel
theorem dX8_addDredger_19 : decode cX8_addDredger 19 = .ok (.iastore, 1) := by decide +kernel
theorem dX8_addDredger_20 : decode cX8_addDredger 20 = .ok (.aload_n 0, 1) := by decide +kernel
theorem dX8_addDredger_21 : decode cX8_addDredger 21 = .ok (.getfield 36, 3) := by decide +kernel
theorem dX8_addDredger_24 : decode cX8_addDredger 24 = .ok (.aload_n 0, 1) := by decide +kernel
theorem dX8_addDredger_25 : decode cX8_addDredger 25 = .ok (.getfield 53, 3) := by decide +kernel
theorem dX8_addDredger_28 : decode cX8_addDredger 28 = .ok (.iconst (-1), 1) := by decide +kernel
theorem dX8_addDredger_29 : decode cX8_addDredger 29 = .ok (.iastore, 1) := by decide +kernel
theorem dX8_addDredger_30 : decode cX8_addDredger 30 = .ok (.aload_n 0, 1) := by decide +kernel
theorem dX8_addDredger_31 : decode cX8_addDredger 31 = .ok (.dup, 1) := by decide +kernel
theorem dX8_addDredger_32 : decode cX8_addDredger 32 = .ok (.getfield 53, 3) := by decide +kernel
theorem dX8_addDredger_35 : decode cX8_addDredger 35 = .ok (.iconst 1, 1) := by decide +kernel
theorem dX8_addDredger_36 : decode cX8_addDredger 36 = .ok (.iadd, 1) := by decide +kernel
theorem dX8_addDredger_37 : decode cX8_addDredger 37 = .ok (.putfield 53, 3) := by decide +kernel
theorem dX8_addDredger_40 : decode cX8_addDredger 40 = .ok (.aload_n 0, 1) := by decide +kernel
theorem dX8_addDredger_41 : decode cX8_addDredger 41 = .ok (.getfield 53, 3) := by decide +kernel
theorem dX8_addDredger_44 : decode cX8_addDredger 44 = .ok (.iconst 1, 1) := by decide +kernel
theorem dX8_addDredger_45 : decode cX8_addDredger 45 = .ok (.isub, 1) := by decide +kernel
theorem dX8_addDredger_46 : decode cX8_addDredger 46 = .ok (.ireturn, 1) := by decide +kernel
noncomputable def o_X8_addDredger (τ : cT) (n : Nat) (b : Nat) (s : cS) (a1 : Int32) : Option (Int32 × cS) := if iL (s.1 (b + 1) 10) 6 then (if iL ((ca s (b + 8) (s.1 (b + 1) 10) a1).1 (b + 1) 10) 6 then ((some (ca (ca s (b + 8) (s.1 (b + 1) 10) a1) (b + 9) ((ca s (b + 8) (s.1 (b + 1) 10) a1).1 (b + 1) 10) (-1))).bind fun x3 => (if iL (x3.1 (b + 1) 10) 6 then ((some (cp (ca x3 (b + 10) (x3.1 (b + 1) 10) (-1)) (b + 1) 10 (((ca x3 (b + 10) (x3.1 (b + 1) 10) (-1)).1 (b + 1) 10) + (nI 1)))).bind fun x5 => (some ((x5.1 (b + 1) 10) - (nI 1), x5))) else none)) else none) else none
set_option maxHeartbeats 4000000 in
theorem t_X8_addDredger {Γ : jg_G} {g : Nat → jg_C} (τ : cT) (n : Nat) (b : Nat) (s : cS) (a1 : Int32) (hB : Bd τ n b) {x : Int32 × cS} (h : o_X8_addDredger τ n b s a1 = some x) : jc Γ mX8_addDredger 0 0 0 [some (.ref (b + 1)), some (.int a1)] (ct_h g τ s, n) (.inl (some (.int x.1))) (ct_h g τ x.2, n) := by
  refine jc_of ?_
  rw [o_X8_addDredger] at h
  refine jg_aload_n dX8_addDredger_0 rfl ?_
  refine cs_get (s := s) (w := .ref (b + 8)) fl_X8_30 dX8_addDredger_1 (hB.ob 1 (by decide) rfl) rfl ?_
  refine jg_aload_n dX8_addDredger_4 rfl ?_
  refine cs_get (s := s) (w := .int (s.1 (b + 1) 10)) fl_X8_53 dX8_addDredger_5 (hB.ob 1 (by decide) rfl) rfl ?_
  refine jg_iload_n dX8_addDredger_8 rfl ?_
  obtain ⟨q1, h⟩ := gd_some h
  refine cs_sta (s := s) (q := (b + 8)) (i := (s.1 (b + 1) 10)) (x := a1) dX8_addDredger_9 (hB.ar 8 (by decide) rfl) q1 ?_
  refine jg_aload_n dX8_addDredger_10 rfl ?_
  refine cs_get (s := (ca s (b + 8) (s.1 (b + 1) 10) a1)) (w := .ref (b + 9)) fl_X8_33 dX8_addDredger_11 (hB.ob 1 (by decide) rfl) rfl ?_
  refine jg_aload_n dX8_addDredger_14 rfl ?_
  refine cs_get (s := (ca s (b + 8) (s.1 (b + 1) 10) a1)) (w := .int ((ca s (b + 8) (s.1 (b + 1) 10) a1).1 (b + 1) 10)) fl_X8_53 dX8_addDredger_15 (hB.ob 1 (by decide) rfl) rfl ?_
  refine jg_iconst (v := (-1)) dX8_addDredger_18 (by decide) ?_
  obtain ⟨q2, h⟩ := gd_some h
  refine cs_sta (s := (ca s (b + 8) (s.1 (b + 1) 10) a1)) (q := (b + 9)) (i := ((ca s (b + 8) (s.1 (b + 1) 10) a1).1 (b + 1) 10)) (x := (-1)) dX8_addDredger_19 (hB.ar 9 (by decide) rfl) q2 ?_
  obtain ⟨x3, e_x3, h⟩ := bd_some h
  refine cs_sub (Option.some.inj e_x3) ?_
  refine jg_aload_n dX8_addDredger_20 rfl ?_
  refine cs_get (s := x3) (w := .ref (b + 10)) fl_X8_36 dX8_addDredger_21 (hB.ob 1 (by decide) rfl) rfl ?_
  refine jg_aload_n dX8_addDredger_24 rfl ?_
  refine cs_get (s := x3) (w := .int (x3.1 (b + 1) 10)) fl_X8_53 dX8_addDredger_25 (hB.ob 1 (by decide) rfl) rfl ?_
  refine jg_iconst (v := (-1)) dX8_addDredger_28 (by decide) ?_
  obtain ⟨q4, h⟩ := gd_some h
  refine cs_sta (s := x3) (q := (b + 10)) (i := (x3.1 (b + 1) 10)) (x := (-1)) dX8_addDredger_29 (hB.ar 10 (by decide) rfl) q4 ?_
  refine jg_aload_n dX8_addDredger_30 rfl ?_
  refine jg_dup dX8_addDredger_31 rfl ?_
  refine cs_get (s := (ca x3 (b + 10) (x3.1 (b + 1) 10) (-1))) (w := .int ((ca x3 (b + 10) (x3.1 (b + 1) 10) (-1)).1 (b + 1) 10)) fl_X8_53 dX8_addDredger_32 (hB.ob 1 (by decide) rfl) rfl ?_
  refine jg_iconst (v := nI 1) dX8_addDredger_35 (by decide) ?_
  refine jg_iadd (x := ((ca x3 (b + 10) (x3.1 (b + 1) 10) (-1)).1 (b + 1) 10)) (y := (nI 1)) dX8_addDredger_36  ?_
  refine cs_put (s := (ca x3 (b + 10) (x3.1 (b + 1) 10) (-1))) (k := 10) (x := (((ca x3 (b + 10) (x3.1 (b + 1) 10) (-1)).1 (b + 1) 10) + (nI 1))) fl_X8_53 dX8_addDredger_37 (hB.ob 1 (by decide) rfl) (ltb rfl) (rfl) rfl rfl ?_
  obtain ⟨x5, e_x5, h⟩ := bd_some h
  refine cs_sub (Option.some.inj e_x5) ?_
  refine jg_aload_n dX8_addDredger_40 rfl ?_
  refine cs_get (s := x5) (w := .int (x5.1 (b + 1) 10)) fl_X8_53 dX8_addDredger_41 (hB.ob 1 (by decide) rfl) rfl ?_
  refine jg_iconst (v := nI 1) dX8_addDredger_44 (by decide) ?_
  refine jg_isub (x := (x5.1 (b + 1) 10)) (y := (nI 1)) dX8_addDredger_45  ?_
  obtain rfl := Option.some.inj h
  exact jg_ireturn dX8_addDredger_46 rfl ⟨rfl, rfl⟩
theorem dX8_send_0 : decode cX8_send 0 = .ok (.aload_n 0, 1) := by decide +kernel
theorem dX8_send_1 : decode cX8_send 1 = .ok (.getfield 33, 3) := by decide +kernel
theorem dX8_send_4 : decode cX8_send 4 = .ok (.iload_n 1, 1) := by decide +kernel
theorem dX8_send_5 : decode cX8_send 5 = .ok (.iaload, 1) := by decide +kernel
theorem dX8_send_6 : decode cX8_send 6 = .ok (.iload_n 2, 1) := by decide +kernel
theorem dX8_send_7 : decode cX8_send 7 = .ok (.if_icmp .ne 13, 3) := by decide +kernel
theorem dX8_send_10 : decode cX8_send 10 = .ok (.aload_n 0, 1) := by decide +kernel
theorem dX8_send_11 : decode cX8_send 11 = .ok (.getfield 36, 3) := by decide +kernel
theorem dX8_send_14 : decode cX8_send 14 = .ok (.iload_n 1, 1) := by decide +kernel
theorem dX8_send_15 : decode cX8_send 15 = .ok (.iaload, 1) := by decide +kernel
theorem dX8_send_16 : decode cX8_send 16 = .ok (.iload_n 3, 1) := by decide +kernel
theorem dX8_send_17 : decode cX8_send 17 = .ok (.if_icmp .eq 7, 3) := by decide +kernel
theorem dX8_send_20 : decode cX8_send 20 = .ok (.iconst 1, 1) := by decide +kernel
theorem dX8_send_21 : decode cX8_send 21 = .ok (.goto 4, 3) := by decide +kernel
theorem dX8_send_24 : decode cX8_send 24 = .ok (.iconst 0, 1) := by decide +kernel
theorem dX8_send_25 : decode cX8_send 25 = .ok (.istore 4, 2) := by decide +kernel
theorem dX8_send_27 : decode cX8_send 27 = .ok (.aload_n 0, 1) := by decide +kernel
theorem dX8_send_28 : decode cX8_send 28 = .ok (.getfield 33, 3) := by decide +kernel
theorem dX8_send_31 : decode cX8_send 31 = .ok (.iload_n 1, 1) := by decide +kernel
theorem dX8_send_32 : decode cX8_send 32 = .ok (.iload_n 2, 1) := by decide +kernel
theorem dX8_send_33 : decode cX8_send 33 = .ok (.iastore, 1) := by decide +kernel
theorem dX8_send_34 : decode cX8_send 34 = .ok (.aload_n 0, 1) := by decide +kernel
theorem dX8_send_35 : decode cX8_send 35 = .ok (.getfield 36, 3) := by decide +kernel
theorem dX8_send_38 : decode cX8_send 38 = .ok (.iload_n 1, 1) := by decide +kernel
theorem dX8_send_39 : decode cX8_send 39 = .ok (.iload_n 3, 1) := by decide +kernel
theorem dX8_send_40 : decode cX8_send 40 = .ok (.iastore, 1) := by decide +kernel
theorem dX8_send_41 : decode cX8_send 41 = .ok (.iload 4, 2) := by decide +kernel
theorem dX8_send_43 : decode cX8_send 43 = .ok (.ireturn, 1) := by decide +kernel
noncomputable def o_X8_send (τ : cT) (n : Nat) (b : Nat) (s : cS) (a1 : Int32) (a2 : Int32) (a3 : Int32) : Option (Int32 × cS) := if iL a1 6 then (if (cg s (b + 9) a1) = a2 then (if (cg s (b + 10) a1) = a3 then (some (nI 0, ca (ca s (b + 9) a1 a2) (b + 10) a1 a3)) else (some (nI 1, ca (ca s (b + 9) a1 a2) (b + 10) a1 a3))) else (some (nI 1, ca (ca s (b + 9) a1 a2) (b + 10) a1 a3))) else none
set_option maxHeartbeats 4000000 in
theorem t_X8_send {Γ : jg_G} {g : Nat → jg_C} (τ : cT) (n : Nat) (b : Nat) (s : cS) (a1 : Int32) (a2 : Int32) (a3 : Int32) (hB : Bd τ n b) {x : Int32 × cS} (h : o_X8_send τ n b s a1 a2 a3 = some x) : jc Γ mX8_send 0 0 0 [some (.ref (b + 1)), some (.int a1), some (.int a2), some (.int a3), none] (ct_h g τ s, n) (.inl (some (.int x.1))) (ct_h g τ x.2, n) := by
  refine jc_of ?_
  rw [o_X8_send] at h
  refine jg_aload_n dX8_send_0 rfl ?_
  refine cs_get (s := s) (w := .ref (b + 9)) fl_X8_33 dX8_send_1 (hB.ob 1 (by decide) rfl) rfl ?_
  refine jg_iload_n dX8_send_4 rfl ?_
  obtain ⟨q1, h⟩ := gd_some h
  refine cs_lda (s := s) (q := (b + 9)) (i := a1) dX8_send_5 (hB.ar 9 (by decide) rfl) q1 ?_
  refine jg_iload_n dX8_send_6 rfl ?_
  refine jg_icmp_ne (x := (cg s (b + 9) a1)) (y := a2) (tgt := 20) dX8_send_7 (by decide) (fun c2 => ?_) (fun c2 => ?_)
  · replace h := it_f c2 h
    refine jg_iconst (v := nI 1) dX8_send_20 (by decide) ?_
    refine jg_goto (tgt := 25) dX8_send_21 (by decide) ?_
    refine jg_istore (L' := [some (.ref (b + 1)), some (.int a1), some (.int a2), some (.int a3), some (.int (nI 1))]) dX8_send_25 (by decide) rfl ?_
    refine jg_aload_n dX8_send_27 rfl ?_
    refine cs_get (s := s) (w := .ref (b + 9)) fl_X8_33 dX8_send_28 (hB.ob 1 (by decide) rfl) rfl ?_
    refine jg_iload_n dX8_send_31 rfl ?_
    refine jg_iload_n dX8_send_32 rfl ?_
    refine cs_sta (s := s) (q := (b + 9)) (i := a1) (x := a2) dX8_send_33 (hB.ar 9 (by decide) rfl) q1 ?_
    refine jg_aload_n dX8_send_34 rfl ?_
    refine cs_get (s := (ca s (b + 9) a1 a2)) (w := .ref (b + 10)) fl_X8_36 dX8_send_35 (hB.ob 1 (by decide) rfl) rfl ?_
    refine jg_iload_n dX8_send_38 rfl ?_
    refine jg_iload_n dX8_send_39 rfl ?_
    refine cs_sta (s := (ca s (b + 9) a1 a2)) (q := (b + 10)) (i := a1) (x := a3) dX8_send_40 (hB.ar 10 (by decide) rfl) q1 ?_
    refine jg_iload dX8_send_41 rfl ?_
    obtain rfl := Option.some.inj h
    exact jg_zreturn dX8_send_43 rfl (rfl) ⟨rfl, rfl⟩
  · replace h := it_t c2 h
    refine jg_aload_n dX8_send_10 rfl ?_
    refine cs_get (s := s) (w := .ref (b + 10)) fl_X8_36 dX8_send_11 (hB.ob 1 (by decide) rfl) rfl ?_
    refine jg_iload_n dX8_send_14 rfl ?_
    refine cs_lda (s := s) (q := (b + 10)) (i := a1) dX8_send_15 (hB.ar 10 (by decide) rfl) q1 ?_
    refine jg_iload_n dX8_send_16 rfl ?_
    refine jg_icmp_eq (x := (cg s (b + 10) a1)) (y := a3) (tgt := 24) dX8_send_17 (by decide) (fun c3 => ?_) (fun c3 => ?_)
    · replace h := it_t c3 h
      refine jg_iconst (v := nI 0) dX8_send_24 (by decide) ?_
      refine jg_istore (L' := [some (.ref (b + 1)), some (.int a1), some (.int a2), some (.int a3), some (.int (nI 0))]) dX8_send_25 (by decide) rfl ?_
      refine jg_aload_n dX8_send_27 rfl ?_
      refine cs_get (s := s) (w := .ref (b + 9)) fl_X8_33 dX8_send_28 (hB.ob 1 (by decide) rfl) rfl ?_
      refine jg_iload_n dX8_send_31 rfl ?_
      refine jg_iload_n dX8_send_32 rfl ?_
      refine cs_sta (s := s) (q := (b + 9)) (i := a1) (x := a2) dX8_send_33 (hB.ar 9 (by decide) rfl) q1 ?_
      refine jg_aload_n dX8_send_34 rfl ?_
      refine cs_get (s := (ca s (b + 9) a1 a2)) (w := .ref (b + 10)) fl_X8_36 dX8_send_35 (hB.ob 1 (by decide) rfl) rfl ?_
      refine jg_iload_n dX8_send_38 rfl ?_
      refine jg_iload_n dX8_send_39 rfl ?_
      refine cs_sta (s := (ca s (b + 9) a1 a2)) (q := (b + 10)) (i := a1) (x := a3) dX8_send_40 (hB.ar 10 (by decide) rfl) q1 ?_
      refine jg_iload dX8_send_41 rfl ?_
      obtain rfl := Option.some.inj h
      exact jg_zreturn dX8_send_43 rfl (rfl) ⟨rfl, rfl⟩
    · replace h := it_f c3 h
      refine jg_iconst (v := nI 1) dX8_send_20 (by decide) ?_
      refine jg_goto (tgt := 25) dX8_send_21 (by decide) ?_
      refine jg_istore (L' := [some (.ref (b + 1)), some (.int a1), some (.int a2), some (.int a3), some (.int (nI 1))]) dX8_send_25 (by decide) rfl ?_
      refine jg_aload_n dX8_send_27 rfl ?_
      refine cs_get (s := s) (w := .ref (b + 9)) fl_X8_33 dX8_send_28 (hB.ob 1 (by decide) rfl) rfl ?_
      refine jg_iload_n dX8_send_31 rfl ?_
      refine jg_iload_n dX8_send_32 rfl ?_
      refine cs_sta (s := s) (q := (b + 9)) (i := a1) (x := a2) dX8_send_33 (hB.ar 9 (by decide) rfl) q1 ?_
      refine jg_aload_n dX8_send_34 rfl ?_
      refine cs_get (s := (ca s (b + 9) a1 a2)) (w := .ref (b + 10)) fl_X8_36 dX8_send_35 (hB.ob 1 (by decide) rfl) rfl ?_
      refine jg_iload_n dX8_send_38 rfl ?_
      refine jg_iload_n dX8_send_39 rfl ?_
      refine cs_sta (s := (ca s (b + 9) a1 a2)) (q := (b + 10)) (i := a1) (x := a3) dX8_send_40 (hB.ar 10 (by decide) rfl) q1 ?_
      refine jg_iload dX8_send_41 rfl ?_
      obtain rfl := Option.some.inj h
      exact jg_zreturn dX8_send_43 rfl (rfl) ⟨rfl, rfl⟩
theorem dX10_latest_0 : decode cX10_latest 0 = .ok (.iconst (-1), 1) := by decide +kernel
theorem dX10_latest_1 : decode cX10_latest 1 = .ok (.istore_n 3, 1) := by decide +kernel
theorem dX10_latest_2 : decode cX10_latest 2 = .ok (.iconst 0, 1) := by decide +kernel
theorem dX10_latest_3 : decode cX10_latest 3 = .ok (.istore 4, 2) := by decide +kernel
theorem dX10_latest_5 : decode cX10_latest 5 = .ok (.iload 4, 2) := by decide +kernel
theorem dX10_latest_7 : decode cX10_latest 7 = .ok (.aload_n 0, 1) := by decide +kernel
theorem dX10_latest_8 : decode cX10_latest 8 = .ok (.getfield 37, 3) := by decide +kernel
theorem dX10_latest_11 : decode cX10_latest 11 = .ok (.if_icmp .ge 55, 3) := by decide +kernel
theorem dX10_latest_14 : decode cX10_latest 14 = .ok (.aload_n 0, 1) := by decide +kernel
theorem dX10_latest_15 : decode cX10_latest 15 = .ok (.getfield 9, 3) := by decide +kernel
theorem dX10_latest_18 : decode cX10_latest 18 = .ok (.iload 4, 2) := by decide +kernel
theorem dX10_latest_20 : decode cX10_latest 20 = .ok (.iaload, 1) := by decide +kernel
theorem dX10_latest_21 : decode cX10_latest 21 = .ok (.iload_n 1, 1) := by decide +kernel
theorem dX10_latest_22 : decode cX10_latest 22 = .ok (.if_icmp .ne 38, 3) := by decide +kernel
theorem dX10_latest_25 : decode cX10_latest 25 = .ok (.aload_n 0, 1) := by decide +kernel
theorem dX10_latest_26 : decode cX10_latest 26 = .ok (.getfield 21, 3) := by decide +kernel
theorem dX10_latest_29 : decode cX10_latest 29 = .ok (.iload 4, 2) := by decide +kernel
theorem dX10_latest_31 : decode cX10_latest 31 = .ok (.iaload, 1) := by decide +kernel
theorem dX10_latest_32 : decode cX10_latest 32 = .ok (.iload_n 2, 1) := by decide +kernel
theorem dX10_latest_33 : decode cX10_latest 33 = .ok (.if_icmp .gt 27, 3) := by decide +kernel
theorem dX10_latest_36 : decode cX10_latest 36 = .ok (.iload_n 3, 1) := by decide +kernel
theorem dX10_latest_37 : decode cX10_latest 37 = .ok (.iconst (-1), 1) := by decide +kernel
theorem dX10_latest_38 : decode cX10_latest 38 = .ok (.if_icmp .eq 19, 3) := by decide +kernel
theorem dX10_latest_41 : decode cX10_latest 41 = .ok (.aload_n 0, 1) := by decide +kernel
theorem dX10_latest_42 : decode cX10_latest 42 = .ok (.getfield 15, 3) := by decide +kernel
theorem dX10_latest_45 : decode cX10_latest 45 = .ok (.iload 4, 2) := by decide +kernel
theorem dX10_latest_47 : decode cX10_latest 47 = .ok (.iaload, 1) := by decide +kernel
theorem dX10_latest_48 : decode cX10_latest 48 = .ok (.aload_n 0, 1) := by decide +kernel
theorem dX10_latest_49 : decode cX10_latest 49 = .ok (.getfield 15, 3) := by decide +kernel
theorem dX10_latest_52 : decode cX10_latest 52 = .ok (.iload_n 3, 1) := by decide +kernel
theorem dX10_latest_53 : decode cX10_latest 53 = .ok (.iaload, 1) := by decide +kernel
theorem dX10_latest_54 : decode cX10_latest 54 = .ok (.if_icmp .lt 6, 3) := by decide +kernel
theorem dX10_latest_57 : decode cX10_latest 57 = .ok (.iload 4, 2) := by decide +kernel
theorem dX10_latest_59 : decode cX10_latest 59 = .ok (.istore_n 3, 1) := by decide +kernel
theorem dX10_latest_60 : decode cX10_latest 60 = .ok (.iinc 4 1, 3) := by decide +kernel
theorem dX10_latest_63 : decode cX10_latest 63 = .ok (.goto (-58), 3) := by decide +kernel
theorem dX10_latest_66 : decode cX10_latest 66 = .ok (.iload_n 3, 1) := by decide +kernel
theorem dX10_latest_67 : decode cX10_latest 67 = .ok (.ireturn, 1) := by decide +kernel
noncomputable def o_X10_latest_5 (F : Nat) (τ : cT) (n : Nat) (b : Nat) (l1 : Int32) (l2 : Int32) (s : cS) : Nat → Int32 → Int32 → Option (Int32)
  | 0, _, _ => none
  | f + 1, l3, l4 => if (s.1 (b + 11) 4) ≤ l4 then (some l3) else (if iL l4 200 then (if (cg s (b + 12) l4) = l1 then (if l2 < (cg s (b + 15) l4) then (o_X10_latest_5 F τ n b l1 l2 s f l3 (l4 + nI 1)) else (if l3 = (-1) then (o_X10_latest_5 F τ n b l1 l2 s f l4 (l4 + nI 1)) else (if iL l3 200 then (if (cg s (b + 13) l4) < (cg s (b + 13) l3) then (o_X10_latest_5 F τ n b l1 l2 s f l3 (l4 + nI 1)) else (o_X10_latest_5 F τ n b l1 l2 s f l4 (l4 + nI 1))) else none))) else (o_X10_latest_5 F τ n b l1 l2 s f l3 (l4 + nI 1))) else none)
set_option maxHeartbeats 4000000 in
theorem t_X10_latest_5 {Γ : jg_G} {g : Nat → jg_C} (F : Nat) (τ : cT) (n : Nat) (b : Nat) (l1 : Int32) (l2 : Int32) (s : cS) (hB : Bd τ n b) (Q : jg_Q) {x : Int32} (K1 : jg Γ mX10_latest 0 0 0 66 [none, none, none, some (.int x), none] [] (ct_h g τ s, n) Q)  : ∀ (f : Nat) (l3 : Int32) (l4 : Int32), o_X10_latest_5 F τ n b l1 l2 s f l3 l4 = some x → jg Γ mX10_latest 0 0 0 5 [some (.ref (b + 11)), some (.int l1), some (.int l2), some (.int l3), some (.int l4)] [] (ct_h g τ s, n) Q := by
  intro f
  induction f with
  | zero => intro l3 l4 h; rw [o_X10_latest_5] at h; cases h
  | succ f ih =>
   intro l3 l4 h
   rw [o_X10_latest_5] at h
   refine jg_iload dX10_latest_5 rfl ?_
   refine jg_aload_n dX10_latest_7 rfl ?_
   refine cs_get (s := s) (w := .int (s.1 (b + 11) 4)) fl_X10_37 dX10_latest_8 (hB.ob 11 (by decide) rfl) rfl ?_
   refine jg_icmp_ge (x := l4) (y := (s.1 (b + 11) 4)) (tgt := 66) dX10_latest_11 (by decide) (fun c1 => ?_) (fun c1 => ?_)
   · replace h := it_t c1 h
     refine jg_fg (L' := [none, none, none, some (.int l3), none]) (by repeat (first | exact trivial | refine ⟨rfl, ?_⟩ | show jg_le _ _)) ?_
     obtain rfl := Option.some.inj h
     exact K1
   · replace h := it_f c1 h
     refine jg_aload_n dX10_latest_14 rfl ?_
     refine cs_get (s := s) (w := .ref (b + 12)) fl_X10_9 dX10_latest_15 (hB.ob 11 (by decide) rfl) rfl ?_
     refine jg_iload dX10_latest_18 rfl ?_
     obtain ⟨q2, h⟩ := gd_some h
     refine cs_lda (s := s) (q := (b + 12)) (i := l4) dX10_latest_20 (hB.ar 12 (by decide) rfl) q2 ?_
     refine jg_iload_n dX10_latest_21 rfl ?_
     refine jg_icmp_ne (x := (cg s (b + 12) l4)) (y := l1) (tgt := 60) dX10_latest_22 (by decide) (fun c3 => ?_) (fun c3 => ?_)
     · replace h := it_f c3 h
       refine jg_iinc (x := l4) (v := l4 + nI 1) (L' := [some (.ref (b + 11)), some (.int l1), some (.int l2), some (.int l3), some (.int (l4 + nI 1))]) dX10_latest_60 rfl (ic_k _ (by decide)) (by decide) rfl ?_
       refine jg_goto (tgt := 5) dX10_latest_63 (by decide) ?_
       refine jg_fg (L' := [some (.ref (b + 11)), some (.int l1), some (.int l2), some (.int l3), some (.int (l4 + nI 1))]) (by repeat (first | exact trivial | refine ⟨rfl, ?_⟩ | show jg_le _ _)) ?_
       exact ih l3 (l4 + nI 1) h
     · replace h := it_t c3 h
       refine jg_aload_n dX10_latest_25 rfl ?_
       refine cs_get (s := s) (w := .ref (b + 15)) fl_X10_21 dX10_latest_26 (hB.ob 11 (by decide) rfl) rfl ?_
       refine jg_iload dX10_latest_29 rfl ?_
       refine cs_lda (s := s) (q := (b + 15)) (i := l4) dX10_latest_31 (hB.ar 15 (by decide) rfl) q2 ?_
       refine jg_iload_n dX10_latest_32 rfl ?_
       refine jg_icmp_gt (x := (cg s (b + 15) l4)) (y := l2) (tgt := 60) dX10_latest_33 (by decide) (fun c4 => ?_) (fun c4 => ?_)
       · replace h := it_t c4 h
         refine jg_iinc (x := l4) (v := l4 + nI 1) (L' := [some (.ref (b + 11)), some (.int l1), some (.int l2), some (.int l3), some (.int (l4 + nI 1))]) dX10_latest_60 rfl (ic_k _ (by decide)) (by decide) rfl ?_
         refine jg_goto (tgt := 5) dX10_latest_63 (by decide) ?_
         refine jg_fg (L' := [some (.ref (b + 11)), some (.int l1), some (.int l2), some (.int l3), some (.int (l4 + nI 1))]) (by repeat (first | exact trivial | refine ⟨rfl, ?_⟩ | show jg_le _ _)) ?_
         exact ih l3 (l4 + nI 1) h
       · replace h := it_f c4 h
         refine jg_iload_n dX10_latest_36 rfl ?_
         refine jg_iconst (v := (-1)) dX10_latest_37 (by decide) ?_
         refine jg_icmp_eq (x := l3) (y := (-1)) (tgt := 57) dX10_latest_38 (by decide) (fun c5 => ?_) (fun c5 => ?_)
         · replace h := it_t c5 h
           refine jg_iload dX10_latest_57 rfl ?_
           refine jg_istore_n (L' := [some (.ref (b + 11)), some (.int l1), some (.int l2), some (.int l4), some (.int l4)]) dX10_latest_59 (by decide) rfl ?_
           refine jg_iinc (x := l4) (v := l4 + nI 1) (L' := [some (.ref (b + 11)), some (.int l1), some (.int l2), some (.int l4), some (.int (l4 + nI 1))]) dX10_latest_60 rfl (ic_k _ (by decide)) (by decide) rfl ?_
           refine jg_goto (tgt := 5) dX10_latest_63 (by decide) ?_
           refine jg_fg (L' := [some (.ref (b + 11)), some (.int l1), some (.int l2), some (.int l4), some (.int (l4 + nI 1))]) (by repeat (first | exact trivial | refine ⟨rfl, ?_⟩ | show jg_le _ _)) ?_
           exact ih l4 (l4 + nI 1) h
         · replace h := it_f c5 h
           refine jg_aload_n dX10_latest_41 rfl ?_
           refine cs_get (s := s) (w := .ref (b + 13)) fl_X10_15 dX10_latest_42 (hB.ob 11 (by decide) rfl) rfl ?_
           refine jg_iload dX10_latest_45 rfl ?_
           refine cs_lda (s := s) (q := (b + 13)) (i := l4) dX10_latest_47 (hB.ar 13 (by decide) rfl) q2 ?_
           refine jg_aload_n dX10_latest_48 rfl ?_
           refine cs_get (s := s) (w := .ref (b + 13)) fl_X10_15 dX10_latest_49 (hB.ob 11 (by decide) rfl) rfl ?_
           refine jg_iload_n dX10_latest_52 rfl ?_
           obtain ⟨q6, h⟩ := gd_some h
           refine cs_lda (s := s) (q := (b + 13)) (i := l3) dX10_latest_53 (hB.ar 13 (by decide) rfl) q6 ?_
           refine jg_icmp_lt (x := (cg s (b + 13) l4)) (y := (cg s (b + 13) l3)) (tgt := 60) dX10_latest_54 (by decide) (fun c7 => ?_) (fun c7 => ?_)
           · replace h := it_t c7 h
             refine jg_iinc (x := l4) (v := l4 + nI 1) (L' := [some (.ref (b + 11)), some (.int l1), some (.int l2), some (.int l3), some (.int (l4 + nI 1))]) dX10_latest_60 rfl (ic_k _ (by decide)) (by decide) rfl ?_
             refine jg_goto (tgt := 5) dX10_latest_63 (by decide) ?_
             refine jg_fg (L' := [some (.ref (b + 11)), some (.int l1), some (.int l2), some (.int l3), some (.int (l4 + nI 1))]) (by repeat (first | exact trivial | refine ⟨rfl, ?_⟩ | show jg_le _ _)) ?_
             exact ih l3 (l4 + nI 1) h
           · replace h := it_f c7 h
             refine jg_iload dX10_latest_57 rfl ?_
             refine jg_istore_n (L' := [some (.ref (b + 11)), some (.int l1), some (.int l2), some (.int l4), some (.int l4)]) dX10_latest_59 (by decide) rfl ?_
             refine jg_iinc (x := l4) (v := l4 + nI 1) (L' := [some (.ref (b + 11)), some (.int l1), some (.int l2), some (.int l4), some (.int (l4 + nI 1))]) dX10_latest_60 rfl (ic_k _ (by decide)) (by decide) rfl ?_
             refine jg_goto (tgt := 5) dX10_latest_63 (by decide) ?_
             refine jg_fg (L' := [some (.ref (b + 11)), some (.int l1), some (.int l2), some (.int l4), some (.int (l4 + nI 1))]) (by repeat (first | exact trivial | refine ⟨rfl, ?_⟩ | show jg_le _ _)) ?_
             exact ih l4 (l4 + nI 1) h
noncomputable def o_X10_latest (F : Nat) (τ : cT) (n : Nat) (b : Nat) (s : cS) (a1 : Int32) (a2 : Int32) : Option (Int32) := (o_X10_latest_5 F τ n b a1 a2 s F (-1) (nI 0)).bind fun x8 => (some x8)
set_option maxHeartbeats 4000000 in
theorem t_X10_latest {Γ : jg_G} {g : Nat → jg_C} (F : Nat) (τ : cT) (n : Nat) (b : Nat) (s : cS) (a1 : Int32) (a2 : Int32) (hB : Bd τ n b) {x : Int32} (h : o_X10_latest F τ n b s a1 a2 = some x) : jc Γ mX10_latest 0 0 0 [some (.ref (b + 11)), some (.int a1), some (.int a2), none, none] (ct_h g τ s, n) (.inl (some (.int x))) (ct_h g τ s, n) := by
  refine jc_of ?_
  rw [o_X10_latest] at h
  refine jg_iconst (v := (-1)) dX10_latest_0 (by decide) ?_
  refine jg_istore_n (L' := [some (.ref (b + 11)), some (.int a1), some (.int a2), some (.int (-1)), none]) dX10_latest_1 (by decide) rfl ?_
  refine jg_iconst (v := nI 0) dX10_latest_2 (by decide) ?_
  refine jg_istore (L' := [some (.ref (b + 11)), some (.int a1), some (.int a2), some (.int (-1)), some (.int (nI 0))]) dX10_latest_3 (by decide) rfl ?_
  obtain ⟨x8, e_x8, h⟩ := bd_some h
  refine jg_fg (L' := [some (.ref (b + 11)), some (.int a1), some (.int a2), some (.int (-1)), some (.int (nI 0))]) (by repeat (first | exact trivial | refine ⟨rfl, ?_⟩ | show jg_le _ _)) ?_
  refine t_X10_latest_5  F τ n b a1 a2 s hB _ (x := x8) ?_ F (-1) (nI 0) e_x8
  refine jg_iload_n dX10_latest_66 rfl ?_
  obtain rfl := Option.some.inj h
  exact jg_ireturn dX10_latest_67 rfl ⟨rfl, rfl⟩
theorem dX2_depthAsOf_0 : decode cX2_depthAsOf 0 = .ok (.aload_n 0, 1) := by decide +kernel
theorem dX2_depthAsOf_1 : decode cX2_depthAsOf 1 = .ok (.getfield 25, 3) := by decide +kernel
theorem dX2_depthAsOf_4 : decode cX2_depthAsOf 4 = .ok (.iload_n 1, 1) := by decide +kernel
theorem dX2_depthAsOf_5 : decode cX2_depthAsOf 5 = .ok (.iload_n 2, 1) := by decide +kernel
theorem dX2_depthAsOf_6 : decode cX2_depthAsOf 6 = .ok (.invokevirtual 143, 3) := by decide +kernel
theorem dX2_depthAsOf_9 : decode cX2_depthAsOf 9 = .ok (.istore_n 3, 1) := by decide +kernel
theorem dX2_depthAsOf_10 : decode cX2_depthAsOf 10 = .ok (.iload_n 3, 1) := by decide +kernel
theorem dX2_depthAsOf_11 : decode cX2_depthAsOf 11 = .ok (.iconst (-1), 1) := by decide +kernel
theorem dX2_depthAsOf_12 : decode cX2_depthAsOf 12 = .ok (.if_icmp .ne 15, 3) := by decide +kernel
theorem dX2_depthAsOf_15 : decode cX2_depthAsOf 15 = .ok (.aload_n 0, 1) := by decide +kernel
theorem dX2_depthAsOf_16 : decode cX2_depthAsOf 16 = .ok (.getfield 18, 3) := by decide +kernel
theorem dX2_depthAsOf_19 : decode cX2_depthAsOf 19 = .ok (.getfield 146, 3) := by decide +kernel
theorem dX2_depthAsOf_22 : decode cX2_depthAsOf 22 = .ok (.iload_n 1, 1) := by decide +kernel
theorem dX2_depthAsOf_23 : decode cX2_depthAsOf 23 = .ok (.iaload, 1) := by decide +kernel
theorem dX2_depthAsOf_24 : decode cX2_depthAsOf 24 = .ok (.goto 12, 3) := by decide +kernel
theorem dX2_depthAsOf_27 : decode cX2_depthAsOf 27 = .ok (.aload_n 0, 1) := by decide +kernel
theorem dX2_depthAsOf_28 : decode cX2_depthAsOf 28 = .ok (.getfield 25, 3) := by decide +kernel
theorem dX2_depthAsOf_31 : decode cX2_depthAsOf 31 = .ok (.getfield 149, 3) := by decide +kernel
theorem dX2_depthAsOf_34 : decode cX2_depthAsOf 34 = .ok (.iload_n 3, 1) := by decide +kernel
theorem dX2_depthAsOf_35 : decode cX2_depthAsOf 35 = .ok (.iaload, 1) := by decide +kernel
theorem dX2_depthAsOf_36 : decode cX2_depthAsOf 36 = .ok (.ireturn, 1) := by decide +kernel
noncomputable def o_X2_depthAsOf (F : Nat) (τ : cT) (n : Nat) (b : Nat) (s : cS) (a1 : Int32) (a2 : Int32) : Option (Int32) := (o_X10_latest F τ n b s a1 a2).bind fun x1 => (if x1 = (-1) then (if iL a1 24 then (some (cg s (b + 3) a1)) else none) else (if iL x1 200 then (some (cg s (b + 14) x1)) else none))
set_option maxHeartbeats 4000000 in
theorem t_X2_depthAsOf {Γ : jg_G} {g : Nat → jg_C} (F : Nat) (τ : cT) (n : Nat) (b : Nat) (s : cS) (a1 : Int32) (a2 : Int32) (hB : Bd τ n b) {x : Int32} (h : o_X2_depthAsOf F τ n b s a1 a2 = some x) : jc Γ mX2_depthAsOf 1 0 0 [some (.ref b), some (.int a1), some (.int a2), none] (ct_h g τ s, n) (.inl (some (.int x))) (ct_h g τ s, n) := by
  refine jc_of ?_
  rw [o_X2_depthAsOf] at h
  refine jg_aload_n dX2_depthAsOf_0 rfl ?_
  refine cs_get (s := s) (w := .ref (b + 11)) fl_X2_25 dX2_depthAsOf_1 hB.ob0 rfl ?_
  refine jg_iload_n dX2_depthAsOf_4 rfl ?_
  refine jg_iload_n dX2_depthAsOf_5 rfl ?_
  obtain ⟨x1, e_x1, h⟩ := bd_some h
  refine cs_call (q := (b + 11)) (As := [.int a1, .int a2]) kv_X2_143 dX2_depthAsOf_6 (hB.ob 11 (by decide) rfl) rfl rfl (by decide) (Nat.le_of_ble_eq_true rfl) rfl (by decide) (Nat.le_of_ble_eq_true rfl) (t_X10_latest F τ n b s a1 a2 hB e_x1) ?_
  refine jg_istore_n (L' := [some (.ref b), some (.int a1), some (.int a2), some (.int x1)]) dX2_depthAsOf_9 (by decide) rfl ?_
  refine jg_iload_n dX2_depthAsOf_10 rfl ?_
  refine jg_iconst (v := (-1)) dX2_depthAsOf_11 (by decide) ?_
  refine jg_icmp_ne (x := x1) (y := (-1)) (tgt := 27) dX2_depthAsOf_12 (by decide) (fun c2 => ?_) (fun c2 => ?_)
  · replace h := it_f c2 h
    refine jg_aload_n dX2_depthAsOf_27 rfl ?_
    refine cs_get (s := s) (w := .ref (b + 11)) fl_X2_25 dX2_depthAsOf_28 hB.ob0 rfl ?_
    refine cs_get (s := s) (w := .ref (b + 14)) fl_X2_149 dX2_depthAsOf_31 (hB.ob 11 (by decide) rfl) rfl ?_
    refine jg_iload_n dX2_depthAsOf_34 rfl ?_
    obtain ⟨q3, h⟩ := gd_some h
    refine cs_lda (s := s) (q := (b + 14)) (i := x1) dX2_depthAsOf_35 (hB.ar 14 (by decide) rfl) q3 ?_
    obtain rfl := Option.some.inj h
    exact jg_ireturn dX2_depthAsOf_36 rfl ⟨rfl, rfl⟩
  · replace h := it_t c2 h
    refine jg_aload_n dX2_depthAsOf_15 rfl ?_
    refine cs_get (s := s) (w := .ref (b + 1)) fl_X2_18 dX2_depthAsOf_16 hB.ob0 rfl ?_
    refine cs_get (s := s) (w := .ref (b + 3)) fl_X2_146 dX2_depthAsOf_19 (hB.ob 1 (by decide) rfl) rfl ?_
    refine jg_iload_n dX2_depthAsOf_22 rfl ?_
    obtain ⟨q4, h⟩ := gd_some h
    refine cs_lda (s := s) (q := (b + 3)) (i := a1) dX2_depthAsOf_23 (hB.ar 3 (by decide) rfl) q4 ?_
    refine jg_goto (tgt := 36) dX2_depthAsOf_24 (by decide) ?_
    obtain rfl := Option.some.inj h
    exact jg_ireturn dX2_depthAsOf_36 rfl ⟨rfl, rfl⟩
theorem dX10_tell_0 : decode cX10_tell 0 = .ok (.aload_n 0, 1) := by decide +kernel
theorem dX10_tell_1 : decode cX10_tell 1 = .ok (.getfield 37, 3) := by decide +kernel
theorem dX10_tell_4 : decode cX10_tell 4 = .ok (.sipush 200, 3) := by decide +kernel
theorem dX10_tell_7 : decode cX10_tell 7 = .ok (.if_icmp .lt 5, 3) := by decide +kernel
theorem dX10_tell_10 : decode cX10_tell 10 = .ok (.iconst (-1), 1) := by decide +kernel
theorem dX10_tell_11 : decode cX10_tell 11 = .ok (.ireturn, 1) := by decide +kernel
theorem dX10_tell_12 : decode cX10_tell 12 = .ok (.aload_n 0, 1) := by decide +kernel
theorem dX10_tell_13 : decode cX10_tell 13 = .ok (.getfield 9, 3) := by decide +kernel
theorem dX10_tell_16 : decode cX10_tell 16 = .ok (.aload_n 0, 1) := by decide +kernel
theorem dX10_tell_17 : decode cX10_tell 17 = .ok (.getfield 37, 3) := by decide +kernel
theorem dX10_tell_20 : decode cX10_tell 20 = .ok (.iload_n 1, 1) := by decide +kernel
theorem dX10_tell_21 : decode cX10_tell 21 = .ok (.iastore, 1) := by decide +kernel
theorem dX10_tell_22 : decode cX10_tell 22 = .ok (.aload_n 0, 1) := by decide +kernel
theorem dX10_tell_23 : decode cX10_tell 23 = .ok (.getfield 15, 3) := by decide +kernel
theorem dX10_tell_26 : decode cX10_tell 26 = .ok (.aload_n 0, 1) := by decide +kernel
theorem dX10_tell_27 : decode cX10_tell 27 = .ok (.getfield 37, 3) := by decide +kernel
theorem dX10_tell_30 : decode cX10_tell 30 = .ok (.iload_n 2, 1) := by decide +kernel
theorem dX10_tell_31 : decode cX10_tell 31 = .ok (.iastore, 1) := by decide +kernel
theorem dX10_tell_32 : decode cX10_tell 32 = .ok (.aload_n 0, 1) := by decide +kernel
theorem dX10_tell_33 : decode cX10_tell 33 = .ok (.getfield 18, 3) := by decide +kernel
theorem dX10_tell_36 : decode cX10_tell 36 = .ok (.aload_n 0, 1) := by decide +kernel
theorem dX10_tell_37 : decode cX10_tell 37 = .ok (.getfield 37, 3) := by decide +kernel
theorem dX10_tell_40 : decode cX10_tell 40 = .ok (.iload_n 3, 1) := by decide +kernel
theorem dX10_tell_41 : decode cX10_tell 41 = .ok (.iastore, 1) := by decide +kernel
theorem dX10_tell_42 : decode cX10_tell 42 = .ok (.aload_n 0, 1) := by decide +kernel
theorem dX10_tell_43 : decode cX10_tell 43 = .ok (.getfield 21, 3) := by decide +kernel
theorem dX10_tell_46 : decode cX10_tell 46 = .ok (.aload_n 0, 1) := by decide +kernel
theorem dX10_tell_47 : decode cX10_tell 47 = .ok (.getfield 37, 3) := by decide +kernel
theorem dX10_tell_50 : decode cX10_tell 50 = .ok (.iload 4, 2) := by decide +kernel
theorem dX10_tell_52 : decode cX10_tell 52 = .ok (.iastore, 1) := by decide +kernel
theorem dX10_tell_53 : decode cX10_tell 53 = .ok (.aload_n 0, 1) := by decide +kernel
theorem dX10_tell_54 : decode cX10_tell 54 = .ok (.dup, 1) := by decide +kernel
theorem dX10_tell_55 : decode cX10_tell 55 = .ok (.getfield 37, 3) := by decide +kernel
theorem dX10_tell_58 : decode cX10_tell 58 = .ok (.iconst 1, 1) := by decide +kernel
theorem dX10_tell_59 : decode cX10_tell 59 = .ok (.iadd, 1) := by decide +kernel
theorem dX10_tell_60 : decode cX10_tell 60 = .ok (.putfield 37, 3) := by decide +kernel
theorem dX10_tell_63 : decode cX10_tell 63 = .ok (.aload_n 0, 1) := by decide +kernel
theorem dX10_tell_64 : decode cX10_tell 64 = .ok (.getfield 24, 3) := by decide +kernel
theorem dX10_tell_67 : decode cX10_tell 67 = .ok (.iload_n 1, 1) := by decide +kernel
theorem dX10_tell_68 : decode cX10_tell 68 = .ok (.aload_n 0, 1) := by decide +kernel
theorem dX10_tell_69 : decode cX10_tell 69 = .ok (.iload_n 1, 1) := by decide +kernel
theorem dX10_tell_70 : decode cX10_tell 70 = .ok (.iload 4, 2) := by decide +kernel
theorem dX10_tell_72 : decode cX10_tell 72 = .ok (.invokevirtual 41, 3) := by decide +kernel
theorem dX10_tell_75 : decode cX10_tell 75 = .ok (.iastore, 1) := by decide +kernel
theorem dX10_tell_76 : decode cX10_tell 76 = .ok (.aload_n 0, 1) := by decide +kernel
theorem dX10_tell_77 : decode cX10_tell 77 = .ok (.getfield 37, 3) := by decide +kernel
theorem dX10_tell_80 : decode cX10_tell 80 = .ok (.iconst 1, 1) := by decide +kernel
theorem dX10_tell_81 : decode cX10_tell 81 = .ok (.isub, 1) := by decide +kernel
theorem dX10_tell_82 : decode cX10_tell 82 = .ok (.ireturn, 1) := by decide +kernel
noncomputable def o_X10_tell (F : Nat) (τ : cT) (n : Nat) (b : Nat) (s : cS) (a1 : Int32) (a2 : Int32) (a3 : Int32) (a4 : Int32) : Option (Int32 × cS) := if (s.1 (b + 11) 4) < (nI 200) then (if iL (s.1 (b + 11) 4) 200 then (if iL ((ca s (b + 12) (s.1 (b + 11) 4) a1).1 (b + 11) 4) 200 then ((some (ca (ca s (b + 12) (s.1 (b + 11) 4) a1) (b + 13) ((ca s (b + 12) (s.1 (b + 11) 4) a1).1 (b + 11) 4) a2)).bind fun x4 => (if iL (x4.1 (b + 11) 4) 200 then (if iL ((ca x4 (b + 14) (x4.1 (b + 11) 4) a3).1 (b + 11) 4) 200 then ((some (ca (ca x4 (b + 14) (x4.1 (b + 11) 4) a3) (b + 15) ((ca x4 (b + 14) (x4.1 (b + 11) 4) a3).1 (b + 11) 4) a4)).bind fun x7 => ((o_X10_latest F τ n b (cp x7 (b + 11) 4 ((x7.1 (b + 11) 4) + (nI 1))) a1 a4).bind fun x8 => (if iL a1 24 then ((some (ca (cp x7 (b + 11) 4 ((x7.1 (b + 11) 4) + (nI 1))) (b + 16) a1 x8)).bind fun x10 => (some ((x10.1 (b + 11) 4) - (nI 1), x10))) else none))) else none) else none)) else none) else none) else (some ((-1), s))
set_option maxHeartbeats 4000000 in
theorem t_X10_tell {Γ : jg_G} {g : Nat → jg_C} (F : Nat) (τ : cT) (n : Nat) (b : Nat) (s : cS) (a1 : Int32) (a2 : Int32) (a3 : Int32) (a4 : Int32) (hB : Bd τ n b) {x : Int32 × cS} (h : o_X10_tell F τ n b s a1 a2 a3 a4 = some x) : jc Γ mX10_tell 1 0 0 [some (.ref (b + 11)), some (.int a1), some (.int a2), some (.int a3), some (.int a4)] (ct_h g τ s, n) (.inl (some (.int x.1))) (ct_h g τ x.2, n) := by
  refine jc_of ?_
  rw [o_X10_tell] at h
  refine jg_aload_n dX10_tell_0 rfl ?_
  refine cs_get (s := s) (w := .int (s.1 (b + 11) 4)) fl_X10_37 dX10_tell_1 (hB.ob 11 (by decide) rfl) rfl ?_
  refine jg_sipush (v := nI 200) dX10_tell_4 (by decide) ?_
  refine jg_icmp_lt (x := (s.1 (b + 11) 4)) (y := (nI 200)) (tgt := 12) dX10_tell_7 (by decide) (fun c1 => ?_) (fun c1 => ?_)
  · replace h := it_t c1 h
    refine jg_aload_n dX10_tell_12 rfl ?_
    refine cs_get (s := s) (w := .ref (b + 12)) fl_X10_9 dX10_tell_13 (hB.ob 11 (by decide) rfl) rfl ?_
    refine jg_aload_n dX10_tell_16 rfl ?_
    refine cs_get (s := s) (w := .int (s.1 (b + 11) 4)) fl_X10_37 dX10_tell_17 (hB.ob 11 (by decide) rfl) rfl ?_
    refine jg_iload_n dX10_tell_20 rfl ?_
    obtain ⟨q2, h⟩ := gd_some h
    refine cs_sta (s := s) (q := (b + 12)) (i := (s.1 (b + 11) 4)) (x := a1) dX10_tell_21 (hB.ar 12 (by decide) rfl) q2 ?_
    refine jg_aload_n dX10_tell_22 rfl ?_
    refine cs_get (s := (ca s (b + 12) (s.1 (b + 11) 4) a1)) (w := .ref (b + 13)) fl_X10_15 dX10_tell_23 (hB.ob 11 (by decide) rfl) rfl ?_
    refine jg_aload_n dX10_tell_26 rfl ?_
    refine cs_get (s := (ca s (b + 12) (s.1 (b + 11) 4) a1)) (w := .int ((ca s (b + 12) (s.1 (b + 11) 4) a1).1 (b + 11) 4)) fl_X10_37 dX10_tell_27 (hB.ob 11 (by decide) rfl) rfl ?_
    refine jg_iload_n dX10_tell_30 rfl ?_
    obtain ⟨q3, h⟩ := gd_some h
    refine cs_sta (s := (ca s (b + 12) (s.1 (b + 11) 4) a1)) (q := (b + 13)) (i := ((ca s (b + 12) (s.1 (b + 11) 4) a1).1 (b + 11) 4)) (x := a2) dX10_tell_31 (hB.ar 13 (by decide) rfl) q3 ?_
    obtain ⟨x4, e_x4, h⟩ := bd_some h
    refine cs_sub (Option.some.inj e_x4) ?_
    refine jg_aload_n dX10_tell_32 rfl ?_
    refine cs_get (s := x4) (w := .ref (b + 14)) fl_X10_18 dX10_tell_33 (hB.ob 11 (by decide) rfl) rfl ?_
    refine jg_aload_n dX10_tell_36 rfl ?_
    refine cs_get (s := x4) (w := .int (x4.1 (b + 11) 4)) fl_X10_37 dX10_tell_37 (hB.ob 11 (by decide) rfl) rfl ?_
    refine jg_iload_n dX10_tell_40 rfl ?_
    obtain ⟨q5, h⟩ := gd_some h
    refine cs_sta (s := x4) (q := (b + 14)) (i := (x4.1 (b + 11) 4)) (x := a3) dX10_tell_41 (hB.ar 14 (by decide) rfl) q5 ?_
    refine jg_aload_n dX10_tell_42 rfl ?_
    refine cs_get (s := (ca x4 (b + 14) (x4.1 (b + 11) 4) a3)) (w := .ref (b + 15)) fl_X10_21 dX10_tell_43 (hB.ob 11 (by decide) rfl) rfl ?_
    refine jg_aload_n dX10_tell_46 rfl ?_
    refine cs_get (s := (ca x4 (b + 14) (x4.1 (b + 11) 4) a3)) (w := .int ((ca x4 (b + 14) (x4.1 (b + 11) 4) a3).1 (b + 11) 4)) fl_X10_37 dX10_tell_47 (hB.ob 11 (by decide) rfl) rfl ?_
    refine jg_iload dX10_tell_50 rfl ?_
    obtain ⟨q6, h⟩ := gd_some h
    refine cs_sta (s := (ca x4 (b + 14) (x4.1 (b + 11) 4) a3)) (q := (b + 15)) (i := ((ca x4 (b + 14) (x4.1 (b + 11) 4) a3).1 (b + 11) 4)) (x := a4) dX10_tell_52 (hB.ar 15 (by decide) rfl) q6 ?_
    obtain ⟨x7, e_x7, h⟩ := bd_some h
    refine cs_sub (Option.some.inj e_x7) ?_
    refine jg_aload_n dX10_tell_53 rfl ?_
    refine jg_dup dX10_tell_54 rfl ?_
    refine cs_get (s := x7) (w := .int (x7.1 (b + 11) 4)) fl_X10_37 dX10_tell_55 (hB.ob 11 (by decide) rfl) rfl ?_
    refine jg_iconst (v := nI 1) dX10_tell_58 (by decide) ?_
    refine jg_iadd (x := (x7.1 (b + 11) 4)) (y := (nI 1)) dX10_tell_59  ?_
    refine cs_put (s := x7) (k := 4) (x := ((x7.1 (b + 11) 4) + (nI 1))) fl_X10_37 dX10_tell_60 (hB.ob 11 (by decide) rfl) (ltb rfl) (rfl) rfl rfl ?_
    refine jg_aload_n dX10_tell_63 rfl ?_
    refine cs_get (s := (cp x7 (b + 11) 4 ((x7.1 (b + 11) 4) + (nI 1)))) (w := .ref (b + 16)) fl_X10_24 dX10_tell_64 (hB.ob 11 (by decide) rfl) rfl ?_
    refine jg_iload_n dX10_tell_67 rfl ?_
    refine jg_aload_n dX10_tell_68 rfl ?_
    refine jg_iload_n dX10_tell_69 rfl ?_
    refine jg_iload dX10_tell_70 rfl ?_
    obtain ⟨x8, e_x8, h⟩ := bd_some h
    refine cs_call (q := (b + 11)) (As := [.int a1, .int a4]) kv_X10_41 dX10_tell_72 (hB.ob 11 (by decide) rfl) rfl rfl (by decide) (Nat.le_of_ble_eq_true rfl) rfl (by decide) (Nat.le_of_ble_eq_true rfl) (t_X10_latest F τ n b (cp x7 (b + 11) 4 ((x7.1 (b + 11) 4) + (nI 1))) a1 a4 hB e_x8) ?_
    obtain ⟨q9, h⟩ := gd_some h
    refine cs_sta (s := (cp x7 (b + 11) 4 ((x7.1 (b + 11) 4) + (nI 1)))) (q := (b + 16)) (i := a1) (x := x8) dX10_tell_75 (hB.ar 16 (by decide) rfl) q9 ?_
    obtain ⟨x10, e_x10, h⟩ := bd_some h
    refine cs_sub (Option.some.inj e_x10) ?_
    refine jg_aload_n dX10_tell_76 rfl ?_
    refine cs_get (s := x10) (w := .int (x10.1 (b + 11) 4)) fl_X10_37 dX10_tell_77 (hB.ob 11 (by decide) rfl) rfl ?_
    refine jg_iconst (v := nI 1) dX10_tell_80 (by decide) ?_
    refine jg_isub (x := (x10.1 (b + 11) 4)) (y := (nI 1)) dX10_tell_81  ?_
    obtain rfl := Option.some.inj h
    exact jg_ireturn dX10_tell_82 rfl ⟨rfl, rfl⟩
  · replace h := it_f c1 h
    refine jg_iconst (v := (-1)) dX10_tell_10 (by decide) ?_
    obtain rfl := Option.some.inj h
    exact jg_ireturn dX10_tell_11 rfl ⟨rfl, rfl⟩
theorem dX1_build_0 : decode cX1_build 0 = .ok (.aload_n 0, 1) := by decide +kernel
theorem dX1_build_1 : decode cX1_build 1 = .ok (.iload_n 1, 1) := by decide +kernel
theorem dX1_build_2 : decode cX1_build 2 = .ok (.putfield 9, 3) := by decide +kernel
theorem dX1_build_5 : decode cX1_build 5 = .ok (.aload_n 0, 1) := by decide +kernel
theorem dX1_build_6 : decode cX1_build 6 = .ok (.iload_n 2, 1) := by decide +kernel
theorem dX1_build_7 : decode cX1_build 7 = .ok (.putfield 15, 3) := by decide +kernel
theorem dX1_build_10 : decode cX1_build 10 = .ok (.aload_n 0, 1) := by decide +kernel
theorem dX1_build_11 : decode cX1_build 11 = .ok (.iload_n 3, 1) := by decide +kernel
theorem dX1_build_12 : decode cX1_build 12 = .ok (.putfield 18, 3) := by decide +kernel
theorem dX1_build_15 : decode cX1_build 15 = .ok (.aload_n 0, 1) := by decide +kernel
theorem dX1_build_16 : decode cX1_build 16 = .ok (.iload 4, 2) := by decide +kernel
theorem dX1_build_18 : decode cX1_build 18 = .ok (.putfield 21, 3) := by decide +kernel
theorem dX1_build_21 : decode cX1_build 21 = .ok (.aload_n 0, 1) := by decide +kernel
theorem dX1_build_22 : decode cX1_build 22 = .ok (.iconst 0, 1) := by decide +kernel
theorem dX1_build_23 : decode cX1_build 23 = .ok (.putfield 24, 3) := by decide +kernel
theorem dX1_build_26 : decode cX1_build 26 = .ok (.aload_n 0, 1) := by decide +kernel
theorem dX1_build_27 : decode cX1_build 27 = .ok (.iconst 0, 1) := by decide +kernel
theorem dX1_build_28 : decode cX1_build 28 = .ok (.putfield 27, 3) := by decide +kernel
theorem dX1_build_31 : decode cX1_build 31 = .ok (.aload_n 0, 1) := by decide +kernel
theorem dX1_build_32 : decode cX1_build 32 = .ok (.iconst 0, 1) := by decide +kernel
theorem dX1_build_33 : decode cX1_build 33 = .ok (.putfield 30, 3) := by decide +kernel
theorem dX1_build_36 : decode cX1_build 36 = .ok (.aload_n 0, 1) := by decide +kernel
theorem dX1_build_37 : decode cX1_build 37 = .ok (.iconst (-1), 1) := by decide +kernel
theorem dX1_build_38 : decode cX1_build 38 = .ok (.putfield 33, 3) := by decide +kernel
theorem dX1_build_41 : decode cX1_build 41 = .ok (.aload_n 0, 1) := by decide +kernel
theorem dX1_build_42 : decode cX1_build 42 = .ok (.sipush (-1000), 3) := by decide +kernel
theorem dX1_build_45 : decode cX1_build 45 = .ok (.putfield 36, 3) := by decide +kernel
theorem dX1_build_48 : decode cX1_build 48 = .ok (.return_, 1) := by decide +kernel
noncomputable def o_X1_build (τ : cT) (n : Nat) (p : Nat) (s : cS) (a1 : Int32) (a2 : Int32) (a3 : Int32) (a4 : Int32) : Option (cS) := (some (cp (cp (cp (cp (cp s p 0 a1) p 1 a2) p 2 a3) p 3 a4) p 4 (nI 0))).bind fun x1 => ((some (cp (cp (cp (cp x1 p 5 (nI 0)) p 6 (nI 0)) p 7 (-1)) p 8 (-1000))).bind fun x2 => (some x2))
set_option maxHeartbeats 4000000 in
theorem t_X1_build {Γ : jg_G} {g : Nat → jg_C} (τ : cT) (n : Nat) (p : Nat) (s : cS) (a1 : Int32) (a2 : Int32) (a3 : Int32) (a4 : Int32) (hp : Ob τ n p 1) {x : cS} (h : o_X1_build τ n p s a1 a2 a3 a4 = some x) : jc Γ mX1_build 0 0 0 [some (.ref p), some (.int a1), some (.int a2), some (.int a3), some (.int a4)] (ct_h g τ s, n) (.inl none) (ct_h g τ x, n) := by
  refine jc_of ?_
  rw [o_X1_build] at h
  refine jg_aload_n dX1_build_0 rfl ?_
  refine jg_iload_n dX1_build_1 rfl ?_
  refine cs_put (s := s) (k := 0) (x := a1) fl_X1_9 dX1_build_2 hp (ltb rfl) (rfl) rfl rfl ?_
  refine jg_aload_n dX1_build_5 rfl ?_
  refine jg_iload_n dX1_build_6 rfl ?_
  refine cs_put (s := (cp s p 0 a1)) (k := 1) (x := a2) fl_X1_15 dX1_build_7 hp (ltb rfl) (rfl) rfl rfl ?_
  refine jg_aload_n dX1_build_10 rfl ?_
  refine jg_iload_n dX1_build_11 rfl ?_
  refine cs_put (s := (cp (cp s p 0 a1) p 1 a2)) (k := 2) (x := a3) fl_X1_18 dX1_build_12 hp (ltb rfl) (rfl) rfl rfl ?_
  refine jg_aload_n dX1_build_15 rfl ?_
  refine jg_iload dX1_build_16 rfl ?_
  refine cs_put (s := (cp (cp (cp s p 0 a1) p 1 a2) p 2 a3)) (k := 3) (x := a4) fl_X1_21 dX1_build_18 hp (ltb rfl) (rfl) rfl rfl ?_
  refine jg_aload_n dX1_build_21 rfl ?_
  refine jg_iconst (v := nI 0) dX1_build_22 (by decide) ?_
  refine cs_put (s := (cp (cp (cp (cp s p 0 a1) p 1 a2) p 2 a3) p 3 a4)) (k := 4) (x := (nI 0)) fl_X1_24 dX1_build_23 hp (ltb rfl) (rfl) rfl rfl ?_
  obtain ⟨x1, e_x1, h⟩ := bd_some h
  refine cs_sub (Option.some.inj e_x1) ?_
  refine jg_aload_n dX1_build_26 rfl ?_
  refine jg_iconst (v := nI 0) dX1_build_27 (by decide) ?_
  refine cs_put (s := x1) (k := 5) (x := (nI 0)) fl_X1_27 dX1_build_28 hp (ltb rfl) (rfl) rfl rfl ?_
  refine jg_aload_n dX1_build_31 rfl ?_
  refine jg_iconst (v := nI 0) dX1_build_32 (by decide) ?_
  refine cs_put (s := (cp x1 p 5 (nI 0))) (k := 6) (x := (nI 0)) fl_X1_30 dX1_build_33 hp (ltb rfl) (rfl) rfl rfl ?_
  refine jg_aload_n dX1_build_36 rfl ?_
  refine jg_iconst (v := (-1)) dX1_build_37 (by decide) ?_
  refine cs_put (s := (cp (cp x1 p 5 (nI 0)) p 6 (nI 0))) (k := 7) (x := (-1)) fl_X1_33 dX1_build_38 hp (ltb rfl) (rfl) rfl rfl ?_
  refine jg_aload_n dX1_build_41 rfl ?_
  refine jg_sipush (v := (-1000)) dX1_build_42 (by decide) ?_
  refine cs_put (s := (cp (cp (cp x1 p 5 (nI 0)) p 6 (nI 0)) p 7 (-1))) (k := 8) (x := (-1000)) fl_X1_36 dX1_build_45 hp (ltb rfl) (rfl) rfl rfl ?_
  obtain ⟨x2, e_x2, h⟩ := bd_some h
  refine cs_sub (Option.some.inj e_x2) ?_
  obtain rfl := Option.some.inj h
  exact jg_return dX1_build_48 rfl ⟨rfl, rfl⟩
theorem dX5_addBerth_0 : decode cX5_addBerth 0 = .ok (.aload_n 0, 1) := by decide +kernel
theorem dX5_addBerth_1 : decode cX5_addBerth 1 = .ok (.getfield 11, 3) := by decide +kernel
theorem dX5_addBerth_4 : decode cX5_addBerth 4 = .ok (.aload_n 0, 1) := by decide +kernel
theorem dX5_addBerth_5 : decode cX5_addBerth 5 = .ok (.getfield 38, 3) := by decide +kernel
theorem dX5_addBerth_8 : decode cX5_addBerth 8 = .ok (.aaload, 1) := by decide +kernel
theorem dX5_addBerth_9 : decode cX5_addBerth 9 = .ok (.iload_n 1, 1) := by decide +kernel
theorem dX5_addBerth_10 : decode cX5_addBerth 10 = .ok (.iload_n 2, 1) := by decide +kernel
theorem dX5_addBerth_11 : decode cX5_addBerth 11 = .ok (.iload_n 3, 1) := by decide +kernel
theorem dX5_addBerth_12 : decode cX5_addBerth 12 = .ok (.iload 4, 2) := by decide +kernel
theorem dX5_addBerth_14 : decode cX5_addBerth 14 = .ok (.invokevirtual 58, 3) := by decide +kernel
theorem dX5_addBerth_17 : decode cX5_addBerth 17 = .ok (.aload_n 0, 1) := by decide +kernel
theorem dX5_addBerth_18 : decode cX5_addBerth 18 = .ok (.dup, 1) := by decide +kernel
theorem dX5_addBerth_19 : decode cX5_addBerth 19 = .ok (.getfield 38, 3) := by decide +kernel
theorem dX5_addBerth_22 : decode cX5_addBerth 22 = .ok (.iconst 1, 1) := by decide +kernel
theorem dX5_addBerth_23 : decode cX5_addBerth 23 = .ok (.iadd, 1) := by decide +kernel
theorem dX5_addBerth_24 : decode cX5_addBerth 24 = .ok (.putfield 38, 3) := by decide +kernel
theorem dX5_addBerth_27 : decode cX5_addBerth 27 = .ok (.aload_n 0, 1) := by decide +kernel
theorem dX5_addBerth_28 : decode cX5_addBerth 28 = .ok (.getfield 38, 3) := by decide +kernel
theorem dX5_addBerth_31 : decode cX5_addBerth 31 = .ok (.iconst 1, 1) := by decide +kernel
theorem dX5_addBerth_32 : decode cX5_addBerth 32 = .ok (.isub, 1) := by decide +kernel
theorem dX5_addBerth_33 : decode cX5_addBerth 33 = .ok (.ireturn, 1) := by decide +kernel
noncomputable def o_X5_addBerth (τ : cT) (n : Nat) (b : Nat) (s : cS) (a1 : Int32) (a2 : Int32) (a3 : Int32) (a4 : Int32) : Option (Int32 × cS) := if iL (s.1 (b + 27) 1) 10 then ((o_X1_build τ n (b + 28 + 1 + (s.1 (b + 27) 1).toNatClampNeg) s a1 a2 a3 a4).bind fun x2 => (some (((cp x2 (b + 27) 1 ((x2.1 (b + 27) 1) + (nI 1))).1 (b + 27) 1) - (nI 1), cp x2 (b + 27) 1 ((x2.1 (b + 27) 1) + (nI 1))))) else none
set_option maxHeartbeats 4000000 in
theorem t_X5_addBerth {Γ : jg_G} {g : Nat → jg_C} (τ : cT) (n : Nat) (b : Nat) (s : cS) (a1 : Int32) (a2 : Int32) (a3 : Int32) (a4 : Int32) (hB : Bd τ n b) {x : Int32 × cS} (h : o_X5_addBerth τ n b s a1 a2 a3 a4 = some x) : jc Γ mX5_addBerth 1 0 0 [some (.ref (b + 27)), some (.int a1), some (.int a2), some (.int a3), some (.int a4)] (ct_h g τ s, n) (.inl (some (.int x.1))) (ct_h g τ x.2, n) := by
  refine jc_of ?_
  rw [o_X5_addBerth] at h
  refine jg_aload_n dX5_addBerth_0 rfl ?_
  refine cs_get (s := s) (w := .ref (b + 28)) fl_X5_11 dX5_addBerth_1 (hB.ob 27 (by decide) rfl) rfl ?_
  refine jg_aload_n dX5_addBerth_4 rfl ?_
  refine cs_get (s := s) (w := .int (s.1 (b + 27) 1)) fl_X5_38 dX5_addBerth_5 (hB.ob 27 (by decide) rfl) rfl ?_
  obtain ⟨q1, h⟩ := gd_some h
  refine cs_ldr (s := s) (q := (b + 28)) (i := (s.1 (b + 27) 1)) (kd := 5) (by decide) dX5_addBerth_8 (hB.ar 28 (by decide) rfl) q1 ?_
  refine jg_iload_n dX5_addBerth_9 rfl ?_
  refine jg_iload_n dX5_addBerth_10 rfl ?_
  refine jg_iload_n dX5_addBerth_11 rfl ?_
  refine jg_iload dX5_addBerth_12 rfl ?_
  obtain ⟨x2, e_x2, h⟩ := bd_some h
  refine cs_call (q := (b + 28 + 1 + (s.1 (b + 27) 1).toNatClampNeg)) (As := [.int a1, .int a2, .int a3, .int a4]) kv_X5_58 dX5_addBerth_14 (hB.berth q1.2) rfl rfl (by decide) (Nat.le_of_ble_eq_true rfl) rfl (by decide) (Nat.le_of_ble_eq_true rfl) (t_X1_build τ n (b + 28 + 1 + (s.1 (b + 27) 1).toNatClampNeg) s a1 a2 a3 a4 (hB.berth q1.2) e_x2) ?_
  refine jg_aload_n dX5_addBerth_17 rfl ?_
  refine jg_dup dX5_addBerth_18 rfl ?_
  refine cs_get (s := x2) (w := .int (x2.1 (b + 27) 1)) fl_X5_38 dX5_addBerth_19 (hB.ob 27 (by decide) rfl) rfl ?_
  refine jg_iconst (v := nI 1) dX5_addBerth_22 (by decide) ?_
  refine jg_iadd (x := (x2.1 (b + 27) 1)) (y := (nI 1)) dX5_addBerth_23  ?_
  refine cs_put (s := x2) (k := 1) (x := ((x2.1 (b + 27) 1) + (nI 1))) fl_X5_38 dX5_addBerth_24 (hB.ob 27 (by decide) rfl) (ltb rfl) (rfl) rfl rfl ?_
  refine jg_aload_n dX5_addBerth_27 rfl ?_
  refine cs_get (s := (cp x2 (b + 27) 1 ((x2.1 (b + 27) 1) + (nI 1)))) (w := .int ((cp x2 (b + 27) 1 ((x2.1 (b + 27) 1) + (nI 1))).1 (b + 27) 1)) fl_X5_38 dX5_addBerth_28 (hB.ob 27 (by decide) rfl) rfl ?_
  refine jg_iconst (v := nI 1) dX5_addBerth_31 (by decide) ?_
  refine jg_isub (x := ((cp x2 (b + 27) 1 ((x2.1 (b + 27) 1) + (nI 1))).1 (b + 27) 1)) (y := (nI 1)) dX5_addBerth_32  ?_
  obtain rfl := Option.some.inj h
  exact jg_ireturn dX5_addBerth_33 rfl ⟨rfl, rfl⟩
theorem dX6_addPayer_0 : decode cX6_addPayer 0 = .ok (.aload_n 0, 1) := by decide +kernel
theorem dX6_addPayer_1 : decode cX6_addPayer 1 = .ok (.getfield 9, 3) := by decide +kernel
theorem dX6_addPayer_4 : decode cX6_addPayer 4 = .ok (.aload_n 0, 1) := by decide +kernel
theorem dX6_addPayer_5 : decode cX6_addPayer 5 = .ok (.getfield 53, 3) := by decide +kernel
theorem dX6_addPayer_8 : decode cX6_addPayer 8 = .ok (.iconst 0, 1) := by decide +kernel
theorem dX6_addPayer_9 : decode cX6_addPayer 9 = .ok (.iastore, 1) := by decide +kernel
theorem dX6_addPayer_10 : decode cX6_addPayer 10 = .ok (.aload_n 0, 1) := by decide +kernel
theorem dX6_addPayer_11 : decode cX6_addPayer 11 = .ok (.getfield 15, 3) := by decide +kernel
theorem dX6_addPayer_14 : decode cX6_addPayer 14 = .ok (.aload_n 0, 1) := by decide +kernel
theorem dX6_addPayer_15 : decode cX6_addPayer 15 = .ok (.getfield 53, 3) := by decide +kernel
theorem dX6_addPayer_18 : decode cX6_addPayer 18 = .ok (.iconst 0, 1) := by decide +kernel
theorem dX6_addPayer_19 : decode cX6_addPayer 19 = .ok (.iastore, 1) := by decide +kernel
theorem dX6_addPayer_20 : decode cX6_addPayer 20 = .ok (.aload_n 0, 1) := by decide +kernel
theorem dX6_addPayer_21 : decode cX6_addPayer 21 = .ok (.getfield 18, 3) := by decide +kernel
theorem dX6_addPayer_24 : decode cX6_addPayer 24 = .ok (.aload_n 0, 1) := by decide +kernel
theorem dX6_addPayer_25 : decode cX6_addPayer 25 = .ok (.getfield 53, 3) := by decide +kernel
theorem dX6_addPayer_28 : decode cX6_addPayer 28 = .ok (.iconst 0, 1) := by decide +kernel
theorem dX6_addPayer_29 : decode cX6_addPayer 29 = .ok (.iastore, 1) := by decide +kernel
theorem dX6_addPayer_30 : decode cX6_addPayer 30 = .ok (.aload_n 0, 1) := by decide +kernel
theorem dX6_addPayer_31 : decode cX6_addPayer 31 = .ok (.dup, 1) := by decide +kernel
theorem dX6_addPayer_32 : decode cX6_addPayer 32 = .ok (.getfield 53, 3) := by decide +kernel
theorem dX6_addPayer_35 : decode cX6_addPayer 35 = .ok (.iconst 1, 1) := by decide +kernel
theorem dX6_addPayer_36 : decode cX6_addPayer 36 = .ok (.iadd, 1) := by decide +kernel
theorem dX6_addPayer_37 : decode cX6_addPayer 37 = .ok (.putfield 53, 3) := by decide +kernel
theorem dX6_addPayer_40 : decode cX6_addPayer 40 = .ok (.aload_n 0, 1) := by decide +kernel
theorem dX6_addPayer_41 : decode cX6_addPayer 41 = .ok (.getfield 53, 3) := by decide +kernel
theorem dX6_addPayer_44 : decode cX6_addPayer 44 = .ok (.iconst 1, 1) := by decide +kernel
theorem dX6_addPayer_45 : decode cX6_addPayer 45 = .ok (.isub, 1) := by decide +kernel
theorem dX6_addPayer_46 : decode cX6_addPayer 46 = .ok (.ireturn, 1) := by decide +kernel
noncomputable def o_X6_addPayer (τ : cT) (n : Nat) (b : Nat) (s : cS) : Option (Int32 × cS) := if iL (s.1 (b + 121) 6) 30 then (if iL ((ca s (b + 122) (s.1 (b + 121) 6) (nI 0)).1 (b + 121) 6) 30 then ((some (ca (ca s (b + 122) (s.1 (b + 121) 6) (nI 0)) (b + 123) ((ca s (b + 122) (s.1 (b + 121) 6) (nI 0)).1 (b + 121) 6) (nI 0))).bind fun x3 => (if iL (x3.1 (b + 121) 6) 30 then ((some (cp (ca x3 (b + 124) (x3.1 (b + 121) 6) (nI 0)) (b + 121) 6 (((ca x3 (b + 124) (x3.1 (b + 121) 6) (nI 0)).1 (b + 121) 6) + (nI 1)))).bind fun x5 => (some ((x5.1 (b + 121) 6) - (nI 1), x5))) else none)) else none) else none
set_option maxHeartbeats 4000000 in
theorem t_X6_addPayer {Γ : jg_G} {g : Nat → jg_C} (τ : cT) (n : Nat) (b : Nat) (s : cS) (hB : Bd τ n b) {x : Int32 × cS} (h : o_X6_addPayer τ n b s = some x) : jc Γ mX6_addPayer 0 0 0 [some (.ref (b + 121))] (ct_h g τ s, n) (.inl (some (.int x.1))) (ct_h g τ x.2, n) := by
  refine jc_of ?_
  rw [o_X6_addPayer] at h
  refine jg_aload_n dX6_addPayer_0 rfl ?_
  refine cs_get (s := s) (w := .ref (b + 122)) fl_X6_9 dX6_addPayer_1 (hB.ob 121 (by decide) rfl) rfl ?_
  refine jg_aload_n dX6_addPayer_4 rfl ?_
  refine cs_get (s := s) (w := .int (s.1 (b + 121) 6)) fl_X6_53 dX6_addPayer_5 (hB.ob 121 (by decide) rfl) rfl ?_
  refine jg_iconst (v := nI 0) dX6_addPayer_8 (by decide) ?_
  obtain ⟨q1, h⟩ := gd_some h
  refine cs_sta (s := s) (q := (b + 122)) (i := (s.1 (b + 121) 6)) (x := (nI 0)) dX6_addPayer_9 (hB.ar 122 (by decide) rfl) q1 ?_
  refine jg_aload_n dX6_addPayer_10 rfl ?_
  refine cs_get (s := (ca s (b + 122) (s.1 (b + 121) 6) (nI 0))) (w := .ref (b + 123)) fl_X6_15 dX6_addPayer_11 (hB.ob 121 (by decide) rfl) rfl ?_
  refine jg_aload_n dX6_addPayer_14 rfl ?_
  refine cs_get (s := (ca s (b + 122) (s.1 (b + 121) 6) (nI 0))) (w := .int ((ca s (b + 122) (s.1 (b + 121) 6) (nI 0)).1 (b + 121) 6)) fl_X6_53 dX6_addPayer_15 (hB.ob 121 (by decide) rfl) rfl ?_
  refine jg_iconst (v := nI 0) dX6_addPayer_18 (by decide) ?_
  obtain ⟨q2, h⟩ := gd_some h
  refine cs_sta (s := (ca s (b + 122) (s.1 (b + 121) 6) (nI 0))) (q := (b + 123)) (i := ((ca s (b + 122) (s.1 (b + 121) 6) (nI 0)).1 (b + 121) 6)) (x := (nI 0)) dX6_addPayer_19 (hB.ar 123 (by decide) rfl) q2 ?_
  obtain ⟨x3, e_x3, h⟩ := bd_some h
  refine cs_sub (Option.some.inj e_x3) ?_
  refine jg_aload_n dX6_addPayer_20 rfl ?_
  refine cs_get (s := x3) (w := .ref (b + 124)) fl_X6_18 dX6_addPayer_21 (hB.ob 121 (by decide) rfl) rfl ?_
  refine jg_aload_n dX6_addPayer_24 rfl ?_
  refine cs_get (s := x3) (w := .int (x3.1 (b + 121) 6)) fl_X6_53 dX6_addPayer_25 (hB.ob 121 (by decide) rfl) rfl ?_
  refine jg_iconst (v := nI 0) dX6_addPayer_28 (by decide) ?_
  obtain ⟨q4, h⟩ := gd_some h
  refine cs_sta (s := x3) (q := (b + 124)) (i := (x3.1 (b + 121) 6)) (x := (nI 0)) dX6_addPayer_29 (hB.ar 124 (by decide) rfl) q4 ?_
  refine jg_aload_n dX6_addPayer_30 rfl ?_
  refine jg_dup dX6_addPayer_31 rfl ?_
  refine cs_get (s := (ca x3 (b + 124) (x3.1 (b + 121) 6) (nI 0))) (w := .int ((ca x3 (b + 124) (x3.1 (b + 121) 6) (nI 0)).1 (b + 121) 6)) fl_X6_53 dX6_addPayer_32 (hB.ob 121 (by decide) rfl) rfl ?_
  refine jg_iconst (v := nI 1) dX6_addPayer_35 (by decide) ?_
  refine jg_iadd (x := ((ca x3 (b + 124) (x3.1 (b + 121) 6) (nI 0)).1 (b + 121) 6)) (y := (nI 1)) dX6_addPayer_36  ?_
  refine cs_put (s := (ca x3 (b + 124) (x3.1 (b + 121) 6) (nI 0))) (k := 6) (x := (((ca x3 (b + 124) (x3.1 (b + 121) 6) (nI 0)).1 (b + 121) 6) + (nI 1))) fl_X6_53 dX6_addPayer_37 (hB.ob 121 (by decide) rfl) (ltb rfl) (rfl) rfl rfl ?_
  obtain ⟨x5, e_x5, h⟩ := bd_some h
  refine cs_sub (Option.some.inj e_x5) ?_
  refine jg_aload_n dX6_addPayer_40 rfl ?_
  refine cs_get (s := x5) (w := .int (x5.1 (b + 121) 6)) fl_X6_53 dX6_addPayer_41 (hB.ob 121 (by decide) rfl) rfl ?_
  refine jg_iconst (v := nI 1) dX6_addPayer_44 (by decide) ?_
  refine jg_isub (x := (x5.1 (b + 121) 6)) (y := (nI 1)) dX6_addPayer_45  ?_
  obtain rfl := Option.some.inj h
  exact jg_ireturn dX6_addPayer_46 rfl ⟨rfl, rfl⟩
theorem dX9_come_0 : decode cX9_come 0 = .ok (.aload_n 0, 1) := by decide +kernel
theorem dX9_come_1 : decode cX9_come 1 = .ok (.aload_n 2, 1) := by decide +kernel
theorem dX9_come_2 : decode cX9_come 2 = .ok (.putfield 9, 3) := by decide +kernel
theorem dX9_come_5 : decode cX9_come 5 = .ok (.aload_n 0, 1) := by decide +kernel
theorem dX9_come_6 : decode cX9_come 6 = .ok (.iload_n 1, 1) := by decide +kernel
theorem dX9_come_7 : decode cX9_come 7 = .ok (.putfield 29, 3) := by decide +kernel
theorem dX9_come_10 : decode cX9_come 10 = .ok (.aload_n 0, 1) := by decide +kernel
theorem dX9_come_11 : decode cX9_come 11 = .ok (.iconst 0, 1) := by decide +kernel
theorem dX9_come_12 : decode cX9_come 12 = .ok (.putfield 32, 3) := by decide +kernel
theorem dX9_come_15 : decode cX9_come 15 = .ok (.aload_n 0, 1) := by decide +kernel
theorem dX9_come_16 : decode cX9_come 16 = .ok (.iconst (-1), 1) := by decide +kernel
theorem dX9_come_17 : decode cX9_come 17 = .ok (.putfield 35, 3) := by decide +kernel
theorem dX9_come_20 : decode cX9_come 20 = .ok (.aload_n 0, 1) := by decide +kernel
theorem dX9_come_21 : decode cX9_come 21 = .ok (.aload_n 0, 1) := by decide +kernel
theorem dX9_come_22 : decode cX9_come 22 = .ok (.getfield 19, 3) := by decide +kernel
theorem dX9_come_25 : decode cX9_come 25 = .ok (.putfield 38, 3) := by decide +kernel
theorem dX9_come_28 : decode cX9_come 28 = .ok (.aload_n 0, 1) := by decide +kernel
theorem dX9_come_29 : decode cX9_come 29 = .ok (.iconst (-1), 1) := by decide +kernel
theorem dX9_come_30 : decode cX9_come 30 = .ok (.putfield 41, 3) := by decide +kernel
theorem dX9_come_33 : decode cX9_come 33 = .ok (.aload_n 0, 1) := by decide +kernel
theorem dX9_come_34 : decode cX9_come 34 = .ok (.iconst (-1), 1) := by decide +kernel
theorem dX9_come_35 : decode cX9_come 35 = .ok (.putfield 44, 3) := by decide +kernel
theorem dX9_come_38 : decode cX9_come 38 = .ok (.aload_n 0, 1) := by decide +kernel
theorem dX9_come_39 : decode cX9_come 39 = .ok (.iconst 0, 1) := by decide +kernel
theorem dX9_come_40 : decode cX9_come 40 = .ok (.putfield 47, 3) := by decide +kernel
theorem dX9_come_43 : decode cX9_come 43 = .ok (.aload_n 0, 1) := by decide +kernel
theorem dX9_come_44 : decode cX9_come 44 = .ok (.iconst 0, 1) := by decide +kernel
theorem dX9_come_45 : decode cX9_come 45 = .ok (.putfield 50, 3) := by decide +kernel
theorem dX9_come_48 : decode cX9_come 48 = .ok (.aload_n 0, 1) := by decide +kernel
theorem dX9_come_49 : decode cX9_come 49 = .ok (.iconst 0, 1) := by decide +kernel
theorem dX9_come_50 : decode cX9_come 50 = .ok (.putfield 53, 3) := by decide +kernel
theorem dX9_come_53 : decode cX9_come 53 = .ok (.aload_n 0, 1) := by decide +kernel
theorem dX9_come_54 : decode cX9_come 54 = .ok (.iconst 0, 1) := by decide +kernel
theorem dX9_come_55 : decode cX9_come 55 = .ok (.putfield 56, 3) := by decide +kernel
theorem dX9_come_58 : decode cX9_come 58 = .ok (.return_, 1) := by decide +kernel
noncomputable def o_X9_come (τ : cT) (n : Nat) (p : Nat) (a2 : Nat) (s : cS) (a1 : Int32) : Option (cS) := (some (cp (cp (cp (cq s p 8 (some a2)) p 9 a1) p 10 (nI 0)) p 11 (-1))).bind fun x1 => ((some (cp (cp (cp (cp x1 p 12 (x1.1 p 1)) p 13 (-1)) p 14 (-1)) p 15 (nI 0))).bind fun x2 => (some (cp (cp (cp x2 p 16 (nI 0)) p 17 (nI 0)) p 18 (nI 0))))
set_option maxHeartbeats 4000000 in
theorem t_X9_come {Γ : jg_G} {g : Nat → jg_C} (τ : cT) (n : Nat) (p : Nat) (a2 : Nat) (s : cS) (a1 : Int32) (hp : Ob τ n p 9) (h2 : acb τ n a2 = true) {x : cS} (h : o_X9_come τ n p a2 s a1 = some x) : jc Γ mX9_come 0 0 0 [some (.ref p), some (.int a1), some (.ref a2)] (ct_h g τ s, n) (.inl none) (ct_h g τ x, n) := by
  refine jc_of ?_
  rw [o_X9_come] at h
  refine jg_aload_n dX9_come_0 rfl ?_
  refine jg_aload_n dX9_come_1 rfl ?_
  refine cs_putr (s := s) (y := a2) fl_X9_9 dX9_come_2 hp (ltb rfl) rfl rfl rfl ?_
  refine jg_aload_n dX9_come_5 rfl ?_
  refine jg_iload_n dX9_come_6 rfl ?_
  refine cs_put (s := (cq s p 8 (some a2))) (k := 9) (x := a1) fl_X9_29 dX9_come_7 hp (ltb rfl) (rfl) rfl rfl ?_
  refine jg_aload_n dX9_come_10 rfl ?_
  refine jg_iconst (v := nI 0) dX9_come_11 (by decide) ?_
  refine cs_put (s := (cp (cq s p 8 (some a2)) p 9 a1)) (k := 10) (x := (nI 0)) fl_X9_32 dX9_come_12 hp (ltb rfl) (rfl) rfl rfl ?_
  refine jg_aload_n dX9_come_15 rfl ?_
  refine jg_iconst (v := (-1)) dX9_come_16 (by decide) ?_
  refine cs_put (s := (cp (cp (cq s p 8 (some a2)) p 9 a1) p 10 (nI 0))) (k := 11) (x := (-1)) fl_X9_35 dX9_come_17 hp (ltb rfl) (rfl) rfl rfl ?_
  obtain ⟨x1, e_x1, h⟩ := bd_some h
  refine cs_sub (Option.some.inj e_x1) ?_
  refine jg_aload_n dX9_come_20 rfl ?_
  refine jg_aload_n dX9_come_21 rfl ?_
  refine cs_get (s := x1) (w := .int (x1.1 p 1)) fl_X9_19 dX9_come_22 hp rfl ?_
  refine cs_put (s := x1) (k := 12) (x := (x1.1 p 1)) fl_X9_38 dX9_come_25 hp (ltb rfl) (rfl) rfl rfl ?_
  refine jg_aload_n dX9_come_28 rfl ?_
  refine jg_iconst (v := (-1)) dX9_come_29 (by decide) ?_
  refine cs_put (s := (cp x1 p 12 (x1.1 p 1))) (k := 13) (x := (-1)) fl_X9_41 dX9_come_30 hp (ltb rfl) (rfl) rfl rfl ?_
  refine jg_aload_n dX9_come_33 rfl ?_
  refine jg_iconst (v := (-1)) dX9_come_34 (by decide) ?_
  refine cs_put (s := (cp (cp x1 p 12 (x1.1 p 1)) p 13 (-1))) (k := 14) (x := (-1)) fl_X9_44 dX9_come_35 hp (ltb rfl) (rfl) rfl rfl ?_
  refine jg_aload_n dX9_come_38 rfl ?_
  refine jg_iconst (v := nI 0) dX9_come_39 (by decide) ?_
  refine cs_put (s := (cp (cp (cp x1 p 12 (x1.1 p 1)) p 13 (-1)) p 14 (-1))) (k := 15) (x := (nI 0)) fl_X9_47 dX9_come_40 hp (ltb rfl) (rfl) rfl rfl ?_
  obtain ⟨x2, e_x2, h⟩ := bd_some h
  refine cs_sub (Option.some.inj e_x2) ?_
  refine jg_aload_n dX9_come_43 rfl ?_
  refine jg_iconst (v := nI 0) dX9_come_44 (by decide) ?_
  refine cs_put (s := x2) (k := 16) (x := (nI 0)) fl_X9_50 dX9_come_45 hp (ltb rfl) (rfl) rfl rfl ?_
  refine jg_aload_n dX9_come_48 rfl ?_
  refine jg_iconst (v := nI 0) dX9_come_49 (by decide) ?_
  refine cs_put (s := (cp x2 p 16 (nI 0))) (k := 17) (x := (nI 0)) fl_X9_53 dX9_come_50 hp (ltb rfl) (rfl) rfl rfl ?_
  refine jg_aload_n dX9_come_53 rfl ?_
  refine jg_iconst (v := nI 0) dX9_come_54 (by decide) ?_
  refine cs_put (s := (cp (cp x2 p 16 (nI 0)) p 17 (nI 0))) (k := 18) (x := (nI 0)) fl_X9_56 dX9_come_55 hp (ltb rfl) (rfl) rfl rfl ?_
  obtain rfl := Option.some.inj h
  exact jg_return dX9_come_58 rfl ⟨rfl, rfl⟩
