/-! THE REFERENCE AS FUNCTIONS (by program wip/whole/rdec.py) -/
theorem dX12_thrown_0 : decode cX12_thrown 0 = .ok (.aload_n 0, 1) := by decide +kernel
theorem dX12_thrown_1 : decode cX12_thrown 1 = .ok (.getfield 3, 3) := by decide +kernel
theorem dX12_thrown_4 : decode cX12_thrown 4 = .ok (.ireturn, 1) := by decide +kernel
noncomputable def o_X12_thrown (s : rs_S) : Option (Int32) := some (s.1 0)
set_option maxHeartbeats 4000000 in
theorem t_X12_thrown {Γ : jg_G} {g : Nat → jg_C} {n r : Nat} (hr : r + 11 ≤ n) (s : rs_S)  {x : Int32} (h : o_X12_thrown s = some x) : jc Γ mX12_thrown 0 0 0 [some (.ref r)] (rs_h g r s, n) (.inl (some (.int x))) (rs_h g r s, n) := by
  refine jc_of ?_
  rw [o_X12_thrown] at h
  refine jg_aload_n dX12_thrown_0 rfl ?_
  refine rs_ga fl_X12_3 dX12_thrown_1 hr rfl ?_
  obtain rfl := Option.some.inj h
  exact jg_ireturn dX12_thrown_4 rfl ⟨rfl, rfl⟩
theorem dX12_keep_0 : decode cX12_keep 0 = .ok (.aload_n 0, 1) := by decide +kernel
theorem dX12_keep_1 : decode cX12_keep 1 = .ok (.iconst 0, 1) := by decide +kernel
theorem dX12_keep_2 : decode cX12_keep 2 = .ok (.putfield 3, 3) := by decide +kernel
theorem dX12_keep_5 : decode cX12_keep 5 = .ok (.iconst 0, 1) := by decide +kernel
theorem dX12_keep_6 : decode cX12_keep 6 = .ok (.istore_n 1, 1) := by decide +kernel
theorem dX12_keep_7 : decode cX12_keep 7 = .ok (.iload_n 1, 1) := by decide +kernel
theorem dX12_keep_8 : decode cX12_keep 8 = .ok (.sipush 21334, 3) := by decide +kernel
theorem dX12_keep_11 : decode cX12_keep 11 = .ok (.if_icmp .ge 21, 3) := by decide +kernel
theorem dX12_keep_14 : decode cX12_keep 14 = .ok (.aload_n 0, 1) := by decide +kernel
theorem dX12_keep_15 : decode cX12_keep 15 = .ok (.getfield 17, 3) := by decide +kernel
theorem dX12_keep_18 : decode cX12_keep 18 = .ok (.iload_n 1, 1) := by decide +kernel
theorem dX12_keep_19 : decode cX12_keep 19 = .ok (.aload_n 0, 1) := by decide +kernel
theorem dX12_keep_20 : decode cX12_keep 20 = .ok (.getfield 13, 3) := by decide +kernel
theorem dX12_keep_23 : decode cX12_keep 23 = .ok (.iload_n 1, 1) := by decide +kernel
theorem dX12_keep_24 : decode cX12_keep 24 = .ok (.iaload, 1) := by decide +kernel
theorem dX12_keep_25 : decode cX12_keep 25 = .ok (.iastore, 1) := by decide +kernel
theorem dX12_keep_26 : decode cX12_keep 26 = .ok (.iinc 1 1, 3) := by decide +kernel
theorem dX12_keep_29 : decode cX12_keep 29 = .ok (.goto (-22), 3) := by decide +kernel
theorem dX12_keep_32 : decode cX12_keep 32 = .ok (.aload_n 0, 1) := by decide +kernel
theorem dX12_keep_33 : decode cX12_keep 33 = .ok (.iconst 1, 1) := by decide +kernel
theorem dX12_keep_34 : decode cX12_keep 34 = .ok (.putfield 61, 3) := by decide +kernel
theorem dX12_keep_37 : decode cX12_keep 37 = .ok (.return_, 1) := by decide +kernel
noncomputable def o_X12_keep_7 (F : Nat)   : Nat → Int32 → rs_S → Option (rs_S)
  | 0, _, _ => none
  | f + 1, l1, s => if (nI 21334) ≤ l1 then (some s) else (if iL l1 22216 then (if iL l1 21334 then (o_X12_keep_7 F f (l1 + nI 1) (pR s 1 l1 (gW s l1))) else none) else none)
set_option maxHeartbeats 4000000 in
theorem t_X12_keep_7 {Γ : jg_G} {g : Nat → jg_C} {n r : Nat} (hr : r + 11 ≤ n) (F : Nat)    (Q : jg_Q) {x : rs_S} (K1 : jg Γ mX12_keep 0 0 0 32 [some (.ref r), none] [] (rs_h g r x, n) Q)  : ∀ (f : Nat) (l1 : Int32) (s : rs_S), o_X12_keep_7 F f l1 s = some x → jg Γ mX12_keep 0 0 0 7 [some (.ref r), some (.int l1)] [] (rs_h g r s, n) Q := by
  intro f
  induction f with
  | zero => intro l1 s h; rw [o_X12_keep_7] at h; cases h
  | succ f ih =>
   intro l1 s h
   rw [o_X12_keep_7] at h
   refine jg_iload_n dX12_keep_7 rfl ?_
   refine jg_sipush (v := nI 21334) dX12_keep_8 (by decide) ?_
   refine jg_icmp_ge (x := l1) (y := (nI 21334)) (tgt := 32) dX12_keep_11 (by decide) (fun c1 => ?_) (fun c1 => ?_)
   · replace h := it_t c1 h
     refine jg_fg (L' := [some (.ref r), none]) (by repeat (first | exact trivial | refine ⟨rfl, ?_⟩ | show jg_le _ _)) ?_
     obtain rfl := Option.some.inj h
     exact K1
   · replace h := it_f c1 h
     refine jg_aload_n dX12_keep_14 rfl ?_
     refine rs_ga fl_X12_17 dX12_keep_15 hr rfl ?_
     refine jg_iload_n dX12_keep_18 rfl ?_
     refine jg_aload_n dX12_keep_19 rfl ?_
     refine rs_ga fl_X12_13 dX12_keep_20 hr rfl ?_
     refine jg_iload_n dX12_keep_23 rfl ?_
     obtain ⟨q2, h⟩ := gd_some h
     refine rs_lwD (s := s) (i := l1) dX12_keep_24 hr q2 ?_
     obtain ⟨q3, h⟩ := gd_some h
     refine rs_stD (s := s) (i := l1) (x := (gW s l1)) (j := 0) dX12_keep_25 hr (by decide) rfl q3 ?_
     refine jg_iinc (x := l1) (v := l1 + nI 1) (L' := [some (.ref r), some (.int (l1 + nI 1))]) dX12_keep_26 rfl (ic_k _ (by decide)) (by decide) rfl ?_
     refine jg_goto (tgt := 7) dX12_keep_29 (by decide) ?_
     refine jg_fg (L' := [some (.ref r), some (.int (l1 + nI 1))]) (by repeat (first | exact trivial | refine ⟨rfl, ?_⟩ | show jg_le _ _)) ?_
     exact ih (l1 + nI 1) (pR s 1 l1 (gW s l1)) h
noncomputable def o_X12_keep (F : Nat) (s : rs_S) : Option (rs_S) := (o_X12_keep_7 F F (nI 0) (pN s 0 (nI 0))).bind fun x4 => (some (pN x4 3 (nI 1)))
set_option maxHeartbeats 4000000 in
theorem t_X12_keep {Γ : jg_G} {g : Nat → jg_C} {n r : Nat} (hr : r + 11 ≤ n) (F : Nat) (s : rs_S)  {x : rs_S} (h : o_X12_keep F s = some x) : jc Γ mX12_keep 0 0 0 [some (.ref r), none] (rs_h g r s, n) (.inl none) (rs_h g r x, n) := by
  refine jc_of ?_
  rw [o_X12_keep] at h
  refine jg_aload_n dX12_keep_0 rfl ?_
  refine jg_iconst (v := nI 0) dX12_keep_1 (by decide) ?_
  refine rs_putD (s := s) (k := 0) (x := (nI 0)) fl_X12_3 dX12_keep_2 hr (by decide) (rfl) rfl rfl ?_
  refine jg_iconst (v := nI 0) dX12_keep_5 (by decide) ?_
  refine jg_istore_n (L' := [some (.ref r), some (.int (nI 0))]) dX12_keep_6 (by decide) rfl ?_
  obtain ⟨x4, e_x4, h⟩ := bd_some h
  refine jg_fg (L' := [some (.ref r), some (.int (nI 0))]) (by repeat (first | exact trivial | refine ⟨rfl, ?_⟩ | show jg_le _ _)) ?_
  refine t_X12_keep_7 hr F  _ (x := x4) ?_ F (nI 0) (pN s 0 (nI 0)) e_x4
  refine jg_aload_n dX12_keep_32 rfl ?_
  refine jg_iconst (v := nI 1) dX12_keep_33 (by decide) ?_
  refine rs_putD (s := x4) (k := 3) (x := (nI 1)) fl_X12_61 dX12_keep_34 hr (by decide) (rfl) rfl rfl ?_
  obtain rfl := Option.some.inj h
  exact jg_return dX12_keep_37 rfl ⟨rfl, rfl⟩
theorem dX12_again_0 : decode cX12_again 0 = .ok (.aload_n 0, 1) := by decide +kernel
theorem dX12_again_1 : decode cX12_again 1 = .ok (.iconst 0, 1) := by decide +kernel
theorem dX12_again_2 : decode cX12_again 2 = .ok (.putfield 3, 3) := by decide +kernel
theorem dX12_again_5 : decode cX12_again 5 = .ok (.aload_n 0, 1) := by decide +kernel
theorem dX12_again_6 : decode cX12_again 6 = .ok (.getfield 61, 3) := by decide +kernel
theorem dX12_again_9 : decode cX12_again 9 = .ok (.ifCond .ne 5, 3) := by decide +kernel
theorem dX12_again_12 : decode cX12_again 12 = .ok (.iconst 0, 1) := by decide +kernel
theorem dX12_again_13 : decode cX12_again 13 = .ok (.ireturn, 1) := by decide +kernel
theorem dX12_again_14 : decode cX12_again 14 = .ok (.iconst 0, 1) := by decide +kernel
theorem dX12_again_15 : decode cX12_again 15 = .ok (.istore_n 1, 1) := by decide +kernel
theorem dX12_again_16 : decode cX12_again 16 = .ok (.iload_n 1, 1) := by decide +kernel
theorem dX12_again_17 : decode cX12_again 17 = .ok (.sipush 21334, 3) := by decide +kernel
theorem dX12_again_20 : decode cX12_again 20 = .ok (.if_icmp .ge 21, 3) := by decide +kernel
theorem dX12_again_23 : decode cX12_again 23 = .ok (.aload_n 0, 1) := by decide +kernel
theorem dX12_again_24 : decode cX12_again 24 = .ok (.getfield 13, 3) := by decide +kernel
theorem dX12_again_27 : decode cX12_again 27 = .ok (.iload_n 1, 1) := by decide +kernel
theorem dX12_again_28 : decode cX12_again 28 = .ok (.aload_n 0, 1) := by decide +kernel
theorem dX12_again_29 : decode cX12_again 29 = .ok (.getfield 17, 3) := by decide +kernel
theorem dX12_again_32 : decode cX12_again 32 = .ok (.iload_n 1, 1) := by decide +kernel
theorem dX12_again_33 : decode cX12_again 33 = .ok (.iaload, 1) := by decide +kernel
theorem dX12_again_34 : decode cX12_again 34 = .ok (.iastore, 1) := by decide +kernel
theorem dX12_again_35 : decode cX12_again 35 = .ok (.iinc 1 1, 3) := by decide +kernel
theorem dX12_again_38 : decode cX12_again 38 = .ok (.goto (-22), 3) := by decide +kernel
theorem dX12_again_41 : decode cX12_again 41 = .ok (.iconst 1, 1) := by decide +kernel
theorem dX12_again_42 : decode cX12_again 42 = .ok (.ireturn, 1) := by decide +kernel
noncomputable def o_X12_again_16 (F : Nat)   : Nat → Int32 → rs_S → Option (rs_S)
  | 0, _, _ => none
  | f + 1, l1, s => if (nI 21334) ≤ l1 then (some s) else (if iL l1 21334 then (if iL l1 22216 then (o_X12_again_16 F f (l1 + nI 1) (pW s l1 (gR s 1 l1))) else none) else none)
set_option maxHeartbeats 4000000 in
theorem t_X12_again_16 {Γ : jg_G} {g : Nat → jg_C} {n r : Nat} (hr : r + 11 ≤ n) (F : Nat)    (Q : jg_Q) {x : rs_S} (K1 : jg Γ mX12_again 0 0 0 41 [none, none] [] (rs_h g r x, n) Q)  : ∀ (f : Nat) (l1 : Int32) (s : rs_S), o_X12_again_16 F f l1 s = some x → jg Γ mX12_again 0 0 0 16 [some (.ref r), some (.int l1)] [] (rs_h g r s, n) Q := by
  intro f
  induction f with
  | zero => intro l1 s h; rw [o_X12_again_16] at h; cases h
  | succ f ih =>
   intro l1 s h
   rw [o_X12_again_16] at h
   refine jg_iload_n dX12_again_16 rfl ?_
   refine jg_sipush (v := nI 21334) dX12_again_17 (by decide) ?_
   refine jg_icmp_ge (x := l1) (y := (nI 21334)) (tgt := 41) dX12_again_20 (by decide) (fun c2 => ?_) (fun c2 => ?_)
   · replace h := it_t c2 h
     refine jg_fg (L' := [none, none]) (by repeat (first | exact trivial | refine ⟨rfl, ?_⟩ | show jg_le _ _)) ?_
     obtain rfl := Option.some.inj h
     exact K1
   · replace h := it_f c2 h
     refine jg_aload_n dX12_again_23 rfl ?_
     refine rs_ga fl_X12_13 dX12_again_24 hr rfl ?_
     refine jg_iload_n dX12_again_27 rfl ?_
     refine jg_aload_n dX12_again_28 rfl ?_
     refine rs_ga fl_X12_17 dX12_again_29 hr rfl ?_
     refine jg_iload_n dX12_again_32 rfl ?_
     obtain ⟨q3, h⟩ := gd_some h
     refine rs_ldD (s := s) (i := l1) (j := 0) dX12_again_33 hr (by decide) rfl q3 ?_
     obtain ⟨q4, h⟩ := gd_some h
     refine rs_swD (s := s) (i := l1) (x := (gR s 1 l1)) dX12_again_34 hr q4 ?_
     refine jg_iinc (x := l1) (v := l1 + nI 1) (L' := [some (.ref r), some (.int (l1 + nI 1))]) dX12_again_35 rfl (ic_k _ (by decide)) (by decide) rfl ?_
     refine jg_goto (tgt := 16) dX12_again_38 (by decide) ?_
     refine jg_fg (L' := [some (.ref r), some (.int (l1 + nI 1))]) (by repeat (first | exact trivial | refine ⟨rfl, ?_⟩ | show jg_le _ _)) ?_
     exact ih (l1 + nI 1) (pW s l1 (gR s 1 l1)) h
noncomputable def o_X12_again (F : Nat) (s : rs_S) : Option (Int32 × rs_S) := if ((pN s 0 (nI 0)).1 3) = 0 then (some (nI 0, pN s 0 (nI 0))) else ((o_X12_again_16 F F (nI 0) (pN s 0 (nI 0))).bind fun x5 => (some (nI 1, x5)))
set_option maxHeartbeats 4000000 in
theorem t_X12_again {Γ : jg_G} {g : Nat → jg_C} {n r : Nat} (hr : r + 11 ≤ n) (F : Nat) (s : rs_S)  {x : Int32 × rs_S} (h : o_X12_again F s = some x) : jc Γ mX12_again 0 0 0 [some (.ref r), none] (rs_h g r s, n) (.inl (some (.int x.1))) (rs_h g r x.2, n) := by
  refine jc_of ?_
  rw [o_X12_again] at h
  refine jg_aload_n dX12_again_0 rfl ?_
  refine jg_iconst (v := nI 0) dX12_again_1 (by decide) ?_
  refine rs_putD (s := s) (k := 0) (x := (nI 0)) fl_X12_3 dX12_again_2 hr (by decide) (rfl) rfl rfl ?_
  refine jg_aload_n dX12_again_5 rfl ?_
  refine rs_ga fl_X12_61 dX12_again_6 hr rfl ?_
  refine jg_if_ne (x := ((pN s 0 (nI 0)).1 3)) (tgt := 14) dX12_again_9 (by decide) (fun c1 => ?_) (fun c1 => ?_)
  · replace h := it_f c1 h
    refine jg_iconst (v := nI 0) dX12_again_14 (by decide) ?_
    refine jg_istore_n (L' := [some (.ref r), some (.int (nI 0))]) dX12_again_15 (by decide) rfl ?_
    obtain ⟨x5, e_x5, h⟩ := bd_some h
    refine jg_fg (L' := [some (.ref r), some (.int (nI 0))]) (by repeat (first | exact trivial | refine ⟨rfl, ?_⟩ | show jg_le _ _)) ?_
    refine t_X12_again_16 hr F  _ (x := x5) ?_ F (nI 0) (pN s 0 (nI 0)) e_x5
    refine jg_iconst (v := nI 1) dX12_again_41 (by decide) ?_
    obtain rfl := Option.some.inj h
    exact jg_zreturn dX12_again_42 rfl (rfl) ⟨rfl, rfl⟩
  · replace h := it_t c1 h
    refine jg_iconst (v := nI 0) dX12_again_12 (by decide) ?_
    obtain rfl := Option.some.inj h
    exact jg_zreturn dX12_again_13 rfl (rfl) ⟨rfl, rfl⟩
theorem dX12_in_0 : decode cX12_in 0 = .ok (.iload_n 0, 1) := by decide +kernel
theorem dX12_in_1 : decode cX12_in 1 = .ok (.iload_n 1, 1) := by decide +kernel
theorem dX12_in_2 : decode cX12_in 2 = .ok (.if_icmp .lt 12, 3) := by decide +kernel
theorem dX12_in_5 : decode cX12_in 5 = .ok (.iload_n 0, 1) := by decide +kernel
theorem dX12_in_6 : decode cX12_in 6 = .ok (.iload_n 2, 1) := by decide +kernel
theorem dX12_in_7 : decode cX12_in 7 = .ok (.if_icmp .gt 7, 3) := by decide +kernel
theorem dX12_in_10 : decode cX12_in 10 = .ok (.iconst 1, 1) := by decide +kernel
theorem dX12_in_11 : decode cX12_in 11 = .ok (.goto 4, 3) := by decide +kernel
theorem dX12_in_14 : decode cX12_in 14 = .ok (.iconst 0, 1) := by decide +kernel
theorem dX12_in_15 : decode cX12_in 15 = .ok (.ireturn, 1) := by decide +kernel
noncomputable def o_X12_in (s : rs_S) (a1 : Int32) (a2 : Int32) (a3 : Int32) : Option (Int32) := if a1 < a2 then (some (nI 0)) else (if a3 < a1 then (some (nI 0)) else (some (nI 1)))
set_option maxHeartbeats 4000000 in
theorem t_X12_in {Γ : jg_G} {g : Nat → jg_C} {n r : Nat} (hr : r + 11 ≤ n) (s : rs_S) (a1 : Int32) (a2 : Int32) (a3 : Int32)  {x : Int32} (h : o_X12_in s a1 a2 a3 = some x) : jc Γ mX12_in 0 0 0 [some (.int a1), some (.int a2), some (.int a3)] (rs_h g r s, n) (.inl (some (.int x))) (rs_h g r s, n) := by
  refine jc_of ?_
  rw [o_X12_in] at h
  refine jg_iload_n dX12_in_0 rfl ?_
  refine jg_iload_n dX12_in_1 rfl ?_
  refine jg_icmp_lt (x := a1) (y := a2) (tgt := 14) dX12_in_2 (by decide) (fun c1 => ?_) (fun c1 => ?_)
  · replace h := it_t c1 h
    refine jg_iconst (v := nI 0) dX12_in_14 (by decide) ?_
    obtain rfl := Option.some.inj h
    exact jg_zreturn dX12_in_15 rfl (rfl) ⟨rfl, rfl⟩
  · replace h := it_f c1 h
    refine jg_iload_n dX12_in_5 rfl ?_
    refine jg_iload_n dX12_in_6 rfl ?_
    refine jg_icmp_gt (x := a1) (y := a3) (tgt := 14) dX12_in_7 (by decide) (fun c2 => ?_) (fun c2 => ?_)
    · replace h := it_t c2 h
      refine jg_iconst (v := nI 0) dX12_in_14 (by decide) ?_
      obtain rfl := Option.some.inj h
      exact jg_zreturn dX12_in_15 rfl (rfl) ⟨rfl, rfl⟩
    · replace h := it_f c2 h
      refine jg_iconst (v := nI 1) dX12_in_10 (by decide) ?_
      refine jg_goto (tgt := 15) dX12_in_11 (by decide) ?_
      obtain rfl := Option.some.inj h
      exact jg_zreturn dX12_in_15 rfl (rfl) ⟨rfl, rfl⟩
theorem dX12_noCell_0 : decode cX12_noCell 0 = .ok (.iload_n 0, 1) := by decide +kernel
theorem dX12_noCell_1 : decode cX12_noCell 1 = .ok (.iconst 0, 1) := by decide +kernel
theorem dX12_noCell_2 : decode cX12_noCell 2 = .ok (.bipush 23, 2) := by decide +kernel
theorem dX12_noCell_4 : decode cX12_noCell 4 = .ok (.invokestatic 49, 3) := by decide +kernel
theorem dX12_noCell_7 : decode cX12_noCell 7 = .ok (.ifCond .ne 7, 3) := by decide +kernel
theorem dX12_noCell_10 : decode cX12_noCell 10 = .ok (.iconst 1, 1) := by decide +kernel
theorem dX12_noCell_11 : decode cX12_noCell 11 = .ok (.goto 4, 3) := by decide +kernel
theorem dX12_noCell_14 : decode cX12_noCell 14 = .ok (.iconst 0, 1) := by decide +kernel
theorem dX12_noCell_15 : decode cX12_noCell 15 = .ok (.ireturn, 1) := by decide +kernel
noncomputable def o_X12_noCell (s : rs_S) (a1 : Int32) : Option (Int32) := (o_X12_in s a1 (nI 0) (nI 23)).bind fun x1 => (if x1 = 0 then (some (nI 1)) else (some (nI 0)))
set_option maxHeartbeats 4000000 in
theorem t_X12_noCell {Γ : jg_G} {g : Nat → jg_C} {n r : Nat} (hr : r + 11 ≤ n) (s : rs_S) (a1 : Int32)  {x : Int32} (h : o_X12_noCell s a1 = some x) : jc Γ mX12_noCell 1 0 0 [some (.int a1)] (rs_h g r s, n) (.inl (some (.int x))) (rs_h g r s, n) := by
  refine jc_of ?_
  rw [o_X12_noCell] at h
  refine jg_iload_n dX12_noCell_0 rfl ?_
  refine jg_iconst (v := nI 0) dX12_noCell_1 (by decide) ?_
  refine jg_bipush (v := nI 23) dX12_noCell_2 (by decide) ?_
  obtain ⟨x1, e_x1, h⟩ := bd_some h
  refine rs_callS (As := [.int a1, .int (nI 0), .int (nI 23)]) ks_X12_49 dX12_noCell_4 rfl (by decide) (Nat.le_of_ble_eq_true rfl) rfl (by decide) (Nat.le_of_ble_eq_true rfl) (t_X12_in hr s a1 (nI 0) (nI 23) e_x1) ?_
  refine jg_if_ne (x := x1) (tgt := 14) dX12_noCell_7 (by decide) (fun c2 => ?_) (fun c2 => ?_)
  · replace h := it_f c2 h
    refine jg_iconst (v := nI 0) dX12_noCell_14 (by decide) ?_
    obtain rfl := Option.some.inj h
    exact jg_zreturn dX12_noCell_15 rfl (rfl) ⟨rfl, rfl⟩
  · replace h := it_t c2 h
    refine jg_iconst (v := nI 1) dX12_noCell_10 (by decide) ?_
    refine jg_goto (tgt := 15) dX12_noCell_11 (by decide) ?_
    obtain rfl := Option.some.inj h
    exact jg_zreturn dX12_noCell_15 rfl (rfl) ⟨rfl, rfl⟩
theorem dX12_throwsIf_0 : decode cX12_throwsIf 0 = .ok (.iload_n 1, 1) := by decide +kernel
theorem dX12_throwsIf_1 : decode cX12_throwsIf 1 = .ok (.ifCond .eq 8, 3) := by decide +kernel
theorem dX12_throwsIf_4 : decode cX12_throwsIf 4 = .ok (.aload_n 0, 1) := by decide +kernel
theorem dX12_throwsIf_5 : decode cX12_throwsIf 5 = .ok (.iload_n 2, 1) := by decide +kernel
theorem dX12_throwsIf_6 : decode cX12_throwsIf 6 = .ok (.putfield 3, 3) := by decide +kernel
theorem dX12_throwsIf_9 : decode cX12_throwsIf 9 = .ok (.iload_n 1, 1) := by decide +kernel
theorem dX12_throwsIf_10 : decode cX12_throwsIf 10 = .ok (.ireturn, 1) := by decide +kernel
noncomputable def o_X12_throwsIf (s : rs_S) (a1 : Int32) (a2 : Int32) : Option (Int32 × rs_S) := if a1 = 0 then (if zb a1 then some (a1, s) else none) else (if zb a1 then some (a1, pN s 0 a2) else none)
set_option maxHeartbeats 4000000 in
theorem t_X12_throwsIf {Γ : jg_G} {g : Nat → jg_C} {n r : Nat} (hr : r + 11 ≤ n) (s : rs_S) (a1 : Int32) (a2 : Int32)  {x : Int32 × rs_S} (h : o_X12_throwsIf s a1 a2 = some x) : jc Γ mX12_throwsIf 0 0 0 [some (.ref r), some (.int a1), some (.int a2)] (rs_h g r s, n) (.inl (some (.int x.1))) (rs_h g r x.2, n) := by
  refine jc_of ?_
  rw [o_X12_throwsIf] at h
  refine jg_iload_n dX12_throwsIf_0 rfl ?_
  refine jg_if_eq (x := a1) (tgt := 9) dX12_throwsIf_1 (by decide) (fun c1 => ?_) (fun c1 => ?_)
  · replace h := it_t c1 h
    refine jg_iload_n dX12_throwsIf_9 rfl ?_
    obtain ⟨q9, h⟩ := gd_some h
    obtain rfl := Option.some.inj h
    exact jg_zreturn dX12_throwsIf_10 rfl (zb_nar q9) ⟨rfl, rfl⟩
  · replace h := it_f c1 h
    refine jg_aload_n dX12_throwsIf_4 rfl ?_
    refine jg_iload_n dX12_throwsIf_5 rfl ?_
    refine rs_putD (s := s) (k := 0) (x := a2) fl_X12_3 dX12_throwsIf_6 hr (by decide) (rfl) rfl rfl ?_
    refine jg_iload_n dX12_throwsIf_9 rfl ?_
    obtain ⟨q9, h⟩ := gd_some h
    obtain rfl := Option.some.inj h
    exact jg_zreturn dX12_throwsIf_10 rfl (zb_nar q9) ⟨rfl, rfl⟩
theorem o_thr1 (s : rs_S) (k : Int32) : o_X12_throwsIf s (nI 1) k = some (nI 1, pN s 0 k) := by rw [o_X12_throwsIf, if_neg (by decide), if_pos (by decide)]
theorem o_thr0 (s : rs_S) (k : Int32) : o_X12_throwsIf s (nI 0) k = some (nI 0, s) := by rw [o_X12_throwsIf, if_pos (by decide), if_pos (by decide)]
theorem dX12_hour_0 : decode cX12_hour 0 = .ok (.aload_n 0, 1) := by decide +kernel
theorem dX12_hour_1 : decode cX12_hour 1 = .ok (.getfield 13, 3) := by decide +kernel
theorem dX12_hour_4 : decode cX12_hour 4 = .ok (.iconst 0, 1) := by decide +kernel
theorem dX12_hour_5 : decode cX12_hour 5 = .ok (.iaload, 1) := by decide +kernel
theorem dX12_hour_6 : decode cX12_hour 6 = .ok (.ireturn, 1) := by decide +kernel
noncomputable def o_X12_hour (s : rs_S) : Option (Int32) := some (gW s (nI 0))
set_option maxHeartbeats 4000000 in
theorem t_X12_hour {Γ : jg_G} {g : Nat → jg_C} {n r : Nat} (hr : r + 11 ≤ n) (s : rs_S)  {x : Int32} (h : o_X12_hour s = some x) : jc Γ mX12_hour 0 0 0 [some (.ref r)] (rs_h g r s, n) (.inl (some (.int x))) (rs_h g r s, n) := by
  refine jc_of ?_
  rw [o_X12_hour] at h
  refine jg_aload_n dX12_hour_0 rfl ?_
  refine rs_ga fl_X12_13 dX12_hour_1 hr rfl ?_
  refine jg_iconst (v := nI 0) dX12_hour_4 (by decide) ?_
  refine rs_lwD (s := s) (i := (nI 0)) dX12_hour_5 hr (by decide) ?_
  obtain rfl := Option.some.inj h
  exact jg_ireturn dX12_hour_6 rfl ⟨rfl, rfl⟩
theorem dX12_river_0 : decode cX12_river 0 = .ok (.aload_n 0, 1) := by decide +kernel
theorem dX12_river_1 : decode cX12_river 1 = .ok (.iconst 0, 1) := by decide +kernel
theorem dX12_river_2 : decode cX12_river 2 = .ok (.putfield 3, 3) := by decide +kernel
theorem dX12_river_5 : decode cX12_river 5 = .ok (.aload_n 0, 1) := by decide +kernel
theorem dX12_river_6 : decode cX12_river 6 = .ok (.iload_n 1, 1) := by decide +kernel
theorem dX12_river_7 : decode cX12_river 7 = .ok (.invokestatic 65, 3) := by decide +kernel
theorem dX12_river_10 : decode cX12_river 10 = .ok (.ifCond .ne 10, 3) := by decide +kernel
theorem dX12_river_13 : decode cX12_river 13 = .ok (.iload_n 2, 1) := by decide +kernel
theorem dX12_river_14 : decode cX12_river 14 = .ok (.invokestatic 65, 3) := by decide +kernel
theorem dX12_river_17 : decode cX12_river 17 = .ok (.ifCond .eq 7, 3) := by decide +kernel
theorem dX12_river_20 : decode cX12_river 20 = .ok (.iconst 1, 1) := by decide +kernel
theorem dX12_river_21 : decode cX12_river 21 = .ok (.goto 4, 3) := by decide +kernel
theorem dX12_river_24 : decode cX12_river 24 = .ok (.iconst 0, 1) := by decide +kernel
theorem dX12_river_25 : decode cX12_river 25 = .ok (.iconst 1, 1) := by decide +kernel
theorem dX12_river_26 : decode cX12_river 26 = .ok (.invokevirtual 69, 3) := by decide +kernel
theorem dX12_river_29 : decode cX12_river 29 = .ok (.ifCond .ne 64, 3) := by decide +kernel
theorem dX12_river_32 : decode cX12_river 32 = .ok (.aload_n 0, 1) := by decide +kernel
theorem dX12_river_33 : decode cX12_river 33 = .ok (.iload_n 1, 1) := by decide +kernel
theorem dX12_river_34 : decode cX12_river 34 = .ok (.iload_n 2, 1) := by decide +kernel
theorem dX12_river_35 : decode cX12_river 35 = .ok (.if_icmp .gt 26, 3) := by decide +kernel
theorem dX12_river_38 : decode cX12_river 38 = .ok (.iload_n 3, 1) := by decide +kernel
theorem dX12_river_39 : decode cX12_river 39 = .ok (.iconst 0, 1) := by decide +kernel
theorem dX12_river_40 : decode cX12_river 40 = .ok (.sipush 200, 3) := by decide +kernel
theorem dX12_river_43 : decode cX12_river 43 = .ok (.invokestatic 49, 3) := by decide +kernel
theorem dX12_river_46 : decode cX12_river 46 = .ok (.ifCond .eq 15, 3) := by decide +kernel
theorem dX12_river_49 : decode cX12_river 49 = .ok (.iload 4, 2) := by decide +kernel
theorem dX12_river_51 : decode cX12_river 51 = .ok (.iconst 0, 1) := by decide +kernel
theorem dX12_river_52 : decode cX12_river 52 = .ok (.sipush 200, 3) := by decide +kernel
theorem dX12_river_55 : decode cX12_river 55 = .ok (.invokestatic 49, 3) := by decide +kernel
theorem dX12_river_58 : decode cX12_river 58 = .ok (.ifCond .ne 7, 3) := by decide +kernel
theorem dX12_river_61 : decode cX12_river 61 = .ok (.iconst 1, 1) := by decide +kernel
theorem dX12_river_62 : decode cX12_river 62 = .ok (.goto 4, 3) := by decide +kernel
theorem dX12_river_65 : decode cX12_river 65 = .ok (.iconst 0, 1) := by decide +kernel
theorem dX12_river_66 : decode cX12_river 66 = .ok (.iconst 2, 1) := by decide +kernel
theorem dX12_river_67 : decode cX12_river 67 = .ok (.invokevirtual 69, 3) := by decide +kernel
theorem dX12_river_70 : decode cX12_river 70 = .ok (.ifCond .ne 23, 3) := by decide +kernel
theorem dX12_river_73 : decode cX12_river 73 = .ok (.aload_n 0, 1) := by decide +kernel
theorem dX12_river_74 : decode cX12_river 74 = .ok (.aload_n 0, 1) := by decide +kernel
theorem dX12_river_75 : decode cX12_river 75 = .ok (.invokevirtual 73, 3) := by decide +kernel
theorem dX12_river_78 : decode cX12_river 78 = .ok (.ifCond .le 7, 3) := by decide +kernel
theorem dX12_river_81 : decode cX12_river 81 = .ok (.iconst 1, 1) := by decide +kernel
theorem dX12_river_82 : decode cX12_river 82 = .ok (.goto 4, 3) := by decide +kernel
theorem dX12_river_85 : decode cX12_river 85 = .ok (.iconst 0, 1) := by decide +kernel
theorem dX12_river_86 : decode cX12_river 86 = .ok (.iconst 3, 1) := by decide +kernel
theorem dX12_river_87 : decode cX12_river 87 = .ok (.invokevirtual 69, 3) := by decide +kernel
theorem dX12_river_90 : decode cX12_river 90 = .ok (.ifCond .eq 4, 3) := by decide +kernel
theorem dX12_river_93 : decode cX12_river 93 = .ok (.return_, 1) := by decide +kernel
theorem dX12_river_94 : decode cX12_river 94 = .ok (.iload_n 1, 1) := by decide +kernel
theorem dX12_river_95 : decode cX12_river 95 = .ok (.istore 5, 2) := by decide +kernel
theorem dX12_river_97 : decode cX12_river 97 = .ok (.iload 5, 2) := by decide +kernel
theorem dX12_river_99 : decode cX12_river 99 = .ok (.iload_n 2, 1) := by decide +kernel
theorem dX12_river_100 : decode cX12_river 100 = .ok (.if_icmp .gt 31, 3) := by decide +kernel
theorem dX12_river_103 : decode cX12_river 103 = .ok (.aload_n 0, 1) := by decide +kernel
theorem dX12_river_104 : decode cX12_river 104 = .ok (.getfield 13, 3) := by decide +kernel
theorem dX12_river_107 : decode cX12_river 107 = .ok (.iconst 1, 1) := by decide +kernel
theorem dX12_river_108 : decode cX12_river 108 = .ok (.iload 5, 2) := by decide +kernel
theorem dX12_river_110 : decode cX12_river 110 = .ok (.iadd, 1) := by decide +kernel
theorem dX12_river_111 : decode cX12_river 111 = .ok (.iload_n 3, 1) := by decide +kernel
theorem dX12_river_112 : decode cX12_river 112 = .ok (.iastore, 1) := by decide +kernel
theorem dX12_river_113 : decode cX12_river 113 = .ok (.aload_n 0, 1) := by decide +kernel
theorem dX12_river_114 : decode cX12_river 114 = .ok (.getfield 13, 3) := by decide +kernel
theorem dX12_river_117 : decode cX12_river 117 = .ok (.bipush 25, 2) := by decide +kernel
theorem dX12_river_119 : decode cX12_river 119 = .ok (.iload 5, 2) := by decide +kernel
theorem dX12_river_121 : decode cX12_river 121 = .ok (.iadd, 1) := by decide +kernel
theorem dX12_river_122 : decode cX12_river 122 = .ok (.iload 4, 2) := by decide +kernel
theorem dX12_river_124 : decode cX12_river 124 = .ok (.iastore, 1) := by decide +kernel
theorem dX12_river_125 : decode cX12_river 125 = .ok (.iinc 5 1, 3) := by decide +kernel
theorem dX12_river_128 : decode cX12_river 128 = .ok (.goto (-31), 3) := by decide +kernel
theorem dX12_river_131 : decode cX12_river 131 = .ok (.return_, 1) := by decide +kernel
noncomputable def o_X12_river_97 (F : Nat) (l2 : Int32) (l3 : Int32) (l4 : Int32)  : Nat → Int32 → rs_S → Option (rs_S)
  | 0, _, _ => none
  | f + 1, l5, s => if l2 < l5 then (some s) else (if iL ((nI 1) + l5) 22216 then (if iL ((nI 25) + l5) 22216 then (o_X12_river_97 F l2 l3 l4 f (l5 + nI 1) (pW (pW s ((nI 1) + l5) l3) ((nI 25) + l5) l4)) else none) else none)
set_option maxHeartbeats 4000000 in
theorem t_X12_river_97 {Γ : jg_G} {g : Nat → jg_C} {n r : Nat} (hr : r + 11 ≤ n) (F : Nat) (l2 : Int32) (l3 : Int32) (l4 : Int32)   (Q : jg_Q) {x : rs_S} (K1 : jg Γ mX12_river 2 0 0 131 [none, none, none, none, none, none] [] (rs_h g r x, n) Q)  : ∀ (f : Nat) (l5 : Int32) (s : rs_S), o_X12_river_97 F l2 l3 l4 f l5 s = some x → jg Γ mX12_river 2 0 0 97 [some (.ref r), none, some (.int l2), some (.int l3), some (.int l4), some (.int l5)] [] (rs_h g r s, n) Q := by
  intro f
  induction f with
  | zero => intro l5 s h; rw [o_X12_river_97] at h; cases h
  | succ f ih =>
   intro l5 s h
   rw [o_X12_river_97] at h
   refine jg_iload dX12_river_97 rfl ?_
   refine jg_iload_n dX12_river_99 rfl ?_
   refine jg_icmp_gt (x := l5) (y := l2) (tgt := 131) dX12_river_100 (by decide) (fun c12 => ?_) (fun c12 => ?_)
   · replace h := it_t c12 h
     refine jg_fg (L' := [none, none, none, none, none, none]) (by repeat (first | exact trivial | refine ⟨rfl, ?_⟩ | show jg_le _ _)) ?_
     obtain rfl := Option.some.inj h
     exact K1
   · replace h := it_f c12 h
     refine jg_aload_n dX12_river_103 rfl ?_
     refine rs_ga fl_X12_13 dX12_river_104 hr rfl ?_
     refine jg_iconst (v := nI 1) dX12_river_107 (by decide) ?_
     refine jg_iload dX12_river_108 rfl ?_
     refine jg_iadd (x := (nI 1)) (y := l5) dX12_river_110  ?_
     refine jg_iload_n dX12_river_111 rfl ?_
     obtain ⟨q13, h⟩ := gd_some h
     refine rs_swD (s := s) (i := ((nI 1) + l5)) (x := l3) dX12_river_112 hr q13 ?_
     refine jg_aload_n dX12_river_113 rfl ?_
     refine rs_ga fl_X12_13 dX12_river_114 hr rfl ?_
     refine jg_bipush (v := nI 25) dX12_river_117 (by decide) ?_
     refine jg_iload dX12_river_119 rfl ?_
     refine jg_iadd (x := (nI 25)) (y := l5) dX12_river_121  ?_
     refine jg_iload dX12_river_122 rfl ?_
     obtain ⟨q14, h⟩ := gd_some h
     refine rs_swD (s := (pW s ((nI 1) + l5) l3)) (i := ((nI 25) + l5)) (x := l4) dX12_river_124 hr q14 ?_
     refine jg_iinc (x := l5) (v := l5 + nI 1) (L' := [some (.ref r), none, some (.int l2), some (.int l3), some (.int l4), some (.int (l5 + nI 1))]) dX12_river_125 rfl (ic_k _ (by decide)) (by decide) rfl ?_
     refine jg_goto (tgt := 97) dX12_river_128 (by decide) ?_
     refine jg_fg (L' := [some (.ref r), none, some (.int l2), some (.int l3), some (.int l4), some (.int (l5 + nI 1))]) (by repeat (first | exact trivial | refine ⟨rfl, ?_⟩ | show jg_le _ _)) ?_
     exact ih (l5 + nI 1) (pW (pW s ((nI 1) + l5) l3) ((nI 25) + l5) l4) h
noncomputable def o_X12_river (F : Nat) (s : rs_S) (a1 : Int32) (a2 : Int32) (a3 : Int32) (a4 : Int32) : Option (rs_S) := (o_X12_noCell (pN s 0 (nI 0)) a1).bind fun x1 => (if x1 = 0 then ((o_X12_noCell (pN s 0 (nI 0)) a2).bind fun x3 => (if x3 = 0 then (if a2 < a1 then (some (pN (pN s 0 (nI 0)) 0 (nI 2))) else ((o_X12_in (pN s 0 (nI 0)) a3 (nI 0) (nI 200)).bind fun x6 => (if x6 = 0 then (some (pN (pN s 0 (nI 0)) 0 (nI 2))) else ((o_X12_in (pN s 0 (nI 0)) a4 (nI 0) (nI 200)).bind fun x8 => (if x8 = 0 then (some (pN (pN s 0 (nI 0)) 0 (nI 2))) else ((o_X12_hour (pN s 0 (nI 0))).bind fun x10 => (if x10 ≤ 0 then ((o_X12_river_97 F a2 a3 a4 F a1 (pN s 0 (nI 0))).bind fun x15 => (some x15)) else (some (pN (pN s 0 (nI 0)) 0 (nI 3)))))))))) else (some (pN (pN s 0 (nI 0)) 0 (nI 1))))) else (some (pN (pN s 0 (nI 0)) 0 (nI 1))))
set_option maxHeartbeats 4000000 in
theorem t_X12_river {Γ : jg_G} {g : Nat → jg_C} {n r : Nat} (hr : r + 11 ≤ n) (F : Nat) (s : rs_S) (a1 : Int32) (a2 : Int32) (a3 : Int32) (a4 : Int32)  {x : rs_S} (h : o_X12_river F s a1 a2 a3 a4 = some x) : jc Γ mX12_river 2 0 0 [some (.ref r), some (.int a1), some (.int a2), some (.int a3), some (.int a4), none] (rs_h g r s, n) (.inl none) (rs_h g r x, n) := by
  refine jc_of ?_
  rw [o_X12_river] at h
  refine jg_aload_n dX12_river_0 rfl ?_
  refine jg_iconst (v := nI 0) dX12_river_1 (by decide) ?_
  refine rs_putD (s := s) (k := 0) (x := (nI 0)) fl_X12_3 dX12_river_2 hr (by decide) (rfl) rfl rfl ?_
  refine jg_aload_n dX12_river_5 rfl ?_
  refine jg_iload_n dX12_river_6 rfl ?_
  obtain ⟨x1, e_x1, h⟩ := bd_some h
  refine rs_callS (As := [.int a1]) ks_X12_65 dX12_river_7 rfl (by decide) (Nat.le_of_ble_eq_true rfl) rfl (by decide) (Nat.le_of_ble_eq_true rfl) (t_X12_noCell hr (pN s 0 (nI 0)) a1 e_x1) ?_
  refine jg_if_ne (x := x1) (tgt := 20) dX12_river_10 (by decide) (fun c2 => ?_) (fun c2 => ?_)
  · replace h := it_f c2 h
    refine jg_iconst (v := nI 1) dX12_river_20 (by decide) ?_
    refine jg_goto (tgt := 25) dX12_river_21 (by decide) ?_
    refine jg_iconst (v := nI 1) dX12_river_25 (by decide) ?_
    refine rs_call (As := [.int (nI 1), .int (nI 1)]) kv_X12_69 dX12_river_26 hr rfl rfl (by decide) (Nat.le_of_ble_eq_true rfl) rfl (by decide) (Nat.le_of_ble_eq_true rfl) (t_X12_throwsIf hr (pN s 0 (nI 0)) (nI 1) (nI 1) (o_thr1 (pN s 0 (nI 0)) (nI 1))) ?_
    refine jg_if_ne (x := (nI 1)) (tgt := 93) dX12_river_29 (by decide) (fun _ => ?_) (fun q9 => absurd q9 (by decide))
    obtain rfl := Option.some.inj h
    exact jg_return dX12_river_93 rfl ⟨rfl, rfl⟩
  · replace h := it_t c2 h
    refine jg_iload_n dX12_river_13 rfl ?_
    obtain ⟨x3, e_x3, h⟩ := bd_some h
    refine rs_callS (As := [.int a2]) ks_X12_65 dX12_river_14 rfl (by decide) (Nat.le_of_ble_eq_true rfl) rfl (by decide) (Nat.le_of_ble_eq_true rfl) (t_X12_noCell hr (pN s 0 (nI 0)) a2 e_x3) ?_
    refine jg_if_eq (x := x3) (tgt := 24) dX12_river_17 (by decide) (fun c4 => ?_) (fun c4 => ?_)
    · replace h := it_t c4 h
      refine jg_iconst (v := nI 0) dX12_river_24 (by decide) ?_
      refine jg_iconst (v := nI 1) dX12_river_25 (by decide) ?_
      refine rs_call (As := [.int (nI 0), .int (nI 1)]) kv_X12_69 dX12_river_26 hr rfl rfl (by decide) (Nat.le_of_ble_eq_true rfl) rfl (by decide) (Nat.le_of_ble_eq_true rfl) (t_X12_throwsIf hr (pN s 0 (nI 0)) (nI 0) (nI 1) (o_thr0 (pN s 0 (nI 0)) (nI 1))) ?_
      refine jg_if_ne (x := (nI 0)) (tgt := 93) dX12_river_29 (by decide) (fun q9 => absurd q9 (by decide)) (fun _ => ?_)
      refine jg_aload_n dX12_river_32 rfl ?_
      refine jg_iload_n dX12_river_33 rfl ?_
      refine jg_iload_n dX12_river_34 rfl ?_
      refine jg_icmp_gt (x := a1) (y := a2) (tgt := 61) dX12_river_35 (by decide) (fun c5 => ?_) (fun c5 => ?_)
      · replace h := it_t c5 h
        refine jg_iconst (v := nI 1) dX12_river_61 (by decide) ?_
        refine jg_goto (tgt := 66) dX12_river_62 (by decide) ?_
        refine jg_iconst (v := nI 2) dX12_river_66 (by decide) ?_
        refine rs_call (As := [.int (nI 1), .int (nI 2)]) kv_X12_69 dX12_river_67 hr rfl rfl (by decide) (Nat.le_of_ble_eq_true rfl) rfl (by decide) (Nat.le_of_ble_eq_true rfl) (t_X12_throwsIf hr (pN s 0 (nI 0)) (nI 1) (nI 2) (o_thr1 (pN s 0 (nI 0)) (nI 2))) ?_
        refine jg_if_ne (x := (nI 1)) (tgt := 93) dX12_river_70 (by decide) (fun _ => ?_) (fun q9 => absurd q9 (by decide))
        obtain rfl := Option.some.inj h
        exact jg_return dX12_river_93 rfl ⟨rfl, rfl⟩
      · replace h := it_f c5 h
        refine jg_iload_n dX12_river_38 rfl ?_
        refine jg_iconst (v := nI 0) dX12_river_39 (by decide) ?_
        refine jg_sipush (v := nI 200) dX12_river_40 (by decide) ?_
        obtain ⟨x6, e_x6, h⟩ := bd_some h
        refine rs_callS (As := [.int a3, .int (nI 0), .int (nI 200)]) ks_X12_49 dX12_river_43 rfl (by decide) (Nat.le_of_ble_eq_true rfl) rfl (by decide) (Nat.le_of_ble_eq_true rfl) (t_X12_in hr (pN s 0 (nI 0)) a3 (nI 0) (nI 200) e_x6) ?_
        refine jg_if_eq (x := x6) (tgt := 61) dX12_river_46 (by decide) (fun c7 => ?_) (fun c7 => ?_)
        · replace h := it_t c7 h
          refine jg_iconst (v := nI 1) dX12_river_61 (by decide) ?_
          refine jg_goto (tgt := 66) dX12_river_62 (by decide) ?_
          refine jg_iconst (v := nI 2) dX12_river_66 (by decide) ?_
          refine rs_call (As := [.int (nI 1), .int (nI 2)]) kv_X12_69 dX12_river_67 hr rfl rfl (by decide) (Nat.le_of_ble_eq_true rfl) rfl (by decide) (Nat.le_of_ble_eq_true rfl) (t_X12_throwsIf hr (pN s 0 (nI 0)) (nI 1) (nI 2) (o_thr1 (pN s 0 (nI 0)) (nI 2))) ?_
          refine jg_if_ne (x := (nI 1)) (tgt := 93) dX12_river_70 (by decide) (fun _ => ?_) (fun q9 => absurd q9 (by decide))
          obtain rfl := Option.some.inj h
          exact jg_return dX12_river_93 rfl ⟨rfl, rfl⟩
        · replace h := it_f c7 h
          refine jg_iload dX12_river_49 rfl ?_
          refine jg_iconst (v := nI 0) dX12_river_51 (by decide) ?_
          refine jg_sipush (v := nI 200) dX12_river_52 (by decide) ?_
          obtain ⟨x8, e_x8, h⟩ := bd_some h
          refine rs_callS (As := [.int a4, .int (nI 0), .int (nI 200)]) ks_X12_49 dX12_river_55 rfl (by decide) (Nat.le_of_ble_eq_true rfl) rfl (by decide) (Nat.le_of_ble_eq_true rfl) (t_X12_in hr (pN s 0 (nI 0)) a4 (nI 0) (nI 200) e_x8) ?_
          refine jg_if_ne (x := x8) (tgt := 65) dX12_river_58 (by decide) (fun c9 => ?_) (fun c9 => ?_)
          · replace h := it_f c9 h
            refine jg_iconst (v := nI 0) dX12_river_65 (by decide) ?_
            refine jg_iconst (v := nI 2) dX12_river_66 (by decide) ?_
            refine rs_call (As := [.int (nI 0), .int (nI 2)]) kv_X12_69 dX12_river_67 hr rfl rfl (by decide) (Nat.le_of_ble_eq_true rfl) rfl (by decide) (Nat.le_of_ble_eq_true rfl) (t_X12_throwsIf hr (pN s 0 (nI 0)) (nI 0) (nI 2) (o_thr0 (pN s 0 (nI 0)) (nI 2))) ?_
            refine jg_if_ne (x := (nI 0)) (tgt := 93) dX12_river_70 (by decide) (fun q9 => absurd q9 (by decide)) (fun _ => ?_)
            refine jg_aload_n dX12_river_73 rfl ?_
            refine jg_aload_n dX12_river_74 rfl ?_
            obtain ⟨x10, e_x10, h⟩ := bd_some h
            refine rs_call (As := []) kv_X12_73 dX12_river_75 hr rfl rfl (by decide) (Nat.le_of_ble_eq_true rfl) rfl (by decide) (Nat.le_of_ble_eq_true rfl) (t_X12_hour hr (pN s 0 (nI 0)) e_x10) ?_
            refine jg_if_le (x := x10) (tgt := 85) dX12_river_78 (by decide) (fun c11 => ?_) (fun c11 => ?_)
            · replace h := it_t c11 h
              refine jg_iconst (v := nI 0) dX12_river_85 (by decide) ?_
              refine jg_iconst (v := nI 3) dX12_river_86 (by decide) ?_
              refine rs_call (As := [.int (nI 0), .int (nI 3)]) kv_X12_69 dX12_river_87 hr rfl rfl (by decide) (Nat.le_of_ble_eq_true rfl) rfl (by decide) (Nat.le_of_ble_eq_true rfl) (t_X12_throwsIf hr (pN s 0 (nI 0)) (nI 0) (nI 3) (o_thr0 (pN s 0 (nI 0)) (nI 3))) ?_
              refine jg_if_eq (x := (nI 0)) (tgt := 94) dX12_river_90 (by decide) (fun _ => ?_) (fun q9 => absurd q9 (by decide))
              refine jg_iload_n dX12_river_94 rfl ?_
              refine jg_istore (L' := [some (.ref r), some (.int a1), some (.int a2), some (.int a3), some (.int a4), some (.int a1)]) dX12_river_95 (by decide) rfl ?_
              obtain ⟨x15, e_x15, h⟩ := bd_some h
              refine jg_fg (L' := [some (.ref r), none, some (.int a2), some (.int a3), some (.int a4), some (.int a1)]) (by repeat (first | exact trivial | refine ⟨rfl, ?_⟩ | show jg_le _ _)) ?_
              refine t_X12_river_97 hr F a2 a3 a4  _ (x := x15) ?_ F a1 (pN s 0 (nI 0)) e_x15
              obtain rfl := Option.some.inj h
              exact jg_return dX12_river_131 rfl ⟨rfl, rfl⟩
            · replace h := it_f c11 h
              refine jg_iconst (v := nI 1) dX12_river_81 (by decide) ?_
              refine jg_goto (tgt := 86) dX12_river_82 (by decide) ?_
              refine jg_iconst (v := nI 3) dX12_river_86 (by decide) ?_
              refine rs_call (As := [.int (nI 1), .int (nI 3)]) kv_X12_69 dX12_river_87 hr rfl rfl (by decide) (Nat.le_of_ble_eq_true rfl) rfl (by decide) (Nat.le_of_ble_eq_true rfl) (t_X12_throwsIf hr (pN s 0 (nI 0)) (nI 1) (nI 3) (o_thr1 (pN s 0 (nI 0)) (nI 3))) ?_
              refine jg_if_eq (x := (nI 1)) (tgt := 94) dX12_river_90 (by decide) (fun q9 => absurd q9 (by decide)) (fun _ => ?_)
              obtain rfl := Option.some.inj h
              exact jg_return dX12_river_93 rfl ⟨rfl, rfl⟩
          · replace h := it_t c9 h
            refine jg_iconst (v := nI 1) dX12_river_61 (by decide) ?_
            refine jg_goto (tgt := 66) dX12_river_62 (by decide) ?_
            refine jg_iconst (v := nI 2) dX12_river_66 (by decide) ?_
            refine rs_call (As := [.int (nI 1), .int (nI 2)]) kv_X12_69 dX12_river_67 hr rfl rfl (by decide) (Nat.le_of_ble_eq_true rfl) rfl (by decide) (Nat.le_of_ble_eq_true rfl) (t_X12_throwsIf hr (pN s 0 (nI 0)) (nI 1) (nI 2) (o_thr1 (pN s 0 (nI 0)) (nI 2))) ?_
            refine jg_if_ne (x := (nI 1)) (tgt := 93) dX12_river_70 (by decide) (fun _ => ?_) (fun q9 => absurd q9 (by decide))
            obtain rfl := Option.some.inj h
            exact jg_return dX12_river_93 rfl ⟨rfl, rfl⟩
    · replace h := it_f c4 h
      refine jg_iconst (v := nI 1) dX12_river_20 (by decide) ?_
      refine jg_goto (tgt := 25) dX12_river_21 (by decide) ?_
      refine jg_iconst (v := nI 1) dX12_river_25 (by decide) ?_
      refine rs_call (As := [.int (nI 1), .int (nI 1)]) kv_X12_69 dX12_river_26 hr rfl rfl (by decide) (Nat.le_of_ble_eq_true rfl) rfl (by decide) (Nat.le_of_ble_eq_true rfl) (t_X12_throwsIf hr (pN s 0 (nI 0)) (nI 1) (nI 1) (o_thr1 (pN s 0 (nI 0)) (nI 1))) ?_
      refine jg_if_ne (x := (nI 1)) (tgt := 93) dX12_river_29 (by decide) (fun _ => ?_) (fun q9 => absurd q9 (by decide))
      obtain rfl := Option.some.inj h
      exact jg_return dX12_river_93 rfl ⟨rfl, rfl⟩
theorem dX12_tide_0 : decode cX12_tide 0 = .ok (.aload_n 0, 1) := by decide +kernel
theorem dX12_tide_1 : decode cX12_tide 1 = .ok (.iconst 0, 1) := by decide +kernel
theorem dX12_tide_2 : decode cX12_tide 2 = .ok (.putfield 3, 3) := by decide +kernel
theorem dX12_tide_5 : decode cX12_tide 5 = .ok (.aload_n 0, 1) := by decide +kernel
theorem dX12_tide_6 : decode cX12_tide 6 = .ok (.iload_n 1, 1) := by decide +kernel
theorem dX12_tide_7 : decode cX12_tide 7 = .ok (.iconst 0, 1) := by decide +kernel
theorem dX12_tide_8 : decode cX12_tide 8 = .ok (.bipush 24, 2) := by decide +kernel
theorem dX12_tide_10 : decode cX12_tide 10 = .ok (.invokestatic 49, 3) := by decide +kernel
theorem dX12_tide_13 : decode cX12_tide 13 = .ok (.ifCond .eq 14, 3) := by decide +kernel
theorem dX12_tide_16 : decode cX12_tide 16 = .ok (.iload_n 2, 1) := by decide +kernel
theorem dX12_tide_17 : decode cX12_tide 17 = .ok (.bipush (-20), 2) := by decide +kernel
theorem dX12_tide_19 : decode cX12_tide 19 = .ok (.bipush 60, 2) := by decide +kernel
theorem dX12_tide_21 : decode cX12_tide 21 = .ok (.invokestatic 49, 3) := by decide +kernel
theorem dX12_tide_24 : decode cX12_tide 24 = .ok (.ifCond .ne 7, 3) := by decide +kernel
theorem dX12_tide_27 : decode cX12_tide 27 = .ok (.iconst 1, 1) := by decide +kernel
theorem dX12_tide_28 : decode cX12_tide 28 = .ok (.goto 4, 3) := by decide +kernel
theorem dX12_tide_31 : decode cX12_tide 31 = .ok (.iconst 0, 1) := by decide +kernel
theorem dX12_tide_32 : decode cX12_tide 32 = .ok (.iconst 1, 1) := by decide +kernel
theorem dX12_tide_33 : decode cX12_tide 33 = .ok (.invokevirtual 69, 3) := by decide +kernel
theorem dX12_tide_36 : decode cX12_tide 36 = .ok (.ifCond .eq 4, 3) := by decide +kernel
theorem dX12_tide_39 : decode cX12_tide 39 = .ok (.return_, 1) := by decide +kernel
theorem dX12_tide_40 : decode cX12_tide 40 = .ok (.aload_n 0, 1) := by decide +kernel
theorem dX12_tide_41 : decode cX12_tide 41 = .ok (.getfield 13, 3) := by decide +kernel
theorem dX12_tide_44 : decode cX12_tide 44 = .ok (.bipush 73, 2) := by decide +kernel
theorem dX12_tide_46 : decode cX12_tide 46 = .ok (.iload_n 1, 1) := by decide +kernel
theorem dX12_tide_47 : decode cX12_tide 47 = .ok (.iadd, 1) := by decide +kernel
theorem dX12_tide_48 : decode cX12_tide 48 = .ok (.iload_n 2, 1) := by decide +kernel
theorem dX12_tide_49 : decode cX12_tide 49 = .ok (.iastore, 1) := by decide +kernel
theorem dX12_tide_50 : decode cX12_tide 50 = .ok (.return_, 1) := by decide +kernel
noncomputable def o_X12_tide (s : rs_S) (a1 : Int32) (a2 : Int32) : Option (rs_S) := (o_X12_in (pN s 0 (nI 0)) a1 (nI 0) (nI 24)).bind fun x1 => (if x1 = 0 then (some (pN (pN s 0 (nI 0)) 0 (nI 1))) else ((o_X12_in (pN s 0 (nI 0)) a2 (-20) (nI 60)).bind fun x3 => (if x3 = 0 then (some (pN (pN s 0 (nI 0)) 0 (nI 1))) else (if iL ((nI 73) + a1) 22216 then (some (pW (pN s 0 (nI 0)) ((nI 73) + a1) a2)) else none))))
set_option maxHeartbeats 4000000 in
theorem t_X12_tide {Γ : jg_G} {g : Nat → jg_C} {n r : Nat} (hr : r + 11 ≤ n) (s : rs_S) (a1 : Int32) (a2 : Int32)  {x : rs_S} (h : o_X12_tide s a1 a2 = some x) : jc Γ mX12_tide 1 0 0 [some (.ref r), some (.int a1), some (.int a2)] (rs_h g r s, n) (.inl none) (rs_h g r x, n) := by
  refine jc_of ?_
  rw [o_X12_tide] at h
  refine jg_aload_n dX12_tide_0 rfl ?_
  refine jg_iconst (v := nI 0) dX12_tide_1 (by decide) ?_
  refine rs_putD (s := s) (k := 0) (x := (nI 0)) fl_X12_3 dX12_tide_2 hr (by decide) (rfl) rfl rfl ?_
  refine jg_aload_n dX12_tide_5 rfl ?_
  refine jg_iload_n dX12_tide_6 rfl ?_
  refine jg_iconst (v := nI 0) dX12_tide_7 (by decide) ?_
  refine jg_bipush (v := nI 24) dX12_tide_8 (by decide) ?_
  obtain ⟨x1, e_x1, h⟩ := bd_some h
  refine rs_callS (As := [.int a1, .int (nI 0), .int (nI 24)]) ks_X12_49 dX12_tide_10 rfl (by decide) (Nat.le_of_ble_eq_true rfl) rfl (by decide) (Nat.le_of_ble_eq_true rfl) (t_X12_in hr (pN s 0 (nI 0)) a1 (nI 0) (nI 24) e_x1) ?_
  refine jg_if_eq (x := x1) (tgt := 27) dX12_tide_13 (by decide) (fun c2 => ?_) (fun c2 => ?_)
  · replace h := it_t c2 h
    refine jg_iconst (v := nI 1) dX12_tide_27 (by decide) ?_
    refine jg_goto (tgt := 32) dX12_tide_28 (by decide) ?_
    refine jg_iconst (v := nI 1) dX12_tide_32 (by decide) ?_
    refine rs_call (As := [.int (nI 1), .int (nI 1)]) kv_X12_69 dX12_tide_33 hr rfl rfl (by decide) (Nat.le_of_ble_eq_true rfl) rfl (by decide) (Nat.le_of_ble_eq_true rfl) (t_X12_throwsIf hr (pN s 0 (nI 0)) (nI 1) (nI 1) (o_thr1 (pN s 0 (nI 0)) (nI 1))) ?_
    refine jg_if_eq (x := (nI 1)) (tgt := 40) dX12_tide_36 (by decide) (fun q9 => absurd q9 (by decide)) (fun _ => ?_)
    obtain rfl := Option.some.inj h
    exact jg_return dX12_tide_39 rfl ⟨rfl, rfl⟩
  · replace h := it_f c2 h
    refine jg_iload_n dX12_tide_16 rfl ?_
    refine jg_bipush (v := (-20)) dX12_tide_17 (by decide) ?_
    refine jg_bipush (v := nI 60) dX12_tide_19 (by decide) ?_
    obtain ⟨x3, e_x3, h⟩ := bd_some h
    refine rs_callS (As := [.int a2, .int (-20), .int (nI 60)]) ks_X12_49 dX12_tide_21 rfl (by decide) (Nat.le_of_ble_eq_true rfl) rfl (by decide) (Nat.le_of_ble_eq_true rfl) (t_X12_in hr (pN s 0 (nI 0)) a2 (-20) (nI 60) e_x3) ?_
    refine jg_if_ne (x := x3) (tgt := 31) dX12_tide_24 (by decide) (fun c4 => ?_) (fun c4 => ?_)
    · replace h := it_f c4 h
      refine jg_iconst (v := nI 0) dX12_tide_31 (by decide) ?_
      refine jg_iconst (v := nI 1) dX12_tide_32 (by decide) ?_
      refine rs_call (As := [.int (nI 0), .int (nI 1)]) kv_X12_69 dX12_tide_33 hr rfl rfl (by decide) (Nat.le_of_ble_eq_true rfl) rfl (by decide) (Nat.le_of_ble_eq_true rfl) (t_X12_throwsIf hr (pN s 0 (nI 0)) (nI 0) (nI 1) (o_thr0 (pN s 0 (nI 0)) (nI 1))) ?_
      refine jg_if_eq (x := (nI 0)) (tgt := 40) dX12_tide_36 (by decide) (fun _ => ?_) (fun q9 => absurd q9 (by decide))
      refine jg_aload_n dX12_tide_40 rfl ?_
      refine rs_ga fl_X12_13 dX12_tide_41 hr rfl ?_
      refine jg_bipush (v := nI 73) dX12_tide_44 (by decide) ?_
      refine jg_iload_n dX12_tide_46 rfl ?_
      refine jg_iadd (x := (nI 73)) (y := a1) dX12_tide_47  ?_
      refine jg_iload_n dX12_tide_48 rfl ?_
      obtain ⟨q5, h⟩ := gd_some h
      refine rs_swD (s := (pN s 0 (nI 0))) (i := ((nI 73) + a1)) (x := a2) dX12_tide_49 hr q5 ?_
      obtain rfl := Option.some.inj h
      exact jg_return dX12_tide_50 rfl ⟨rfl, rfl⟩
    · replace h := it_t c4 h
      refine jg_iconst (v := nI 1) dX12_tide_27 (by decide) ?_
      refine jg_goto (tgt := 32) dX12_tide_28 (by decide) ?_
      refine jg_iconst (v := nI 1) dX12_tide_32 (by decide) ?_
      refine rs_call (As := [.int (nI 1), .int (nI 1)]) kv_X12_69 dX12_tide_33 hr rfl rfl (by decide) (Nat.le_of_ble_eq_true rfl) rfl (by decide) (Nat.le_of_ble_eq_true rfl) (t_X12_throwsIf hr (pN s 0 (nI 0)) (nI 1) (nI 1) (o_thr1 (pN s 0 (nI 0)) (nI 1))) ?_
      refine jg_if_eq (x := (nI 1)) (tgt := 40) dX12_tide_36 (by decide) (fun q9 => absurd q9 (by decide)) (fun _ => ?_)
      obtain rfl := Option.some.inj h
      exact jg_return dX12_tide_39 rfl ⟨rfl, rfl⟩
theorem dX12_today_0 : decode cX12_today 0 = .ok (.aload_n 0, 1) := by decide +kernel
theorem dX12_today_1 : decode cX12_today 1 = .ok (.getfield 13, 3) := by decide +kernel
theorem dX12_today_4 : decode cX12_today 4 = .ok (.iconst 0, 1) := by decide +kernel
theorem dX12_today_5 : decode cX12_today 5 = .ok (.iaload, 1) := by decide +kernel
theorem dX12_today_6 : decode cX12_today 6 = .ok (.bipush 24, 2) := by decide +kernel
theorem dX12_today_8 : decode cX12_today 8 = .ok (.idiv, 1) := by decide +kernel
theorem dX12_today_9 : decode cX12_today 9 = .ok (.ireturn, 1) := by decide +kernel
noncomputable def o_X12_today (s : rs_S) : Option (Int32) := some ((gW s (nI 0)) / (nI 24))
set_option maxHeartbeats 4000000 in
theorem t_X12_today {Γ : jg_G} {g : Nat → jg_C} {n r : Nat} (hr : r + 11 ≤ n) (s : rs_S)  {x : Int32} (h : o_X12_today s = some x) : jc Γ mX12_today 0 0 0 [some (.ref r)] (rs_h g r s, n) (.inl (some (.int x))) (rs_h g r s, n) := by
  refine jc_of ?_
  rw [o_X12_today] at h
  refine jg_aload_n dX12_today_0 rfl ?_
  refine rs_ga fl_X12_13 dX12_today_1 hr rfl ?_
  refine jg_iconst (v := nI 0) dX12_today_4 (by decide) ?_
  refine rs_lwD (s := s) (i := (nI 0)) dX12_today_5 hr (by decide) ?_
  refine jg_bipush (v := nI 24) dX12_today_6 (by decide) ?_
  refine jg_idiv (x := (gW s (nI 0))) (y := (nI 24)) dX12_today_8 (by decide) ?_
  obtain rfl := Option.some.inj h
  exact jg_ireturn dX12_today_9 rfl ⟨rfl, rfl⟩
theorem dX12_run_0 : decode cX12_run 0 = .ok (.aload_n 0, 1) := by decide +kernel
theorem dX12_run_1 : decode cX12_run 1 = .ok (.iconst 0, 1) := by decide +kernel
theorem dX12_run_2 : decode cX12_run 2 = .ok (.putfield 3, 3) := by decide +kernel
theorem dX12_run_5 : decode cX12_run 5 = .ok (.aload_n 0, 1) := by decide +kernel
theorem dX12_run_6 : decode cX12_run 6 = .ok (.iload_n 1, 1) := by decide +kernel
theorem dX12_run_7 : decode cX12_run 7 = .ok (.aload_n 0, 1) := by decide +kernel
theorem dX12_run_8 : decode cX12_run 8 = .ok (.invokevirtual 77, 3) := by decide +kernel
theorem dX12_run_11 : decode cX12_run 11 = .ok (.sipush 1250, 3) := by decide +kernel
theorem dX12_run_14 : decode cX12_run 14 = .ok (.invokestatic 49, 3) := by decide +kernel
theorem dX12_run_17 : decode cX12_run 17 = .ok (.ifCond .eq 14, 3) := by decide +kernel
theorem dX12_run_20 : decode cX12_run 20 = .ok (.iload_n 2, 1) := by decide +kernel
theorem dX12_run_21 : decode cX12_run 21 = .ok (.iconst 0, 1) := by decide +kernel
theorem dX12_run_22 : decode cX12_run 22 = .ok (.sipush 2000, 3) := by decide +kernel
theorem dX12_run_25 : decode cX12_run 25 = .ok (.invokestatic 49, 3) := by decide +kernel
theorem dX12_run_28 : decode cX12_run 28 = .ok (.ifCond .ne 7, 3) := by decide +kernel
theorem dX12_run_31 : decode cX12_run 31 = .ok (.iconst 1, 1) := by decide +kernel
theorem dX12_run_32 : decode cX12_run 32 = .ok (.goto 4, 3) := by decide +kernel
theorem dX12_run_35 : decode cX12_run 35 = .ok (.iconst 0, 1) := by decide +kernel
theorem dX12_run_36 : decode cX12_run 36 = .ok (.iconst 1, 1) := by decide +kernel
theorem dX12_run_37 : decode cX12_run 37 = .ok (.invokevirtual 69, 3) := by decide +kernel
theorem dX12_run_40 : decode cX12_run 40 = .ok (.ifCond .eq 5, 3) := by decide +kernel
theorem dX12_run_43 : decode cX12_run 43 = .ok (.iconst 0, 1) := by decide +kernel
theorem dX12_run_44 : decode cX12_run 44 = .ok (.ireturn, 1) := by decide +kernel
theorem dX12_run_45 : decode cX12_run 45 = .ok (.aload_n 0, 1) := by decide +kernel
theorem dX12_run_46 : decode cX12_run 46 = .ok (.getfield 13, 3) := by decide +kernel
theorem dX12_run_49 : decode cX12_run 49 = .ok (.bipush 98, 2) := by decide +kernel
theorem dX12_run_51 : decode cX12_run 51 = .ok (.iaload, 1) := by decide +kernel
theorem dX12_run_52 : decode cX12_run 52 = .ok (.istore_n 3, 1) := by decide +kernel
theorem dX12_run_53 : decode cX12_run 53 = .ok (.iload_n 3, 1) := by decide +kernel
theorem dX12_run_54 : decode cX12_run 54 = .ok (.bipush 40, 2) := by decide +kernel
theorem dX12_run_56 : decode cX12_run 56 = .ok (.if_icmp .ne 5, 3) := by decide +kernel
theorem dX12_run_59 : decode cX12_run 59 = .ok (.iconst (-1), 1) := by decide +kernel
theorem dX12_run_60 : decode cX12_run 60 = .ok (.ireturn, 1) := by decide +kernel
theorem dX12_run_61 : decode cX12_run 61 = .ok (.aload_n 0, 1) := by decide +kernel
theorem dX12_run_62 : decode cX12_run 62 = .ok (.getfield 13, 3) := by decide +kernel
theorem dX12_run_65 : decode cX12_run 65 = .ok (.bipush 99, 2) := by decide +kernel
theorem dX12_run_67 : decode cX12_run 67 = .ok (.iconst 2, 1) := by decide +kernel
theorem dX12_run_68 : decode cX12_run 68 = .ok (.iload_n 3, 1) := by decide +kernel
theorem dX12_run_69 : decode cX12_run 69 = .ok (.imul, 1) := by decide +kernel
theorem dX12_run_70 : decode cX12_run 70 = .ok (.iadd, 1) := by decide +kernel
theorem dX12_run_71 : decode cX12_run 71 = .ok (.iload_n 1, 1) := by decide +kernel
theorem dX12_run_72 : decode cX12_run 72 = .ok (.iastore, 1) := by decide +kernel
theorem dX12_run_73 : decode cX12_run 73 = .ok (.aload_n 0, 1) := by decide +kernel
theorem dX12_run_74 : decode cX12_run 74 = .ok (.getfield 13, 3) := by decide +kernel
theorem dX12_run_77 : decode cX12_run 77 = .ok (.bipush 99, 2) := by decide +kernel
theorem dX12_run_79 : decode cX12_run 79 = .ok (.iconst 2, 1) := by decide +kernel
theorem dX12_run_80 : decode cX12_run 80 = .ok (.iload_n 3, 1) := by decide +kernel
theorem dX12_run_81 : decode cX12_run 81 = .ok (.imul, 1) := by decide +kernel
theorem dX12_run_82 : decode cX12_run 82 = .ok (.iadd, 1) := by decide +kernel
theorem dX12_run_83 : decode cX12_run 83 = .ok (.iconst 1, 1) := by decide +kernel
theorem dX12_run_84 : decode cX12_run 84 = .ok (.iadd, 1) := by decide +kernel
theorem dX12_run_85 : decode cX12_run 85 = .ok (.iload_n 2, 1) := by decide +kernel
theorem dX12_run_86 : decode cX12_run 86 = .ok (.iastore, 1) := by decide +kernel
theorem dX12_run_87 : decode cX12_run 87 = .ok (.aload_n 0, 1) := by decide +kernel
theorem dX12_run_88 : decode cX12_run 88 = .ok (.getfield 13, 3) := by decide +kernel
theorem dX12_run_91 : decode cX12_run 91 = .ok (.bipush 98, 2) := by decide +kernel
theorem dX12_run_93 : decode cX12_run 93 = .ok (.dup2, 1) := by decide +kernel
theorem dX12_run_94 : decode cX12_run 94 = .ok (.iaload, 1) := by decide +kernel
theorem dX12_run_95 : decode cX12_run 95 = .ok (.iconst 1, 1) := by decide +kernel
theorem dX12_run_96 : decode cX12_run 96 = .ok (.iadd, 1) := by decide +kernel
theorem dX12_run_97 : decode cX12_run 97 = .ok (.iastore, 1) := by decide +kernel
theorem dX12_run_98 : decode cX12_run 98 = .ok (.iload_n 3, 1) := by decide +kernel
theorem dX12_run_99 : decode cX12_run 99 = .ok (.iconst 1, 1) := by decide +kernel
theorem dX12_run_100 : decode cX12_run 100 = .ok (.iadd, 1) := by decide +kernel
theorem dX12_run_101 : decode cX12_run 101 = .ok (.ireturn, 1) := by decide +kernel
noncomputable def o_X12_run (s : rs_S) (a1 : Int32) (a2 : Int32) : Option (Int32 × rs_S) := (o_X12_today (pN s 0 (nI 0))).bind fun x1 => ((o_X12_in (pN s 0 (nI 0)) a1 x1 (nI 1250)).bind fun x2 => (if x2 = 0 then (some (nI 0, pN (pN s 0 (nI 0)) 0 (nI 1))) else ((o_X12_in (pN s 0 (nI 0)) a2 (nI 0) (nI 2000)).bind fun x4 => (if x4 = 0 then (some (nI 0, pN (pN s 0 (nI 0)) 0 (nI 1))) else (if (gW (pN s 0 (nI 0)) (nI 98)) = (nI 40) then (some ((-1), pN s 0 (nI 0))) else (if iL ((nI 99) + ((nI 2) * (gW (pN s 0 (nI 0)) (nI 98)))) 22216 then (if iL (((nI 99) + ((nI 2) * (gW (pN s 0 (nI 0)) (nI 98)))) + (nI 1)) 22216 then (some ((gW (pN s 0 (nI 0)) (nI 98)) + (nI 1), pW (pW (pW (pN s 0 (nI 0)) ((nI 99) + ((nI 2) * (gW (pN s 0 (nI 0)) (nI 98)))) a1) (((nI 99) + ((nI 2) * (gW (pN s 0 (nI 0)) (nI 98)))) + (nI 1)) a2) (nI 98) ((gW (pW (pW (pN s 0 (nI 0)) ((nI 99) + ((nI 2) * (gW (pN s 0 (nI 0)) (nI 98)))) a1) (((nI 99) + ((nI 2) * (gW (pN s 0 (nI 0)) (nI 98)))) + (nI 1)) a2) (nI 98)) + (nI 1)))) else none) else none))))))
set_option maxHeartbeats 4000000 in
theorem t_X12_run {Γ : jg_G} {g : Nat → jg_C} {n r : Nat} (hr : r + 11 ≤ n) (s : rs_S) (a1 : Int32) (a2 : Int32)  {x : Int32 × rs_S} (h : o_X12_run s a1 a2 = some x) : jc Γ mX12_run 1 0 0 [some (.ref r), some (.int a1), some (.int a2), none] (rs_h g r s, n) (.inl (some (.int x.1))) (rs_h g r x.2, n) := by
  refine jc_of ?_
  rw [o_X12_run] at h
  refine jg_aload_n dX12_run_0 rfl ?_
  refine jg_iconst (v := nI 0) dX12_run_1 (by decide) ?_
  refine rs_putD (s := s) (k := 0) (x := (nI 0)) fl_X12_3 dX12_run_2 hr (by decide) (rfl) rfl rfl ?_
  refine jg_aload_n dX12_run_5 rfl ?_
  refine jg_iload_n dX12_run_6 rfl ?_
  refine jg_aload_n dX12_run_7 rfl ?_
  obtain ⟨x1, e_x1, h⟩ := bd_some h
  refine rs_call (As := []) kv_X12_77 dX12_run_8 hr rfl rfl (by decide) (Nat.le_of_ble_eq_true rfl) rfl (by decide) (Nat.le_of_ble_eq_true rfl) (t_X12_today hr (pN s 0 (nI 0)) e_x1) ?_
  refine jg_sipush (v := nI 1250) dX12_run_11 (by decide) ?_
  obtain ⟨x2, e_x2, h⟩ := bd_some h
  refine rs_callS (As := [.int a1, .int x1, .int (nI 1250)]) ks_X12_49 dX12_run_14 rfl (by decide) (Nat.le_of_ble_eq_true rfl) rfl (by decide) (Nat.le_of_ble_eq_true rfl) (t_X12_in hr (pN s 0 (nI 0)) a1 x1 (nI 1250) e_x2) ?_
  refine jg_if_eq (x := x2) (tgt := 31) dX12_run_17 (by decide) (fun c3 => ?_) (fun c3 => ?_)
  · replace h := it_t c3 h
    refine jg_iconst (v := nI 1) dX12_run_31 (by decide) ?_
    refine jg_goto (tgt := 36) dX12_run_32 (by decide) ?_
    refine jg_iconst (v := nI 1) dX12_run_36 (by decide) ?_
    refine rs_call (As := [.int (nI 1), .int (nI 1)]) kv_X12_69 dX12_run_37 hr rfl rfl (by decide) (Nat.le_of_ble_eq_true rfl) rfl (by decide) (Nat.le_of_ble_eq_true rfl) (t_X12_throwsIf hr (pN s 0 (nI 0)) (nI 1) (nI 1) (o_thr1 (pN s 0 (nI 0)) (nI 1))) ?_
    refine jg_if_eq (x := (nI 1)) (tgt := 45) dX12_run_40 (by decide) (fun q9 => absurd q9 (by decide)) (fun _ => ?_)
    refine jg_iconst (v := nI 0) dX12_run_43 (by decide) ?_
    obtain rfl := Option.some.inj h
    exact jg_ireturn dX12_run_44 rfl ⟨rfl, rfl⟩
  · replace h := it_f c3 h
    refine jg_iload_n dX12_run_20 rfl ?_
    refine jg_iconst (v := nI 0) dX12_run_21 (by decide) ?_
    refine jg_sipush (v := nI 2000) dX12_run_22 (by decide) ?_
    obtain ⟨x4, e_x4, h⟩ := bd_some h
    refine rs_callS (As := [.int a2, .int (nI 0), .int (nI 2000)]) ks_X12_49 dX12_run_25 rfl (by decide) (Nat.le_of_ble_eq_true rfl) rfl (by decide) (Nat.le_of_ble_eq_true rfl) (t_X12_in hr (pN s 0 (nI 0)) a2 (nI 0) (nI 2000) e_x4) ?_
    refine jg_if_ne (x := x4) (tgt := 35) dX12_run_28 (by decide) (fun c5 => ?_) (fun c5 => ?_)
    · replace h := it_f c5 h
      refine jg_iconst (v := nI 0) dX12_run_35 (by decide) ?_
      refine jg_iconst (v := nI 1) dX12_run_36 (by decide) ?_
      refine rs_call (As := [.int (nI 0), .int (nI 1)]) kv_X12_69 dX12_run_37 hr rfl rfl (by decide) (Nat.le_of_ble_eq_true rfl) rfl (by decide) (Nat.le_of_ble_eq_true rfl) (t_X12_throwsIf hr (pN s 0 (nI 0)) (nI 0) (nI 1) (o_thr0 (pN s 0 (nI 0)) (nI 1))) ?_
      refine jg_if_eq (x := (nI 0)) (tgt := 45) dX12_run_40 (by decide) (fun _ => ?_) (fun q9 => absurd q9 (by decide))
      refine jg_aload_n dX12_run_45 rfl ?_
      refine rs_ga fl_X12_13 dX12_run_46 hr rfl ?_
      refine jg_bipush (v := nI 98) dX12_run_49 (by decide) ?_
      refine rs_lwD (s := (pN s 0 (nI 0))) (i := (nI 98)) dX12_run_51 hr (by decide) ?_
      refine jg_istore_n (L' := [some (.ref r), some (.int a1), some (.int a2), some (.int (gW (pN s 0 (nI 0)) (nI 98)))]) dX12_run_52 (by decide) rfl ?_
      refine jg_iload_n dX12_run_53 rfl ?_
      refine jg_bipush (v := nI 40) dX12_run_54 (by decide) ?_
      refine jg_icmp_ne (x := (gW (pN s 0 (nI 0)) (nI 98))) (y := (nI 40)) (tgt := 61) dX12_run_56 (by decide) (fun c6 => ?_) (fun c6 => ?_)
      · replace h := it_f c6 h
        refine jg_aload_n dX12_run_61 rfl ?_
        refine rs_ga fl_X12_13 dX12_run_62 hr rfl ?_
        refine jg_bipush (v := nI 99) dX12_run_65 (by decide) ?_
        refine jg_iconst (v := nI 2) dX12_run_67 (by decide) ?_
        refine jg_iload_n dX12_run_68 rfl ?_
        refine jg_imul (x := (nI 2)) (y := (gW (pN s 0 (nI 0)) (nI 98))) dX12_run_69  ?_
        refine jg_iadd (x := (nI 99)) (y := ((nI 2) * (gW (pN s 0 (nI 0)) (nI 98)))) dX12_run_70  ?_
        refine jg_iload_n dX12_run_71 rfl ?_
        obtain ⟨q7, h⟩ := gd_some h
        refine rs_swD (s := (pN s 0 (nI 0))) (i := ((nI 99) + ((nI 2) * (gW (pN s 0 (nI 0)) (nI 98))))) (x := a1) dX12_run_72 hr q7 ?_
        refine jg_aload_n dX12_run_73 rfl ?_
        refine rs_ga fl_X12_13 dX12_run_74 hr rfl ?_
        refine jg_bipush (v := nI 99) dX12_run_77 (by decide) ?_
        refine jg_iconst (v := nI 2) dX12_run_79 (by decide) ?_
        refine jg_iload_n dX12_run_80 rfl ?_
        refine jg_imul (x := (nI 2)) (y := (gW (pN s 0 (nI 0)) (nI 98))) dX12_run_81  ?_
        refine jg_iadd (x := (nI 99)) (y := ((nI 2) * (gW (pN s 0 (nI 0)) (nI 98)))) dX12_run_82  ?_
        refine jg_iconst (v := nI 1) dX12_run_83 (by decide) ?_
        refine jg_iadd (x := ((nI 99) + ((nI 2) * (gW (pN s 0 (nI 0)) (nI 98))))) (y := (nI 1)) dX12_run_84  ?_
        refine jg_iload_n dX12_run_85 rfl ?_
        obtain ⟨q8, h⟩ := gd_some h
        refine rs_swD (s := (pW (pN s 0 (nI 0)) ((nI 99) + ((nI 2) * (gW (pN s 0 (nI 0)) (nI 98)))) a1)) (i := (((nI 99) + ((nI 2) * (gW (pN s 0 (nI 0)) (nI 98)))) + (nI 1))) (x := a2) dX12_run_86 hr q8 ?_
        refine jg_aload_n dX12_run_87 rfl ?_
        refine rs_ga fl_X12_13 dX12_run_88 hr rfl ?_
        refine jg_bipush (v := nI 98) dX12_run_91 (by decide) ?_
        refine jg_dup2 dX12_run_93 rfl rfl ?_
        refine rs_lwD (s := (pW (pW (pN s 0 (nI 0)) ((nI 99) + ((nI 2) * (gW (pN s 0 (nI 0)) (nI 98)))) a1) (((nI 99) + ((nI 2) * (gW (pN s 0 (nI 0)) (nI 98)))) + (nI 1)) a2)) (i := (nI 98)) dX12_run_94 hr (by decide) ?_
        refine jg_iconst (v := nI 1) dX12_run_95 (by decide) ?_
        refine jg_iadd (x := (gW (pW (pW (pN s 0 (nI 0)) ((nI 99) + ((nI 2) * (gW (pN s 0 (nI 0)) (nI 98)))) a1) (((nI 99) + ((nI 2) * (gW (pN s 0 (nI 0)) (nI 98)))) + (nI 1)) a2) (nI 98))) (y := (nI 1)) dX12_run_96  ?_
        refine rs_swD (s := (pW (pW (pN s 0 (nI 0)) ((nI 99) + ((nI 2) * (gW (pN s 0 (nI 0)) (nI 98)))) a1) (((nI 99) + ((nI 2) * (gW (pN s 0 (nI 0)) (nI 98)))) + (nI 1)) a2)) (i := (nI 98)) (x := ((gW (pW (pW (pN s 0 (nI 0)) ((nI 99) + ((nI 2) * (gW (pN s 0 (nI 0)) (nI 98)))) a1) (((nI 99) + ((nI 2) * (gW (pN s 0 (nI 0)) (nI 98)))) + (nI 1)) a2) (nI 98)) + (nI 1))) dX12_run_97 hr (by decide) ?_
        refine jg_iload_n dX12_run_98 rfl ?_
        refine jg_iconst (v := nI 1) dX12_run_99 (by decide) ?_
        refine jg_iadd (x := (gW (pN s 0 (nI 0)) (nI 98))) (y := (nI 1)) dX12_run_100  ?_
        obtain rfl := Option.some.inj h
        exact jg_ireturn dX12_run_101 rfl ⟨rfl, rfl⟩
      · replace h := it_t c6 h
        refine jg_iconst (v := (-1)) dX12_run_59 (by decide) ?_
        obtain rfl := Option.some.inj h
        exact jg_ireturn dX12_run_60 rfl ⟨rfl, rfl⟩
    · replace h := it_t c5 h
      refine jg_iconst (v := nI 1) dX12_run_31 (by decide) ?_
      refine jg_goto (tgt := 36) dX12_run_32 (by decide) ?_
      refine jg_iconst (v := nI 1) dX12_run_36 (by decide) ?_
      refine rs_call (As := [.int (nI 1), .int (nI 1)]) kv_X12_69 dX12_run_37 hr rfl rfl (by decide) (Nat.le_of_ble_eq_true rfl) rfl (by decide) (Nat.le_of_ble_eq_true rfl) (t_X12_throwsIf hr (pN s 0 (nI 0)) (nI 1) (nI 1) (o_thr1 (pN s 0 (nI 0)) (nI 1))) ?_
      refine jg_if_eq (x := (nI 1)) (tgt := 45) dX12_run_40 (by decide) (fun q9 => absurd q9 (by decide)) (fun _ => ?_)
      refine jg_iconst (v := nI 0) dX12_run_43 (by decide) ?_
      obtain rfl := Option.some.inj h
      exact jg_ireturn dX12_run_44 rfl ⟨rfl, rfl⟩
theorem dX12_dredger_0 : decode cX12_dredger 0 = .ok (.aload_n 0, 1) := by decide +kernel
theorem dX12_dredger_1 : decode cX12_dredger 1 = .ok (.iconst 0, 1) := by decide +kernel
theorem dX12_dredger_2 : decode cX12_dredger 2 = .ok (.putfield 3, 3) := by decide +kernel
theorem dX12_dredger_5 : decode cX12_dredger 5 = .ok (.aload_n 0, 1) := by decide +kernel
theorem dX12_dredger_6 : decode cX12_dredger 6 = .ok (.iload_n 1, 1) := by decide +kernel
theorem dX12_dredger_7 : decode cX12_dredger 7 = .ok (.iconst 1, 1) := by decide +kernel
theorem dX12_dredger_8 : decode cX12_dredger 8 = .ok (.sipush 500, 3) := by decide +kernel
theorem dX12_dredger_11 : decode cX12_dredger 11 = .ok (.invokestatic 49, 3) := by decide +kernel
theorem dX12_dredger_14 : decode cX12_dredger 14 = .ok (.ifCond .ne 7, 3) := by decide +kernel
theorem dX12_dredger_17 : decode cX12_dredger 17 = .ok (.iconst 1, 1) := by decide +kernel
theorem dX12_dredger_18 : decode cX12_dredger 18 = .ok (.goto 4, 3) := by decide +kernel
theorem dX12_dredger_21 : decode cX12_dredger 21 = .ok (.iconst 0, 1) := by decide +kernel
theorem dX12_dredger_22 : decode cX12_dredger 22 = .ok (.iconst 1, 1) := by decide +kernel
theorem dX12_dredger_23 : decode cX12_dredger 23 = .ok (.invokevirtual 69, 3) := by decide +kernel
theorem dX12_dredger_26 : decode cX12_dredger 26 = .ok (.ifCond .ne 29, 3) := by decide +kernel
theorem dX12_dredger_29 : decode cX12_dredger 29 = .ok (.aload_n 0, 1) := by decide +kernel
theorem dX12_dredger_30 : decode cX12_dredger 30 = .ok (.aload_n 0, 1) := by decide +kernel
theorem dX12_dredger_31 : decode cX12_dredger 31 = .ok (.getfield 13, 3) := by decide +kernel
theorem dX12_dredger_34 : decode cX12_dredger 34 = .ok (.sipush 179, 3) := by decide +kernel
theorem dX12_dredger_37 : decode cX12_dredger 37 = .ok (.iaload, 1) := by decide +kernel
theorem dX12_dredger_38 : decode cX12_dredger 38 = .ok (.bipush 6, 2) := by decide +kernel
theorem dX12_dredger_40 : decode cX12_dredger 40 = .ok (.if_icmp .ne 7, 3) := by decide +kernel
theorem dX12_dredger_43 : decode cX12_dredger 43 = .ok (.iconst 1, 1) := by decide +kernel
theorem dX12_dredger_44 : decode cX12_dredger 44 = .ok (.goto 4, 3) := by decide +kernel
theorem dX12_dredger_47 : decode cX12_dredger 47 = .ok (.iconst 0, 1) := by decide +kernel
theorem dX12_dredger_48 : decode cX12_dredger 48 = .ok (.iconst 2, 1) := by decide +kernel
theorem dX12_dredger_49 : decode cX12_dredger 49 = .ok (.invokevirtual 69, 3) := by decide +kernel
theorem dX12_dredger_52 : decode cX12_dredger 52 = .ok (.ifCond .eq 5, 3) := by decide +kernel
theorem dX12_dredger_55 : decode cX12_dredger 55 = .ok (.iconst 0, 1) := by decide +kernel
theorem dX12_dredger_56 : decode cX12_dredger 56 = .ok (.ireturn, 1) := by decide +kernel
theorem dX12_dredger_57 : decode cX12_dredger 57 = .ok (.aload_n 0, 1) := by decide +kernel
theorem dX12_dredger_58 : decode cX12_dredger 58 = .ok (.getfield 13, 3) := by decide +kernel
theorem dX12_dredger_61 : decode cX12_dredger 61 = .ok (.sipush 179, 3) := by decide +kernel
theorem dX12_dredger_64 : decode cX12_dredger 64 = .ok (.iaload, 1) := by decide +kernel
theorem dX12_dredger_65 : decode cX12_dredger 65 = .ok (.istore_n 2, 1) := by decide +kernel
theorem dX12_dredger_66 : decode cX12_dredger 66 = .ok (.aload_n 0, 1) := by decide +kernel
theorem dX12_dredger_67 : decode cX12_dredger 67 = .ok (.getfield 13, 3) := by decide +kernel
theorem dX12_dredger_70 : decode cX12_dredger 70 = .ok (.sipush 180, 3) := by decide +kernel
theorem dX12_dredger_73 : decode cX12_dredger 73 = .ok (.iconst 3, 1) := by decide +kernel
theorem dX12_dredger_74 : decode cX12_dredger 74 = .ok (.iload_n 2, 1) := by decide +kernel
theorem dX12_dredger_75 : decode cX12_dredger 75 = .ok (.imul, 1) := by decide +kernel
theorem dX12_dredger_76 : decode cX12_dredger 76 = .ok (.iadd, 1) := by decide +kernel
theorem dX12_dredger_77 : decode cX12_dredger 77 = .ok (.iload_n 1, 1) := by decide +kernel
theorem dX12_dredger_78 : decode cX12_dredger 78 = .ok (.iastore, 1) := by decide +kernel
theorem dX12_dredger_79 : decode cX12_dredger 79 = .ok (.aload_n 0, 1) := by decide +kernel
theorem dX12_dredger_80 : decode cX12_dredger 80 = .ok (.getfield 13, 3) := by decide +kernel
theorem dX12_dredger_83 : decode cX12_dredger 83 = .ok (.sipush 180, 3) := by decide +kernel
theorem dX12_dredger_86 : decode cX12_dredger 86 = .ok (.iconst 3, 1) := by decide +kernel
theorem dX12_dredger_87 : decode cX12_dredger 87 = .ok (.iload_n 2, 1) := by decide +kernel
theorem dX12_dredger_88 : decode cX12_dredger 88 = .ok (.imul, 1) := by decide +kernel
theorem dX12_dredger_89 : decode cX12_dredger 89 = .ok (.iadd, 1) := by decide +kernel
theorem dX12_dredger_90 : decode cX12_dredger 90 = .ok (.iconst 1, 1) := by decide +kernel
theorem dX12_dredger_91 : decode cX12_dredger 91 = .ok (.iadd, 1) := by decide +kernel
theorem dX12_dredger_92 : decode cX12_dredger 92 = .ok (.iconst (-1), 1) := by decide +kernel
theorem dX12_dredger_93 : decode cX12_dredger 93 = .ok (.iastore, 1) := by decide +kernel
theorem dX12_dredger_94 : decode cX12_dredger 94 = .ok (.aload_n 0, 1) := by decide +kernel
theorem dX12_dredger_95 : decode cX12_dredger 95 = .ok (.getfield 13, 3) := by decide +kernel
theorem dX12_dredger_98 : decode cX12_dredger 98 = .ok (.sipush 180, 3) := by decide +kernel
theorem dX12_dredger_101 : decode cX12_dredger 101 = .ok (.iconst 3, 1) := by decide +kernel
theorem dX12_dredger_102 : decode cX12_dredger 102 = .ok (.iload_n 2, 1) := by decide +kernel
theorem dX12_dredger_103 : decode cX12_dredger 103 = .ok (.imul, 1) := by decide +kernel
theorem dX12_dredger_104 : decode cX12_dredger 104 = .ok (.iadd, 1) := by decide +kernel
theorem dX12_dredger_105 : decode cX12_dredger 105 = .ok (.iconst 2, 1) := by decide +kernel
theorem dX12_dredger_106 : decode cX12_dredger 106 = .ok (.iadd, 1) := by decide +kernel
theorem dX12_dredger_107 : decode cX12_dredger 107 = .ok (.iconst (-1), 1) := by decide +kernel
theorem dX12_dredger_108 : decode cX12_dredger 108 = .ok (.iastore, 1) := by decide +kernel
theorem dX12_dredger_109 : decode cX12_dredger 109 = .ok (.aload_n 0, 1) := by decide +kernel
theorem dX12_dredger_110 : decode cX12_dredger 110 = .ok (.getfield 13, 3) := by decide +kernel
theorem dX12_dredger_113 : decode cX12_dredger 113 = .ok (.sipush 179, 3) := by decide +kernel
theorem dX12_dredger_116 : decode cX12_dredger 116 = .ok (.dup2, 1) := by decide +kernel
theorem dX12_dredger_117 : decode cX12_dredger 117 = .ok (.iaload, 1) := by decide +kernel
theorem dX12_dredger_118 : decode cX12_dredger 118 = .ok (.iconst 1, 1) := by decide +kernel
theorem dX12_dredger_119 : decode cX12_dredger 119 = .ok (.iadd, 1) := by decide +kernel
theorem dX12_dredger_120 : decode cX12_dredger 120 = .ok (.iastore, 1) := by decide +kernel
theorem dX12_dredger_121 : decode cX12_dredger 121 = .ok (.iload_n 2, 1) := by decide +kernel
theorem dX12_dredger_122 : decode cX12_dredger 122 = .ok (.ireturn, 1) := by decide +kernel
noncomputable def o_X12_dredger (s : rs_S) (a1 : Int32) : Option (Int32 × rs_S) := (o_X12_in (pN s 0 (nI 0)) a1 (nI 1) (nI 500)).bind fun x1 => (if x1 = 0 then (some (nI 0, pN (pN s 0 (nI 0)) 0 (nI 1))) else (if (gW (pN s 0 (nI 0)) (nI 179)) = (nI 6) then (some (nI 0, pN (pN s 0 (nI 0)) 0 (nI 2))) else (if iL ((nI 180) + ((nI 3) * (gW (pN s 0 (nI 0)) (nI 179)))) 22216 then (if iL (((nI 180) + ((nI 3) * (gW (pN s 0 (nI 0)) (nI 179)))) + (nI 1)) 22216 then (if iL (((nI 180) + ((nI 3) * (gW (pN s 0 (nI 0)) (nI 179)))) + (nI 2)) 22216 then (some (gW (pN s 0 (nI 0)) (nI 179), pW (pW (pW (pW (pN s 0 (nI 0)) ((nI 180) + ((nI 3) * (gW (pN s 0 (nI 0)) (nI 179)))) a1) (((nI 180) + ((nI 3) * (gW (pN s 0 (nI 0)) (nI 179)))) + (nI 1)) (-1)) (((nI 180) + ((nI 3) * (gW (pN s 0 (nI 0)) (nI 179)))) + (nI 2)) (-1)) (nI 179) ((gW (pW (pW (pW (pN s 0 (nI 0)) ((nI 180) + ((nI 3) * (gW (pN s 0 (nI 0)) (nI 179)))) a1) (((nI 180) + ((nI 3) * (gW (pN s 0 (nI 0)) (nI 179)))) + (nI 1)) (-1)) (((nI 180) + ((nI 3) * (gW (pN s 0 (nI 0)) (nI 179)))) + (nI 2)) (-1)) (nI 179)) + (nI 1)))) else none) else none) else none)))
set_option maxHeartbeats 4000000 in
theorem t_X12_dredger {Γ : jg_G} {g : Nat → jg_C} {n r : Nat} (hr : r + 11 ≤ n) (s : rs_S) (a1 : Int32)  {x : Int32 × rs_S} (h : o_X12_dredger s a1 = some x) : jc Γ mX12_dredger 1 0 0 [some (.ref r), some (.int a1), none] (rs_h g r s, n) (.inl (some (.int x.1))) (rs_h g r x.2, n) := by
  refine jc_of ?_
  rw [o_X12_dredger] at h
  refine jg_aload_n dX12_dredger_0 rfl ?_
  refine jg_iconst (v := nI 0) dX12_dredger_1 (by decide) ?_
  refine rs_putD (s := s) (k := 0) (x := (nI 0)) fl_X12_3 dX12_dredger_2 hr (by decide) (rfl) rfl rfl ?_
  refine jg_aload_n dX12_dredger_5 rfl ?_
  refine jg_iload_n dX12_dredger_6 rfl ?_
  refine jg_iconst (v := nI 1) dX12_dredger_7 (by decide) ?_
  refine jg_sipush (v := nI 500) dX12_dredger_8 (by decide) ?_
  obtain ⟨x1, e_x1, h⟩ := bd_some h
  refine rs_callS (As := [.int a1, .int (nI 1), .int (nI 500)]) ks_X12_49 dX12_dredger_11 rfl (by decide) (Nat.le_of_ble_eq_true rfl) rfl (by decide) (Nat.le_of_ble_eq_true rfl) (t_X12_in hr (pN s 0 (nI 0)) a1 (nI 1) (nI 500) e_x1) ?_
  refine jg_if_ne (x := x1) (tgt := 21) dX12_dredger_14 (by decide) (fun c2 => ?_) (fun c2 => ?_)
  · replace h := it_f c2 h
    refine jg_iconst (v := nI 0) dX12_dredger_21 (by decide) ?_
    refine jg_iconst (v := nI 1) dX12_dredger_22 (by decide) ?_
    refine rs_call (As := [.int (nI 0), .int (nI 1)]) kv_X12_69 dX12_dredger_23 hr rfl rfl (by decide) (Nat.le_of_ble_eq_true rfl) rfl (by decide) (Nat.le_of_ble_eq_true rfl) (t_X12_throwsIf hr (pN s 0 (nI 0)) (nI 0) (nI 1) (o_thr0 (pN s 0 (nI 0)) (nI 1))) ?_
    refine jg_if_ne (x := (nI 0)) (tgt := 55) dX12_dredger_26 (by decide) (fun q9 => absurd q9 (by decide)) (fun _ => ?_)
    refine jg_aload_n dX12_dredger_29 rfl ?_
    refine jg_aload_n dX12_dredger_30 rfl ?_
    refine rs_ga fl_X12_13 dX12_dredger_31 hr rfl ?_
    refine jg_sipush (v := nI 179) dX12_dredger_34 (by decide) ?_
    refine rs_lwD (s := (pN s 0 (nI 0))) (i := (nI 179)) dX12_dredger_37 hr (by decide) ?_
    refine jg_bipush (v := nI 6) dX12_dredger_38 (by decide) ?_
    refine jg_icmp_ne (x := (gW (pN s 0 (nI 0)) (nI 179))) (y := (nI 6)) (tgt := 47) dX12_dredger_40 (by decide) (fun c3 => ?_) (fun c3 => ?_)
    · replace h := it_f c3 h
      refine jg_iconst (v := nI 0) dX12_dredger_47 (by decide) ?_
      refine jg_iconst (v := nI 2) dX12_dredger_48 (by decide) ?_
      refine rs_call (As := [.int (nI 0), .int (nI 2)]) kv_X12_69 dX12_dredger_49 hr rfl rfl (by decide) (Nat.le_of_ble_eq_true rfl) rfl (by decide) (Nat.le_of_ble_eq_true rfl) (t_X12_throwsIf hr (pN s 0 (nI 0)) (nI 0) (nI 2) (o_thr0 (pN s 0 (nI 0)) (nI 2))) ?_
      refine jg_if_eq (x := (nI 0)) (tgt := 57) dX12_dredger_52 (by decide) (fun _ => ?_) (fun q9 => absurd q9 (by decide))
      refine jg_aload_n dX12_dredger_57 rfl ?_
      refine rs_ga fl_X12_13 dX12_dredger_58 hr rfl ?_
      refine jg_sipush (v := nI 179) dX12_dredger_61 (by decide) ?_
      refine rs_lwD (s := (pN s 0 (nI 0))) (i := (nI 179)) dX12_dredger_64 hr (by decide) ?_
      refine jg_istore_n (L' := [some (.ref r), some (.int a1), some (.int (gW (pN s 0 (nI 0)) (nI 179)))]) dX12_dredger_65 (by decide) rfl ?_
      refine jg_aload_n dX12_dredger_66 rfl ?_
      refine rs_ga fl_X12_13 dX12_dredger_67 hr rfl ?_
      refine jg_sipush (v := nI 180) dX12_dredger_70 (by decide) ?_
      refine jg_iconst (v := nI 3) dX12_dredger_73 (by decide) ?_
      refine jg_iload_n dX12_dredger_74 rfl ?_
      refine jg_imul (x := (nI 3)) (y := (gW (pN s 0 (nI 0)) (nI 179))) dX12_dredger_75  ?_
      refine jg_iadd (x := (nI 180)) (y := ((nI 3) * (gW (pN s 0 (nI 0)) (nI 179)))) dX12_dredger_76  ?_
      refine jg_iload_n dX12_dredger_77 rfl ?_
      obtain ⟨q4, h⟩ := gd_some h
      refine rs_swD (s := (pN s 0 (nI 0))) (i := ((nI 180) + ((nI 3) * (gW (pN s 0 (nI 0)) (nI 179))))) (x := a1) dX12_dredger_78 hr q4 ?_
      refine jg_aload_n dX12_dredger_79 rfl ?_
      refine rs_ga fl_X12_13 dX12_dredger_80 hr rfl ?_
      refine jg_sipush (v := nI 180) dX12_dredger_83 (by decide) ?_
      refine jg_iconst (v := nI 3) dX12_dredger_86 (by decide) ?_
      refine jg_iload_n dX12_dredger_87 rfl ?_
      refine jg_imul (x := (nI 3)) (y := (gW (pN s 0 (nI 0)) (nI 179))) dX12_dredger_88  ?_
      refine jg_iadd (x := (nI 180)) (y := ((nI 3) * (gW (pN s 0 (nI 0)) (nI 179)))) dX12_dredger_89  ?_
      refine jg_iconst (v := nI 1) dX12_dredger_90 (by decide) ?_
      refine jg_iadd (x := ((nI 180) + ((nI 3) * (gW (pN s 0 (nI 0)) (nI 179))))) (y := (nI 1)) dX12_dredger_91  ?_
      refine jg_iconst (v := (-1)) dX12_dredger_92 (by decide) ?_
      obtain ⟨q5, h⟩ := gd_some h
      refine rs_swD (s := (pW (pN s 0 (nI 0)) ((nI 180) + ((nI 3) * (gW (pN s 0 (nI 0)) (nI 179)))) a1)) (i := (((nI 180) + ((nI 3) * (gW (pN s 0 (nI 0)) (nI 179)))) + (nI 1))) (x := (-1)) dX12_dredger_93 hr q5 ?_
      refine jg_aload_n dX12_dredger_94 rfl ?_
      refine rs_ga fl_X12_13 dX12_dredger_95 hr rfl ?_
      refine jg_sipush (v := nI 180) dX12_dredger_98 (by decide) ?_
      refine jg_iconst (v := nI 3) dX12_dredger_101 (by decide) ?_
      refine jg_iload_n dX12_dredger_102 rfl ?_
      refine jg_imul (x := (nI 3)) (y := (gW (pN s 0 (nI 0)) (nI 179))) dX12_dredger_103  ?_
      refine jg_iadd (x := (nI 180)) (y := ((nI 3) * (gW (pN s 0 (nI 0)) (nI 179)))) dX12_dredger_104  ?_
      refine jg_iconst (v := nI 2) dX12_dredger_105 (by decide) ?_
      refine jg_iadd (x := ((nI 180) + ((nI 3) * (gW (pN s 0 (nI 0)) (nI 179))))) (y := (nI 2)) dX12_dredger_106  ?_
      refine jg_iconst (v := (-1)) dX12_dredger_107 (by decide) ?_
      obtain ⟨q6, h⟩ := gd_some h
      refine rs_swD (s := (pW (pW (pN s 0 (nI 0)) ((nI 180) + ((nI 3) * (gW (pN s 0 (nI 0)) (nI 179)))) a1) (((nI 180) + ((nI 3) * (gW (pN s 0 (nI 0)) (nI 179)))) + (nI 1)) (-1))) (i := (((nI 180) + ((nI 3) * (gW (pN s 0 (nI 0)) (nI 179)))) + (nI 2))) (x := (-1)) dX12_dredger_108 hr q6 ?_
      refine jg_aload_n dX12_dredger_109 rfl ?_
      refine rs_ga fl_X12_13 dX12_dredger_110 hr rfl ?_
      refine jg_sipush (v := nI 179) dX12_dredger_113 (by decide) ?_
      refine jg_dup2 dX12_dredger_116 rfl rfl ?_
      refine rs_lwD (s := (pW (pW (pW (pN s 0 (nI 0)) ((nI 180) + ((nI 3) * (gW (pN s 0 (nI 0)) (nI 179)))) a1) (((nI 180) + ((nI 3) * (gW (pN s 0 (nI 0)) (nI 179)))) + (nI 1)) (-1)) (((nI 180) + ((nI 3) * (gW (pN s 0 (nI 0)) (nI 179)))) + (nI 2)) (-1))) (i := (nI 179)) dX12_dredger_117 hr (by decide) ?_
      refine jg_iconst (v := nI 1) dX12_dredger_118 (by decide) ?_
      refine jg_iadd (x := (gW (pW (pW (pW (pN s 0 (nI 0)) ((nI 180) + ((nI 3) * (gW (pN s 0 (nI 0)) (nI 179)))) a1) (((nI 180) + ((nI 3) * (gW (pN s 0 (nI 0)) (nI 179)))) + (nI 1)) (-1)) (((nI 180) + ((nI 3) * (gW (pN s 0 (nI 0)) (nI 179)))) + (nI 2)) (-1)) (nI 179))) (y := (nI 1)) dX12_dredger_119  ?_
      refine rs_swD (s := (pW (pW (pW (pN s 0 (nI 0)) ((nI 180) + ((nI 3) * (gW (pN s 0 (nI 0)) (nI 179)))) a1) (((nI 180) + ((nI 3) * (gW (pN s 0 (nI 0)) (nI 179)))) + (nI 1)) (-1)) (((nI 180) + ((nI 3) * (gW (pN s 0 (nI 0)) (nI 179)))) + (nI 2)) (-1))) (i := (nI 179)) (x := ((gW (pW (pW (pW (pN s 0 (nI 0)) ((nI 180) + ((nI 3) * (gW (pN s 0 (nI 0)) (nI 179)))) a1) (((nI 180) + ((nI 3) * (gW (pN s 0 (nI 0)) (nI 179)))) + (nI 1)) (-1)) (((nI 180) + ((nI 3) * (gW (pN s 0 (nI 0)) (nI 179)))) + (nI 2)) (-1)) (nI 179)) + (nI 1))) dX12_dredger_120 hr (by decide) ?_
      refine jg_iload_n dX12_dredger_121 rfl ?_
      obtain rfl := Option.some.inj h
      exact jg_ireturn dX12_dredger_122 rfl ⟨rfl, rfl⟩
    · replace h := it_t c3 h
      refine jg_iconst (v := nI 1) dX12_dredger_43 (by decide) ?_
      refine jg_goto (tgt := 48) dX12_dredger_44 (by decide) ?_
      refine jg_iconst (v := nI 2) dX12_dredger_48 (by decide) ?_
      refine rs_call (As := [.int (nI 1), .int (nI 2)]) kv_X12_69 dX12_dredger_49 hr rfl rfl (by decide) (Nat.le_of_ble_eq_true rfl) rfl (by decide) (Nat.le_of_ble_eq_true rfl) (t_X12_throwsIf hr (pN s 0 (nI 0)) (nI 1) (nI 2) (o_thr1 (pN s 0 (nI 0)) (nI 2))) ?_
      refine jg_if_eq (x := (nI 1)) (tgt := 57) dX12_dredger_52 (by decide) (fun q9 => absurd q9 (by decide)) (fun _ => ?_)
      refine jg_iconst (v := nI 0) dX12_dredger_55 (by decide) ?_
      obtain rfl := Option.some.inj h
      exact jg_ireturn dX12_dredger_56 rfl ⟨rfl, rfl⟩
  · replace h := it_t c2 h
    refine jg_iconst (v := nI 1) dX12_dredger_17 (by decide) ?_
    refine jg_goto (tgt := 22) dX12_dredger_18 (by decide) ?_
    refine jg_iconst (v := nI 1) dX12_dredger_22 (by decide) ?_
    refine rs_call (As := [.int (nI 1), .int (nI 1)]) kv_X12_69 dX12_dredger_23 hr rfl rfl (by decide) (Nat.le_of_ble_eq_true rfl) rfl (by decide) (Nat.le_of_ble_eq_true rfl) (t_X12_throwsIf hr (pN s 0 (nI 0)) (nI 1) (nI 1) (o_thr1 (pN s 0 (nI 0)) (nI 1))) ?_
    refine jg_if_ne (x := (nI 1)) (tgt := 55) dX12_dredger_26 (by decide) (fun _ => ?_) (fun q9 => absurd q9 (by decide))
    refine jg_iconst (v := nI 0) dX12_dredger_55 (by decide) ?_
    obtain rfl := Option.some.inj h
    exact jg_ireturn dX12_dredger_56 rfl ⟨rfl, rfl⟩
theorem dX12_station_0 : decode cX12_station 0 = .ok (.aload_n 0, 1) := by decide +kernel
theorem dX12_station_1 : decode cX12_station 1 = .ok (.iconst 0, 1) := by decide +kernel
theorem dX12_station_2 : decode cX12_station 2 = .ok (.putfield 3, 3) := by decide +kernel
theorem dX12_station_5 : decode cX12_station 5 = .ok (.aload_n 0, 1) := by decide +kernel
theorem dX12_station_6 : decode cX12_station 6 = .ok (.iload_n 1, 1) := by decide +kernel
theorem dX12_station_7 : decode cX12_station 7 = .ok (.iconst 0, 1) := by decide +kernel
theorem dX12_station_8 : decode cX12_station 8 = .ok (.aload_n 0, 1) := by decide +kernel
theorem dX12_station_9 : decode cX12_station 9 = .ok (.getfield 13, 3) := by decide +kernel
theorem dX12_station_12 : decode cX12_station 12 = .ok (.sipush 179, 3) := by decide +kernel
theorem dX12_station_15 : decode cX12_station 15 = .ok (.iaload, 1) := by decide +kernel
theorem dX12_station_16 : decode cX12_station 16 = .ok (.iconst 1, 1) := by decide +kernel
theorem dX12_station_17 : decode cX12_station 17 = .ok (.isub, 1) := by decide +kernel
theorem dX12_station_18 : decode cX12_station 18 = .ok (.invokestatic 49, 3) := by decide +kernel
theorem dX12_station_21 : decode cX12_station 21 = .ok (.ifCond .eq 27, 3) := by decide +kernel
theorem dX12_station_24 : decode cX12_station 24 = .ok (.iload_n 2, 1) := by decide +kernel
theorem dX12_station_25 : decode cX12_station 25 = .ok (.iconst (-1), 1) := by decide +kernel
theorem dX12_station_26 : decode cX12_station 26 = .ok (.if_icmp .eq 10, 3) := by decide +kernel
theorem dX12_station_29 : decode cX12_station 29 = .ok (.iload_n 2, 1) := by decide +kernel
theorem dX12_station_30 : decode cX12_station 30 = .ok (.invokestatic 65, 3) := by decide +kernel
theorem dX12_station_33 : decode cX12_station 33 = .ok (.ifCond .ne 15, 3) := by decide +kernel
theorem dX12_station_36 : decode cX12_station 36 = .ok (.iload_n 3, 1) := by decide +kernel
theorem dX12_station_37 : decode cX12_station 37 = .ok (.iconst (-1), 1) := by decide +kernel
theorem dX12_station_38 : decode cX12_station 38 = .ok (.if_icmp .eq 14, 3) := by decide +kernel
theorem dX12_station_41 : decode cX12_station 41 = .ok (.iload_n 3, 1) := by decide +kernel
theorem dX12_station_42 : decode cX12_station 42 = .ok (.invokestatic 65, 3) := by decide +kernel
theorem dX12_station_45 : decode cX12_station 45 = .ok (.ifCond .eq 7, 3) := by decide +kernel
theorem dX12_station_48 : decode cX12_station 48 = .ok (.iconst 1, 1) := by decide +kernel
theorem dX12_station_49 : decode cX12_station 49 = .ok (.goto 4, 3) := by decide +kernel
theorem dX12_station_52 : decode cX12_station 52 = .ok (.iconst 0, 1) := by decide +kernel
theorem dX12_station_53 : decode cX12_station 53 = .ok (.iconst 1, 1) := by decide +kernel
theorem dX12_station_54 : decode cX12_station 54 = .ok (.invokevirtual 69, 3) := by decide +kernel
theorem dX12_station_57 : decode cX12_station 57 = .ok (.ifCond .eq 5, 3) := by decide +kernel
theorem dX12_station_60 : decode cX12_station 60 = .ok (.iconst 0, 1) := by decide +kernel
theorem dX12_station_61 : decode cX12_station 61 = .ok (.ireturn, 1) := by decide +kernel
theorem dX12_station_62 : decode cX12_station 62 = .ok (.sipush 180, 3) := by decide +kernel
theorem dX12_station_65 : decode cX12_station 65 = .ok (.iconst 3, 1) := by decide +kernel
theorem dX12_station_66 : decode cX12_station 66 = .ok (.iload_n 1, 1) := by decide +kernel
theorem dX12_station_67 : decode cX12_station 67 = .ok (.imul, 1) := by decide +kernel
theorem dX12_station_68 : decode cX12_station 68 = .ok (.iadd, 1) := by decide +kernel
theorem dX12_station_69 : decode cX12_station 69 = .ok (.istore 4, 2) := by decide +kernel
theorem dX12_station_71 : decode cX12_station 71 = .ok (.aload_n 0, 1) := by decide +kernel
theorem dX12_station_72 : decode cX12_station 72 = .ok (.getfield 13, 3) := by decide +kernel
theorem dX12_station_75 : decode cX12_station 75 = .ok (.iload 4, 2) := by decide +kernel
theorem dX12_station_77 : decode cX12_station 77 = .ok (.iconst 1, 1) := by decide +kernel
theorem dX12_station_78 : decode cX12_station 78 = .ok (.iadd, 1) := by decide +kernel
theorem dX12_station_79 : decode cX12_station 79 = .ok (.iaload, 1) := by decide +kernel
theorem dX12_station_80 : decode cX12_station 80 = .ok (.iload_n 2, 1) := by decide +kernel
theorem dX12_station_81 : decode cX12_station 81 = .ok (.if_icmp .ne 16, 3) := by decide +kernel
theorem dX12_station_84 : decode cX12_station 84 = .ok (.aload_n 0, 1) := by decide +kernel
theorem dX12_station_85 : decode cX12_station 85 = .ok (.getfield 13, 3) := by decide +kernel
theorem dX12_station_88 : decode cX12_station 88 = .ok (.iload 4, 2) := by decide +kernel
theorem dX12_station_90 : decode cX12_station 90 = .ok (.iconst 2, 1) := by decide +kernel
theorem dX12_station_91 : decode cX12_station 91 = .ok (.iadd, 1) := by decide +kernel
theorem dX12_station_92 : decode cX12_station 92 = .ok (.iaload, 1) := by decide +kernel
theorem dX12_station_93 : decode cX12_station 93 = .ok (.iload_n 3, 1) := by decide +kernel
theorem dX12_station_94 : decode cX12_station 94 = .ok (.if_icmp .eq 7, 3) := by decide +kernel
theorem dX12_station_97 : decode cX12_station 97 = .ok (.iconst 1, 1) := by decide +kernel
theorem dX12_station_98 : decode cX12_station 98 = .ok (.goto 4, 3) := by decide +kernel
theorem dX12_station_101 : decode cX12_station 101 = .ok (.iconst 0, 1) := by decide +kernel
theorem dX12_station_102 : decode cX12_station 102 = .ok (.istore 5, 2) := by decide +kernel
theorem dX12_station_104 : decode cX12_station 104 = .ok (.aload_n 0, 1) := by decide +kernel
theorem dX12_station_105 : decode cX12_station 105 = .ok (.getfield 13, 3) := by decide +kernel
theorem dX12_station_108 : decode cX12_station 108 = .ok (.iload 4, 2) := by decide +kernel
theorem dX12_station_110 : decode cX12_station 110 = .ok (.iconst 1, 1) := by decide +kernel
theorem dX12_station_111 : decode cX12_station 111 = .ok (.iadd, 1) := by decide +kernel
theorem dX12_station_112 : decode cX12_station 112 = .ok (.iload_n 2, 1) := by decide +kernel
theorem dX12_station_113 : decode cX12_station 113 = .ok (.iastore, 1) := by decide +kernel
theorem dX12_station_114 : decode cX12_station 114 = .ok (.aload_n 0, 1) := by decide +kernel
theorem dX12_station_115 : decode cX12_station 115 = .ok (.getfield 13, 3) := by decide +kernel
theorem dX12_station_118 : decode cX12_station 118 = .ok (.iload 4, 2) := by decide +kernel
theorem dX12_station_120 : decode cX12_station 120 = .ok (.iconst 2, 1) := by decide +kernel
theorem dX12_station_121 : decode cX12_station 121 = .ok (.iadd, 1) := by decide +kernel
theorem dX12_station_122 : decode cX12_station 122 = .ok (.iload_n 3, 1) := by decide +kernel
theorem dX12_station_123 : decode cX12_station 123 = .ok (.iastore, 1) := by decide +kernel
theorem dX12_station_124 : decode cX12_station 124 = .ok (.iload 5, 2) := by decide +kernel
theorem dX12_station_126 : decode cX12_station 126 = .ok (.ireturn, 1) := by decide +kernel
noncomputable def o_X12_station (s : rs_S) (a1 : Int32) (a2 : Int32) (a3 : Int32) : Option (Int32 × rs_S) := (o_X12_in (pN s 0 (nI 0)) a1 (nI 0) ((gW (pN s 0 (nI 0)) (nI 179)) - (nI 1))).bind fun x1 => (if x1 = 0 then (some (nI 0, pN (pN s 0 (nI 0)) 0 (nI 1))) else (if a2 = (-1) then (if a3 = (-1) then (if iL (((nI 180) + ((nI 3) * a1)) + (nI 1)) 22216 then (if (gW (pN s 0 (nI 0)) (((nI 180) + ((nI 3) * a1)) + (nI 1))) = a2 then (if iL (((nI 180) + ((nI 3) * a1)) + (nI 2)) 22216 then (if (gW (pN s 0 (nI 0)) (((nI 180) + ((nI 3) * a1)) + (nI 2))) = a3 then (some (nI 0, pW (pW (pN s 0 (nI 0)) (((nI 180) + ((nI 3) * a1)) + (nI 1)) a2) (((nI 180) + ((nI 3) * a1)) + (nI 2)) a3)) else (some (nI 1, pW (pW (pN s 0 (nI 0)) (((nI 180) + ((nI 3) * a1)) + (nI 1)) a2) (((nI 180) + ((nI 3) * a1)) + (nI 2)) a3))) else none) else (if iL (((nI 180) + ((nI 3) * a1)) + (nI 2)) 22216 then (some (nI 1, pW (pW (pN s 0 (nI 0)) (((nI 180) + ((nI 3) * a1)) + (nI 1)) a2) (((nI 180) + ((nI 3) * a1)) + (nI 2)) a3)) else none)) else none) else ((o_X12_noCell (pN s 0 (nI 0)) a3).bind fun x10 => (if x10 = 0 then (if iL (((nI 180) + ((nI 3) * a1)) + (nI 1)) 22216 then (if (gW (pN s 0 (nI 0)) (((nI 180) + ((nI 3) * a1)) + (nI 1))) = a2 then (if iL (((nI 180) + ((nI 3) * a1)) + (nI 2)) 22216 then (if (gW (pN s 0 (nI 0)) (((nI 180) + ((nI 3) * a1)) + (nI 2))) = a3 then (some (nI 0, pW (pW (pN s 0 (nI 0)) (((nI 180) + ((nI 3) * a1)) + (nI 1)) a2) (((nI 180) + ((nI 3) * a1)) + (nI 2)) a3)) else (some (nI 1, pW (pW (pN s 0 (nI 0)) (((nI 180) + ((nI 3) * a1)) + (nI 1)) a2) (((nI 180) + ((nI 3) * a1)) + (nI 2)) a3))) else none) else (if iL (((nI 180) + ((nI 3) * a1)) + (nI 2)) 22216 then (some (nI 1, pW (pW (pN s 0 (nI 0)) (((nI 180) + ((nI 3) * a1)) + (nI 1)) a2) (((nI 180) + ((nI 3) * a1)) + (nI 2)) a3)) else none)) else none) else (some (nI 0, pN (pN s 0 (nI 0)) 0 (nI 1)))))) else ((o_X12_noCell (pN s 0 (nI 0)) a2).bind fun x17 => (if x17 = 0 then (if a3 = (-1) then (if iL (((nI 180) + ((nI 3) * a1)) + (nI 1)) 22216 then (if (gW (pN s 0 (nI 0)) (((nI 180) + ((nI 3) * a1)) + (nI 1))) = a2 then (if iL (((nI 180) + ((nI 3) * a1)) + (nI 2)) 22216 then (if (gW (pN s 0 (nI 0)) (((nI 180) + ((nI 3) * a1)) + (nI 2))) = a3 then (some (nI 0, pW (pW (pN s 0 (nI 0)) (((nI 180) + ((nI 3) * a1)) + (nI 1)) a2) (((nI 180) + ((nI 3) * a1)) + (nI 2)) a3)) else (some (nI 1, pW (pW (pN s 0 (nI 0)) (((nI 180) + ((nI 3) * a1)) + (nI 1)) a2) (((nI 180) + ((nI 3) * a1)) + (nI 2)) a3))) else none) else (if iL (((nI 180) + ((nI 3) * a1)) + (nI 2)) 22216 then (some (nI 1, pW (pW (pN s 0 (nI 0)) (((nI 180) + ((nI 3) * a1)) + (nI 1)) a2) (((nI 180) + ((nI 3) * a1)) + (nI 2)) a3)) else none)) else none) else ((o_X12_noCell (pN s 0 (nI 0)) a3).bind fun x25 => (if x25 = 0 then (if iL (((nI 180) + ((nI 3) * a1)) + (nI 1)) 22216 then (if (gW (pN s 0 (nI 0)) (((nI 180) + ((nI 3) * a1)) + (nI 1))) = a2 then (if iL (((nI 180) + ((nI 3) * a1)) + (nI 2)) 22216 then (if (gW (pN s 0 (nI 0)) (((nI 180) + ((nI 3) * a1)) + (nI 2))) = a3 then (some (nI 0, pW (pW (pN s 0 (nI 0)) (((nI 180) + ((nI 3) * a1)) + (nI 1)) a2) (((nI 180) + ((nI 3) * a1)) + (nI 2)) a3)) else (some (nI 1, pW (pW (pN s 0 (nI 0)) (((nI 180) + ((nI 3) * a1)) + (nI 1)) a2) (((nI 180) + ((nI 3) * a1)) + (nI 2)) a3))) else none) else (if iL (((nI 180) + ((nI 3) * a1)) + (nI 2)) 22216 then (some (nI 1, pW (pW (pN s 0 (nI 0)) (((nI 180) + ((nI 3) * a1)) + (nI 1)) a2) (((nI 180) + ((nI 3) * a1)) + (nI 2)) a3)) else none)) else none) else (some (nI 0, pN (pN s 0 (nI 0)) 0 (nI 1)))))) else (some (nI 0, pN (pN s 0 (nI 0)) 0 (nI 1)))))))
set_option maxHeartbeats 4000000 in
theorem t_X12_station {Γ : jg_G} {g : Nat → jg_C} {n r : Nat} (hr : r + 11 ≤ n) (s : rs_S) (a1 : Int32) (a2 : Int32) (a3 : Int32)  {x : Int32 × rs_S} (h : o_X12_station s a1 a2 a3 = some x) : jc Γ mX12_station 2 0 0 [some (.ref r), some (.int a1), some (.int a2), some (.int a3), none, none] (rs_h g r s, n) (.inl (some (.int x.1))) (rs_h g r x.2, n) := by
  refine jc_of ?_
  rw [o_X12_station] at h
  refine jg_aload_n dX12_station_0 rfl ?_
  refine jg_iconst (v := nI 0) dX12_station_1 (by decide) ?_
  refine rs_putD (s := s) (k := 0) (x := (nI 0)) fl_X12_3 dX12_station_2 hr (by decide) (rfl) rfl rfl ?_
  refine jg_aload_n dX12_station_5 rfl ?_
  refine jg_iload_n dX12_station_6 rfl ?_
  refine jg_iconst (v := nI 0) dX12_station_7 (by decide) ?_
  refine jg_aload_n dX12_station_8 rfl ?_
  refine rs_ga fl_X12_13 dX12_station_9 hr rfl ?_
  refine jg_sipush (v := nI 179) dX12_station_12 (by decide) ?_
  refine rs_lwD (s := (pN s 0 (nI 0))) (i := (nI 179)) dX12_station_15 hr (by decide) ?_
  refine jg_iconst (v := nI 1) dX12_station_16 (by decide) ?_
  refine jg_isub (x := (gW (pN s 0 (nI 0)) (nI 179))) (y := (nI 1)) dX12_station_17  ?_
  obtain ⟨x1, e_x1, h⟩ := bd_some h
  refine rs_callS (As := [.int a1, .int (nI 0), .int ((gW (pN s 0 (nI 0)) (nI 179)) - (nI 1))]) ks_X12_49 dX12_station_18 rfl (by decide) (Nat.le_of_ble_eq_true rfl) rfl (by decide) (Nat.le_of_ble_eq_true rfl) (t_X12_in hr (pN s 0 (nI 0)) a1 (nI 0) ((gW (pN s 0 (nI 0)) (nI 179)) - (nI 1)) e_x1) ?_
  refine jg_if_eq (x := x1) (tgt := 48) dX12_station_21 (by decide) (fun c2 => ?_) (fun c2 => ?_)
  · replace h := it_t c2 h
    refine jg_iconst (v := nI 1) dX12_station_48 (by decide) ?_
    refine jg_goto (tgt := 53) dX12_station_49 (by decide) ?_
    refine jg_iconst (v := nI 1) dX12_station_53 (by decide) ?_
    refine rs_call (As := [.int (nI 1), .int (nI 1)]) kv_X12_69 dX12_station_54 hr rfl rfl (by decide) (Nat.le_of_ble_eq_true rfl) rfl (by decide) (Nat.le_of_ble_eq_true rfl) (t_X12_throwsIf hr (pN s 0 (nI 0)) (nI 1) (nI 1) (o_thr1 (pN s 0 (nI 0)) (nI 1))) ?_
    refine jg_if_eq (x := (nI 1)) (tgt := 62) dX12_station_57 (by decide) (fun q9 => absurd q9 (by decide)) (fun _ => ?_)
    refine jg_iconst (v := nI 0) dX12_station_60 (by decide) ?_
    obtain rfl := Option.some.inj h
    exact jg_zreturn dX12_station_61 rfl (rfl) ⟨rfl, rfl⟩
  · replace h := it_f c2 h
    refine jg_iload_n dX12_station_24 rfl ?_
    refine jg_iconst (v := (-1)) dX12_station_25 (by decide) ?_
    refine jg_icmp_eq (x := a2) (y := (-1)) (tgt := 36) dX12_station_26 (by decide) (fun c3 => ?_) (fun c3 => ?_)
    · replace h := it_t c3 h
      refine jg_iload_n dX12_station_36 rfl ?_
      refine jg_iconst (v := (-1)) dX12_station_37 (by decide) ?_
      refine jg_icmp_eq (x := a3) (y := (-1)) (tgt := 52) dX12_station_38 (by decide) (fun c4 => ?_) (fun c4 => ?_)
      · replace h := it_t c4 h
        refine jg_iconst (v := nI 0) dX12_station_52 (by decide) ?_
        refine jg_iconst (v := nI 1) dX12_station_53 (by decide) ?_
        refine rs_call (As := [.int (nI 0), .int (nI 1)]) kv_X12_69 dX12_station_54 hr rfl rfl (by decide) (Nat.le_of_ble_eq_true rfl) rfl (by decide) (Nat.le_of_ble_eq_true rfl) (t_X12_throwsIf hr (pN s 0 (nI 0)) (nI 0) (nI 1) (o_thr0 (pN s 0 (nI 0)) (nI 1))) ?_
        refine jg_if_eq (x := (nI 0)) (tgt := 62) dX12_station_57 (by decide) (fun _ => ?_) (fun q9 => absurd q9 (by decide))
        refine jg_sipush (v := nI 180) dX12_station_62 (by decide) ?_
        refine jg_iconst (v := nI 3) dX12_station_65 (by decide) ?_
        refine jg_iload_n dX12_station_66 rfl ?_
        refine jg_imul (x := (nI 3)) (y := a1) dX12_station_67  ?_
        refine jg_iadd (x := (nI 180)) (y := ((nI 3) * a1)) dX12_station_68  ?_
        refine jg_istore (L' := [some (.ref r), some (.int a1), some (.int a2), some (.int a3), some (.int ((nI 180) + ((nI 3) * a1))), none]) dX12_station_69 (by decide) rfl ?_
        refine jg_aload_n dX12_station_71 rfl ?_
        refine rs_ga fl_X12_13 dX12_station_72 hr rfl ?_
        refine jg_iload dX12_station_75 rfl ?_
        refine jg_iconst (v := nI 1) dX12_station_77 (by decide) ?_
        refine jg_iadd (x := ((nI 180) + ((nI 3) * a1))) (y := (nI 1)) dX12_station_78  ?_
        obtain ⟨q5, h⟩ := gd_some h
        refine rs_lwD (s := (pN s 0 (nI 0))) (i := (((nI 180) + ((nI 3) * a1)) + (nI 1))) dX12_station_79 hr q5 ?_
        refine jg_iload_n dX12_station_80 rfl ?_
        refine jg_icmp_ne (x := (gW (pN s 0 (nI 0)) (((nI 180) + ((nI 3) * a1)) + (nI 1)))) (y := a2) (tgt := 97) dX12_station_81 (by decide) (fun c6 => ?_) (fun c6 => ?_)
        · replace h := it_f c6 h
          refine jg_iconst (v := nI 1) dX12_station_97 (by decide) ?_
          refine jg_goto (tgt := 102) dX12_station_98 (by decide) ?_
          refine jg_istore (L' := [some (.ref r), some (.int a1), some (.int a2), some (.int a3), some (.int ((nI 180) + ((nI 3) * a1))), some (.int (nI 1))]) dX12_station_102 (by decide) rfl ?_
          refine jg_aload_n dX12_station_104 rfl ?_
          refine rs_ga fl_X12_13 dX12_station_105 hr rfl ?_
          refine jg_iload dX12_station_108 rfl ?_
          refine jg_iconst (v := nI 1) dX12_station_110 (by decide) ?_
          refine jg_iadd (x := ((nI 180) + ((nI 3) * a1))) (y := (nI 1)) dX12_station_111  ?_
          refine jg_iload_n dX12_station_112 rfl ?_
          refine rs_swD (s := (pN s 0 (nI 0))) (i := (((nI 180) + ((nI 3) * a1)) + (nI 1))) (x := a2) dX12_station_113 hr q5 ?_
          refine jg_aload_n dX12_station_114 rfl ?_
          refine rs_ga fl_X12_13 dX12_station_115 hr rfl ?_
          refine jg_iload dX12_station_118 rfl ?_
          refine jg_iconst (v := nI 2) dX12_station_120 (by decide) ?_
          refine jg_iadd (x := ((nI 180) + ((nI 3) * a1))) (y := (nI 2)) dX12_station_121  ?_
          refine jg_iload_n dX12_station_122 rfl ?_
          obtain ⟨q7, h⟩ := gd_some h
          refine rs_swD (s := (pW (pN s 0 (nI 0)) (((nI 180) + ((nI 3) * a1)) + (nI 1)) a2)) (i := (((nI 180) + ((nI 3) * a1)) + (nI 2))) (x := a3) dX12_station_123 hr q7 ?_
          refine jg_iload dX12_station_124 rfl ?_
          obtain rfl := Option.some.inj h
          exact jg_zreturn dX12_station_126 rfl (rfl) ⟨rfl, rfl⟩
        · replace h := it_t c6 h
          refine jg_aload_n dX12_station_84 rfl ?_
          refine rs_ga fl_X12_13 dX12_station_85 hr rfl ?_
          refine jg_iload dX12_station_88 rfl ?_
          refine jg_iconst (v := nI 2) dX12_station_90 (by decide) ?_
          refine jg_iadd (x := ((nI 180) + ((nI 3) * a1))) (y := (nI 2)) dX12_station_91  ?_
          obtain ⟨q8, h⟩ := gd_some h
          refine rs_lwD (s := (pN s 0 (nI 0))) (i := (((nI 180) + ((nI 3) * a1)) + (nI 2))) dX12_station_92 hr q8 ?_
          refine jg_iload_n dX12_station_93 rfl ?_
          refine jg_icmp_eq (x := (gW (pN s 0 (nI 0)) (((nI 180) + ((nI 3) * a1)) + (nI 2)))) (y := a3) (tgt := 101) dX12_station_94 (by decide) (fun c9 => ?_) (fun c9 => ?_)
          · replace h := it_t c9 h
            refine jg_iconst (v := nI 0) dX12_station_101 (by decide) ?_
            refine jg_istore (L' := [some (.ref r), some (.int a1), some (.int a2), some (.int a3), some (.int ((nI 180) + ((nI 3) * a1))), some (.int (nI 0))]) dX12_station_102 (by decide) rfl ?_
            refine jg_aload_n dX12_station_104 rfl ?_
            refine rs_ga fl_X12_13 dX12_station_105 hr rfl ?_
            refine jg_iload dX12_station_108 rfl ?_
            refine jg_iconst (v := nI 1) dX12_station_110 (by decide) ?_
            refine jg_iadd (x := ((nI 180) + ((nI 3) * a1))) (y := (nI 1)) dX12_station_111  ?_
            refine jg_iload_n dX12_station_112 rfl ?_
            refine rs_swD (s := (pN s 0 (nI 0))) (i := (((nI 180) + ((nI 3) * a1)) + (nI 1))) (x := a2) dX12_station_113 hr q5 ?_
            refine jg_aload_n dX12_station_114 rfl ?_
            refine rs_ga fl_X12_13 dX12_station_115 hr rfl ?_
            refine jg_iload dX12_station_118 rfl ?_
            refine jg_iconst (v := nI 2) dX12_station_120 (by decide) ?_
            refine jg_iadd (x := ((nI 180) + ((nI 3) * a1))) (y := (nI 2)) dX12_station_121  ?_
            refine jg_iload_n dX12_station_122 rfl ?_
            refine rs_swD (s := (pW (pN s 0 (nI 0)) (((nI 180) + ((nI 3) * a1)) + (nI 1)) a2)) (i := (((nI 180) + ((nI 3) * a1)) + (nI 2))) (x := a3) dX12_station_123 hr q8 ?_
            refine jg_iload dX12_station_124 rfl ?_
            obtain rfl := Option.some.inj h
            exact jg_zreturn dX12_station_126 rfl (rfl) ⟨rfl, rfl⟩
          · replace h := it_f c9 h
            refine jg_iconst (v := nI 1) dX12_station_97 (by decide) ?_
            refine jg_goto (tgt := 102) dX12_station_98 (by decide) ?_
            refine jg_istore (L' := [some (.ref r), some (.int a1), some (.int a2), some (.int a3), some (.int ((nI 180) + ((nI 3) * a1))), some (.int (nI 1))]) dX12_station_102 (by decide) rfl ?_
            refine jg_aload_n dX12_station_104 rfl ?_
            refine rs_ga fl_X12_13 dX12_station_105 hr rfl ?_
            refine jg_iload dX12_station_108 rfl ?_
            refine jg_iconst (v := nI 1) dX12_station_110 (by decide) ?_
            refine jg_iadd (x := ((nI 180) + ((nI 3) * a1))) (y := (nI 1)) dX12_station_111  ?_
            refine jg_iload_n dX12_station_112 rfl ?_
            refine rs_swD (s := (pN s 0 (nI 0))) (i := (((nI 180) + ((nI 3) * a1)) + (nI 1))) (x := a2) dX12_station_113 hr q5 ?_
            refine jg_aload_n dX12_station_114 rfl ?_
            refine rs_ga fl_X12_13 dX12_station_115 hr rfl ?_
            refine jg_iload dX12_station_118 rfl ?_
            refine jg_iconst (v := nI 2) dX12_station_120 (by decide) ?_
            refine jg_iadd (x := ((nI 180) + ((nI 3) * a1))) (y := (nI 2)) dX12_station_121  ?_
            refine jg_iload_n dX12_station_122 rfl ?_
            refine rs_swD (s := (pW (pN s 0 (nI 0)) (((nI 180) + ((nI 3) * a1)) + (nI 1)) a2)) (i := (((nI 180) + ((nI 3) * a1)) + (nI 2))) (x := a3) dX12_station_123 hr q8 ?_
            refine jg_iload dX12_station_124 rfl ?_
            obtain rfl := Option.some.inj h
            exact jg_zreturn dX12_station_126 rfl (rfl) ⟨rfl, rfl⟩
      · replace h := it_f c4 h
        refine jg_iload_n dX12_station_41 rfl ?_
        obtain ⟨x10, e_x10, h⟩ := bd_some h
        refine rs_callS (As := [.int a3]) ks_X12_65 dX12_station_42 rfl (by decide) (Nat.le_of_ble_eq_true rfl) rfl (by decide) (Nat.le_of_ble_eq_true rfl) (t_X12_noCell hr (pN s 0 (nI 0)) a3 e_x10) ?_
        refine jg_if_eq (x := x10) (tgt := 52) dX12_station_45 (by decide) (fun c11 => ?_) (fun c11 => ?_)
        · replace h := it_t c11 h
          refine jg_iconst (v := nI 0) dX12_station_52 (by decide) ?_
          refine jg_iconst (v := nI 1) dX12_station_53 (by decide) ?_
          refine rs_call (As := [.int (nI 0), .int (nI 1)]) kv_X12_69 dX12_station_54 hr rfl rfl (by decide) (Nat.le_of_ble_eq_true rfl) rfl (by decide) (Nat.le_of_ble_eq_true rfl) (t_X12_throwsIf hr (pN s 0 (nI 0)) (nI 0) (nI 1) (o_thr0 (pN s 0 (nI 0)) (nI 1))) ?_
          refine jg_if_eq (x := (nI 0)) (tgt := 62) dX12_station_57 (by decide) (fun _ => ?_) (fun q9 => absurd q9 (by decide))
          refine jg_sipush (v := nI 180) dX12_station_62 (by decide) ?_
          refine jg_iconst (v := nI 3) dX12_station_65 (by decide) ?_
          refine jg_iload_n dX12_station_66 rfl ?_
          refine jg_imul (x := (nI 3)) (y := a1) dX12_station_67  ?_
          refine jg_iadd (x := (nI 180)) (y := ((nI 3) * a1)) dX12_station_68  ?_
          refine jg_istore (L' := [some (.ref r), some (.int a1), some (.int a2), some (.int a3), some (.int ((nI 180) + ((nI 3) * a1))), none]) dX12_station_69 (by decide) rfl ?_
          refine jg_aload_n dX12_station_71 rfl ?_
          refine rs_ga fl_X12_13 dX12_station_72 hr rfl ?_
          refine jg_iload dX12_station_75 rfl ?_
          refine jg_iconst (v := nI 1) dX12_station_77 (by decide) ?_
          refine jg_iadd (x := ((nI 180) + ((nI 3) * a1))) (y := (nI 1)) dX12_station_78  ?_
          obtain ⟨q12, h⟩ := gd_some h
          refine rs_lwD (s := (pN s 0 (nI 0))) (i := (((nI 180) + ((nI 3) * a1)) + (nI 1))) dX12_station_79 hr q12 ?_
          refine jg_iload_n dX12_station_80 rfl ?_
          refine jg_icmp_ne (x := (gW (pN s 0 (nI 0)) (((nI 180) + ((nI 3) * a1)) + (nI 1)))) (y := a2) (tgt := 97) dX12_station_81 (by decide) (fun c13 => ?_) (fun c13 => ?_)
          · replace h := it_f c13 h
            refine jg_iconst (v := nI 1) dX12_station_97 (by decide) ?_
            refine jg_goto (tgt := 102) dX12_station_98 (by decide) ?_
            refine jg_istore (L' := [some (.ref r), some (.int a1), some (.int a2), some (.int a3), some (.int ((nI 180) + ((nI 3) * a1))), some (.int (nI 1))]) dX12_station_102 (by decide) rfl ?_
            refine jg_aload_n dX12_station_104 rfl ?_
            refine rs_ga fl_X12_13 dX12_station_105 hr rfl ?_
            refine jg_iload dX12_station_108 rfl ?_
            refine jg_iconst (v := nI 1) dX12_station_110 (by decide) ?_
            refine jg_iadd (x := ((nI 180) + ((nI 3) * a1))) (y := (nI 1)) dX12_station_111  ?_
            refine jg_iload_n dX12_station_112 rfl ?_
            refine rs_swD (s := (pN s 0 (nI 0))) (i := (((nI 180) + ((nI 3) * a1)) + (nI 1))) (x := a2) dX12_station_113 hr q12 ?_
            refine jg_aload_n dX12_station_114 rfl ?_
            refine rs_ga fl_X12_13 dX12_station_115 hr rfl ?_
            refine jg_iload dX12_station_118 rfl ?_
            refine jg_iconst (v := nI 2) dX12_station_120 (by decide) ?_
            refine jg_iadd (x := ((nI 180) + ((nI 3) * a1))) (y := (nI 2)) dX12_station_121  ?_
            refine jg_iload_n dX12_station_122 rfl ?_
            obtain ⟨q14, h⟩ := gd_some h
            refine rs_swD (s := (pW (pN s 0 (nI 0)) (((nI 180) + ((nI 3) * a1)) + (nI 1)) a2)) (i := (((nI 180) + ((nI 3) * a1)) + (nI 2))) (x := a3) dX12_station_123 hr q14 ?_
            refine jg_iload dX12_station_124 rfl ?_
            obtain rfl := Option.some.inj h
            exact jg_zreturn dX12_station_126 rfl (rfl) ⟨rfl, rfl⟩
          · replace h := it_t c13 h
            refine jg_aload_n dX12_station_84 rfl ?_
            refine rs_ga fl_X12_13 dX12_station_85 hr rfl ?_
            refine jg_iload dX12_station_88 rfl ?_
            refine jg_iconst (v := nI 2) dX12_station_90 (by decide) ?_
            refine jg_iadd (x := ((nI 180) + ((nI 3) * a1))) (y := (nI 2)) dX12_station_91  ?_
            obtain ⟨q15, h⟩ := gd_some h
            refine rs_lwD (s := (pN s 0 (nI 0))) (i := (((nI 180) + ((nI 3) * a1)) + (nI 2))) dX12_station_92 hr q15 ?_
            refine jg_iload_n dX12_station_93 rfl ?_
            refine jg_icmp_eq (x := (gW (pN s 0 (nI 0)) (((nI 180) + ((nI 3) * a1)) + (nI 2)))) (y := a3) (tgt := 101) dX12_station_94 (by decide) (fun c16 => ?_) (fun c16 => ?_)
            · replace h := it_t c16 h
              refine jg_iconst (v := nI 0) dX12_station_101 (by decide) ?_
              refine jg_istore (L' := [some (.ref r), some (.int a1), some (.int a2), some (.int a3), some (.int ((nI 180) + ((nI 3) * a1))), some (.int (nI 0))]) dX12_station_102 (by decide) rfl ?_
              refine jg_aload_n dX12_station_104 rfl ?_
              refine rs_ga fl_X12_13 dX12_station_105 hr rfl ?_
              refine jg_iload dX12_station_108 rfl ?_
              refine jg_iconst (v := nI 1) dX12_station_110 (by decide) ?_
              refine jg_iadd (x := ((nI 180) + ((nI 3) * a1))) (y := (nI 1)) dX12_station_111  ?_
              refine jg_iload_n dX12_station_112 rfl ?_
              refine rs_swD (s := (pN s 0 (nI 0))) (i := (((nI 180) + ((nI 3) * a1)) + (nI 1))) (x := a2) dX12_station_113 hr q12 ?_
              refine jg_aload_n dX12_station_114 rfl ?_
              refine rs_ga fl_X12_13 dX12_station_115 hr rfl ?_
              refine jg_iload dX12_station_118 rfl ?_
              refine jg_iconst (v := nI 2) dX12_station_120 (by decide) ?_
              refine jg_iadd (x := ((nI 180) + ((nI 3) * a1))) (y := (nI 2)) dX12_station_121  ?_
              refine jg_iload_n dX12_station_122 rfl ?_
              refine rs_swD (s := (pW (pN s 0 (nI 0)) (((nI 180) + ((nI 3) * a1)) + (nI 1)) a2)) (i := (((nI 180) + ((nI 3) * a1)) + (nI 2))) (x := a3) dX12_station_123 hr q15 ?_
              refine jg_iload dX12_station_124 rfl ?_
              obtain rfl := Option.some.inj h
              exact jg_zreturn dX12_station_126 rfl (rfl) ⟨rfl, rfl⟩
            · replace h := it_f c16 h
              refine jg_iconst (v := nI 1) dX12_station_97 (by decide) ?_
              refine jg_goto (tgt := 102) dX12_station_98 (by decide) ?_
              refine jg_istore (L' := [some (.ref r), some (.int a1), some (.int a2), some (.int a3), some (.int ((nI 180) + ((nI 3) * a1))), some (.int (nI 1))]) dX12_station_102 (by decide) rfl ?_
              refine jg_aload_n dX12_station_104 rfl ?_
              refine rs_ga fl_X12_13 dX12_station_105 hr rfl ?_
              refine jg_iload dX12_station_108 rfl ?_
              refine jg_iconst (v := nI 1) dX12_station_110 (by decide) ?_
              refine jg_iadd (x := ((nI 180) + ((nI 3) * a1))) (y := (nI 1)) dX12_station_111  ?_
              refine jg_iload_n dX12_station_112 rfl ?_
              refine rs_swD (s := (pN s 0 (nI 0))) (i := (((nI 180) + ((nI 3) * a1)) + (nI 1))) (x := a2) dX12_station_113 hr q12 ?_
              refine jg_aload_n dX12_station_114 rfl ?_
              refine rs_ga fl_X12_13 dX12_station_115 hr rfl ?_
              refine jg_iload dX12_station_118 rfl ?_
              refine jg_iconst (v := nI 2) dX12_station_120 (by decide) ?_
              refine jg_iadd (x := ((nI 180) + ((nI 3) * a1))) (y := (nI 2)) dX12_station_121  ?_
              refine jg_iload_n dX12_station_122 rfl ?_
              refine rs_swD (s := (pW (pN s 0 (nI 0)) (((nI 180) + ((nI 3) * a1)) + (nI 1)) a2)) (i := (((nI 180) + ((nI 3) * a1)) + (nI 2))) (x := a3) dX12_station_123 hr q15 ?_
              refine jg_iload dX12_station_124 rfl ?_
              obtain rfl := Option.some.inj h
              exact jg_zreturn dX12_station_126 rfl (rfl) ⟨rfl, rfl⟩
        · replace h := it_f c11 h
          refine jg_iconst (v := nI 1) dX12_station_48 (by decide) ?_
          refine jg_goto (tgt := 53) dX12_station_49 (by decide) ?_
          refine jg_iconst (v := nI 1) dX12_station_53 (by decide) ?_
          refine rs_call (As := [.int (nI 1), .int (nI 1)]) kv_X12_69 dX12_station_54 hr rfl rfl (by decide) (Nat.le_of_ble_eq_true rfl) rfl (by decide) (Nat.le_of_ble_eq_true rfl) (t_X12_throwsIf hr (pN s 0 (nI 0)) (nI 1) (nI 1) (o_thr1 (pN s 0 (nI 0)) (nI 1))) ?_
          refine jg_if_eq (x := (nI 1)) (tgt := 62) dX12_station_57 (by decide) (fun q9 => absurd q9 (by decide)) (fun _ => ?_)
          refine jg_iconst (v := nI 0) dX12_station_60 (by decide) ?_
          obtain rfl := Option.some.inj h
          exact jg_zreturn dX12_station_61 rfl (rfl) ⟨rfl, rfl⟩
    · replace h := it_f c3 h
      refine jg_iload_n dX12_station_29 rfl ?_
      obtain ⟨x17, e_x17, h⟩ := bd_some h
      refine rs_callS (As := [.int a2]) ks_X12_65 dX12_station_30 rfl (by decide) (Nat.le_of_ble_eq_true rfl) rfl (by decide) (Nat.le_of_ble_eq_true rfl) (t_X12_noCell hr (pN s 0 (nI 0)) a2 e_x17) ?_
      refine jg_if_ne (x := x17) (tgt := 48) dX12_station_33 (by decide) (fun c18 => ?_) (fun c18 => ?_)
      · replace h := it_f c18 h
        refine jg_iconst (v := nI 1) dX12_station_48 (by decide) ?_
        refine jg_goto (tgt := 53) dX12_station_49 (by decide) ?_
        refine jg_iconst (v := nI 1) dX12_station_53 (by decide) ?_
        refine rs_call (As := [.int (nI 1), .int (nI 1)]) kv_X12_69 dX12_station_54 hr rfl rfl (by decide) (Nat.le_of_ble_eq_true rfl) rfl (by decide) (Nat.le_of_ble_eq_true rfl) (t_X12_throwsIf hr (pN s 0 (nI 0)) (nI 1) (nI 1) (o_thr1 (pN s 0 (nI 0)) (nI 1))) ?_
        refine jg_if_eq (x := (nI 1)) (tgt := 62) dX12_station_57 (by decide) (fun q9 => absurd q9 (by decide)) (fun _ => ?_)
        refine jg_iconst (v := nI 0) dX12_station_60 (by decide) ?_
        obtain rfl := Option.some.inj h
        exact jg_zreturn dX12_station_61 rfl (rfl) ⟨rfl, rfl⟩
      · replace h := it_t c18 h
        refine jg_iload_n dX12_station_36 rfl ?_
        refine jg_iconst (v := (-1)) dX12_station_37 (by decide) ?_
        refine jg_icmp_eq (x := a3) (y := (-1)) (tgt := 52) dX12_station_38 (by decide) (fun c19 => ?_) (fun c19 => ?_)
        · replace h := it_t c19 h
          refine jg_iconst (v := nI 0) dX12_station_52 (by decide) ?_
          refine jg_iconst (v := nI 1) dX12_station_53 (by decide) ?_
          refine rs_call (As := [.int (nI 0), .int (nI 1)]) kv_X12_69 dX12_station_54 hr rfl rfl (by decide) (Nat.le_of_ble_eq_true rfl) rfl (by decide) (Nat.le_of_ble_eq_true rfl) (t_X12_throwsIf hr (pN s 0 (nI 0)) (nI 0) (nI 1) (o_thr0 (pN s 0 (nI 0)) (nI 1))) ?_
          refine jg_if_eq (x := (nI 0)) (tgt := 62) dX12_station_57 (by decide) (fun _ => ?_) (fun q9 => absurd q9 (by decide))
          refine jg_sipush (v := nI 180) dX12_station_62 (by decide) ?_
          refine jg_iconst (v := nI 3) dX12_station_65 (by decide) ?_
          refine jg_iload_n dX12_station_66 rfl ?_
          refine jg_imul (x := (nI 3)) (y := a1) dX12_station_67  ?_
          refine jg_iadd (x := (nI 180)) (y := ((nI 3) * a1)) dX12_station_68  ?_
          refine jg_istore (L' := [some (.ref r), some (.int a1), some (.int a2), some (.int a3), some (.int ((nI 180) + ((nI 3) * a1))), none]) dX12_station_69 (by decide) rfl ?_
          refine jg_aload_n dX12_station_71 rfl ?_
          refine rs_ga fl_X12_13 dX12_station_72 hr rfl ?_
          refine jg_iload dX12_station_75 rfl ?_
          refine jg_iconst (v := nI 1) dX12_station_77 (by decide) ?_
          refine jg_iadd (x := ((nI 180) + ((nI 3) * a1))) (y := (nI 1)) dX12_station_78  ?_
          obtain ⟨q20, h⟩ := gd_some h
          refine rs_lwD (s := (pN s 0 (nI 0))) (i := (((nI 180) + ((nI 3) * a1)) + (nI 1))) dX12_station_79 hr q20 ?_
          refine jg_iload_n dX12_station_80 rfl ?_
          refine jg_icmp_ne (x := (gW (pN s 0 (nI 0)) (((nI 180) + ((nI 3) * a1)) + (nI 1)))) (y := a2) (tgt := 97) dX12_station_81 (by decide) (fun c21 => ?_) (fun c21 => ?_)
          · replace h := it_f c21 h
            refine jg_iconst (v := nI 1) dX12_station_97 (by decide) ?_
            refine jg_goto (tgt := 102) dX12_station_98 (by decide) ?_
            refine jg_istore (L' := [some (.ref r), some (.int a1), some (.int a2), some (.int a3), some (.int ((nI 180) + ((nI 3) * a1))), some (.int (nI 1))]) dX12_station_102 (by decide) rfl ?_
            refine jg_aload_n dX12_station_104 rfl ?_
            refine rs_ga fl_X12_13 dX12_station_105 hr rfl ?_
            refine jg_iload dX12_station_108 rfl ?_
            refine jg_iconst (v := nI 1) dX12_station_110 (by decide) ?_
            refine jg_iadd (x := ((nI 180) + ((nI 3) * a1))) (y := (nI 1)) dX12_station_111  ?_
            refine jg_iload_n dX12_station_112 rfl ?_
            refine rs_swD (s := (pN s 0 (nI 0))) (i := (((nI 180) + ((nI 3) * a1)) + (nI 1))) (x := a2) dX12_station_113 hr q20 ?_
            refine jg_aload_n dX12_station_114 rfl ?_
            refine rs_ga fl_X12_13 dX12_station_115 hr rfl ?_
            refine jg_iload dX12_station_118 rfl ?_
            refine jg_iconst (v := nI 2) dX12_station_120 (by decide) ?_
            refine jg_iadd (x := ((nI 180) + ((nI 3) * a1))) (y := (nI 2)) dX12_station_121  ?_
            refine jg_iload_n dX12_station_122 rfl ?_
            obtain ⟨q22, h⟩ := gd_some h
            refine rs_swD (s := (pW (pN s 0 (nI 0)) (((nI 180) + ((nI 3) * a1)) + (nI 1)) a2)) (i := (((nI 180) + ((nI 3) * a1)) + (nI 2))) (x := a3) dX12_station_123 hr q22 ?_
            refine jg_iload dX12_station_124 rfl ?_
            obtain rfl := Option.some.inj h
            exact jg_zreturn dX12_station_126 rfl (rfl) ⟨rfl, rfl⟩
          · replace h := it_t c21 h
            refine jg_aload_n dX12_station_84 rfl ?_
            refine rs_ga fl_X12_13 dX12_station_85 hr rfl ?_
            refine jg_iload dX12_station_88 rfl ?_
            refine jg_iconst (v := nI 2) dX12_station_90 (by decide) ?_
            refine jg_iadd (x := ((nI 180) + ((nI 3) * a1))) (y := (nI 2)) dX12_station_91  ?_
            obtain ⟨q23, h⟩ := gd_some h
            refine rs_lwD (s := (pN s 0 (nI 0))) (i := (((nI 180) + ((nI 3) * a1)) + (nI 2))) dX12_station_92 hr q23 ?_
            refine jg_iload_n dX12_station_93 rfl ?_
            refine jg_icmp_eq (x := (gW (pN s 0 (nI 0)) (((nI 180) + ((nI 3) * a1)) + (nI 2)))) (y := a3) (tgt := 101) dX12_station_94 (by decide) (fun c24 => ?_) (fun c24 => ?_)
            · replace h := it_t c24 h
              refine jg_iconst (v := nI 0) dX12_station_101 (by decide) ?_
              refine jg_istore (L' := [some (.ref r), some (.int a1), some (.int a2), some (.int a3), some (.int ((nI 180) + ((nI 3) * a1))), some (.int (nI 0))]) dX12_station_102 (by decide) rfl ?_
              refine jg_aload_n dX12_station_104 rfl ?_
              refine rs_ga fl_X12_13 dX12_station_105 hr rfl ?_
              refine jg_iload dX12_station_108 rfl ?_
              refine jg_iconst (v := nI 1) dX12_station_110 (by decide) ?_
              refine jg_iadd (x := ((nI 180) + ((nI 3) * a1))) (y := (nI 1)) dX12_station_111  ?_
              refine jg_iload_n dX12_station_112 rfl ?_
              refine rs_swD (s := (pN s 0 (nI 0))) (i := (((nI 180) + ((nI 3) * a1)) + (nI 1))) (x := a2) dX12_station_113 hr q20 ?_
              refine jg_aload_n dX12_station_114 rfl ?_
              refine rs_ga fl_X12_13 dX12_station_115 hr rfl ?_
              refine jg_iload dX12_station_118 rfl ?_
              refine jg_iconst (v := nI 2) dX12_station_120 (by decide) ?_
              refine jg_iadd (x := ((nI 180) + ((nI 3) * a1))) (y := (nI 2)) dX12_station_121  ?_
              refine jg_iload_n dX12_station_122 rfl ?_
              refine rs_swD (s := (pW (pN s 0 (nI 0)) (((nI 180) + ((nI 3) * a1)) + (nI 1)) a2)) (i := (((nI 180) + ((nI 3) * a1)) + (nI 2))) (x := a3) dX12_station_123 hr q23 ?_
              refine jg_iload dX12_station_124 rfl ?_
              obtain rfl := Option.some.inj h
              exact jg_zreturn dX12_station_126 rfl (rfl) ⟨rfl, rfl⟩
            · replace h := it_f c24 h
              refine jg_iconst (v := nI 1) dX12_station_97 (by decide) ?_
              refine jg_goto (tgt := 102) dX12_station_98 (by decide) ?_
              refine jg_istore (L' := [some (.ref r), some (.int a1), some (.int a2), some (.int a3), some (.int ((nI 180) + ((nI 3) * a1))), some (.int (nI 1))]) dX12_station_102 (by decide) rfl ?_
              refine jg_aload_n dX12_station_104 rfl ?_
              refine rs_ga fl_X12_13 dX12_station_105 hr rfl ?_
              refine jg_iload dX12_station_108 rfl ?_
              refine jg_iconst (v := nI 1) dX12_station_110 (by decide) ?_
              refine jg_iadd (x := ((nI 180) + ((nI 3) * a1))) (y := (nI 1)) dX12_station_111  ?_
              refine jg_iload_n dX12_station_112 rfl ?_
              refine rs_swD (s := (pN s 0 (nI 0))) (i := (((nI 180) + ((nI 3) * a1)) + (nI 1))) (x := a2) dX12_station_113 hr q20 ?_
              refine jg_aload_n dX12_station_114 rfl ?_
              refine rs_ga fl_X12_13 dX12_station_115 hr rfl ?_
              refine jg_iload dX12_station_118 rfl ?_
              refine jg_iconst (v := nI 2) dX12_station_120 (by decide) ?_
              refine jg_iadd (x := ((nI 180) + ((nI 3) * a1))) (y := (nI 2)) dX12_station_121  ?_
              refine jg_iload_n dX12_station_122 rfl ?_
              refine rs_swD (s := (pW (pN s 0 (nI 0)) (((nI 180) + ((nI 3) * a1)) + (nI 1)) a2)) (i := (((nI 180) + ((nI 3) * a1)) + (nI 2))) (x := a3) dX12_station_123 hr q23 ?_
              refine jg_iload dX12_station_124 rfl ?_
              obtain rfl := Option.some.inj h
              exact jg_zreturn dX12_station_126 rfl (rfl) ⟨rfl, rfl⟩
        · replace h := it_f c19 h
          refine jg_iload_n dX12_station_41 rfl ?_
          obtain ⟨x25, e_x25, h⟩ := bd_some h
          refine rs_callS (As := [.int a3]) ks_X12_65 dX12_station_42 rfl (by decide) (Nat.le_of_ble_eq_true rfl) rfl (by decide) (Nat.le_of_ble_eq_true rfl) (t_X12_noCell hr (pN s 0 (nI 0)) a3 e_x25) ?_
          refine jg_if_eq (x := x25) (tgt := 52) dX12_station_45 (by decide) (fun c26 => ?_) (fun c26 => ?_)
          · replace h := it_t c26 h
            refine jg_iconst (v := nI 0) dX12_station_52 (by decide) ?_
            refine jg_iconst (v := nI 1) dX12_station_53 (by decide) ?_
            refine rs_call (As := [.int (nI 0), .int (nI 1)]) kv_X12_69 dX12_station_54 hr rfl rfl (by decide) (Nat.le_of_ble_eq_true rfl) rfl (by decide) (Nat.le_of_ble_eq_true rfl) (t_X12_throwsIf hr (pN s 0 (nI 0)) (nI 0) (nI 1) (o_thr0 (pN s 0 (nI 0)) (nI 1))) ?_
            refine jg_if_eq (x := (nI 0)) (tgt := 62) dX12_station_57 (by decide) (fun _ => ?_) (fun q9 => absurd q9 (by decide))
            refine jg_sipush (v := nI 180) dX12_station_62 (by decide) ?_
            refine jg_iconst (v := nI 3) dX12_station_65 (by decide) ?_
            refine jg_iload_n dX12_station_66 rfl ?_
            refine jg_imul (x := (nI 3)) (y := a1) dX12_station_67  ?_
            refine jg_iadd (x := (nI 180)) (y := ((nI 3) * a1)) dX12_station_68  ?_
            refine jg_istore (L' := [some (.ref r), some (.int a1), some (.int a2), some (.int a3), some (.int ((nI 180) + ((nI 3) * a1))), none]) dX12_station_69 (by decide) rfl ?_
            refine jg_aload_n dX12_station_71 rfl ?_
            refine rs_ga fl_X12_13 dX12_station_72 hr rfl ?_
            refine jg_iload dX12_station_75 rfl ?_
            refine jg_iconst (v := nI 1) dX12_station_77 (by decide) ?_
            refine jg_iadd (x := ((nI 180) + ((nI 3) * a1))) (y := (nI 1)) dX12_station_78  ?_
            obtain ⟨q27, h⟩ := gd_some h
            refine rs_lwD (s := (pN s 0 (nI 0))) (i := (((nI 180) + ((nI 3) * a1)) + (nI 1))) dX12_station_79 hr q27 ?_
            refine jg_iload_n dX12_station_80 rfl ?_
            refine jg_icmp_ne (x := (gW (pN s 0 (nI 0)) (((nI 180) + ((nI 3) * a1)) + (nI 1)))) (y := a2) (tgt := 97) dX12_station_81 (by decide) (fun c28 => ?_) (fun c28 => ?_)
            · replace h := it_f c28 h
              refine jg_iconst (v := nI 1) dX12_station_97 (by decide) ?_
              refine jg_goto (tgt := 102) dX12_station_98 (by decide) ?_
              refine jg_istore (L' := [some (.ref r), some (.int a1), some (.int a2), some (.int a3), some (.int ((nI 180) + ((nI 3) * a1))), some (.int (nI 1))]) dX12_station_102 (by decide) rfl ?_
              refine jg_aload_n dX12_station_104 rfl ?_
              refine rs_ga fl_X12_13 dX12_station_105 hr rfl ?_
              refine jg_iload dX12_station_108 rfl ?_
              refine jg_iconst (v := nI 1) dX12_station_110 (by decide) ?_
              refine jg_iadd (x := ((nI 180) + ((nI 3) * a1))) (y := (nI 1)) dX12_station_111  ?_
              refine jg_iload_n dX12_station_112 rfl ?_
              refine rs_swD (s := (pN s 0 (nI 0))) (i := (((nI 180) + ((nI 3) * a1)) + (nI 1))) (x := a2) dX12_station_113 hr q27 ?_
              refine jg_aload_n dX12_station_114 rfl ?_
              refine rs_ga fl_X12_13 dX12_station_115 hr rfl ?_
              refine jg_iload dX12_station_118 rfl ?_
              refine jg_iconst (v := nI 2) dX12_station_120 (by decide) ?_
              refine jg_iadd (x := ((nI 180) + ((nI 3) * a1))) (y := (nI 2)) dX12_station_121  ?_
              refine jg_iload_n dX12_station_122 rfl ?_
              obtain ⟨q29, h⟩ := gd_some h
              refine rs_swD (s := (pW (pN s 0 (nI 0)) (((nI 180) + ((nI 3) * a1)) + (nI 1)) a2)) (i := (((nI 180) + ((nI 3) * a1)) + (nI 2))) (x := a3) dX12_station_123 hr q29 ?_
              refine jg_iload dX12_station_124 rfl ?_
              obtain rfl := Option.some.inj h
              exact jg_zreturn dX12_station_126 rfl (rfl) ⟨rfl, rfl⟩
            · replace h := it_t c28 h
              refine jg_aload_n dX12_station_84 rfl ?_
              refine rs_ga fl_X12_13 dX12_station_85 hr rfl ?_
              refine jg_iload dX12_station_88 rfl ?_
              refine jg_iconst (v := nI 2) dX12_station_90 (by decide) ?_
              refine jg_iadd (x := ((nI 180) + ((nI 3) * a1))) (y := (nI 2)) dX12_station_91  ?_
              obtain ⟨q30, h⟩ := gd_some h
              refine rs_lwD (s := (pN s 0 (nI 0))) (i := (((nI 180) + ((nI 3) * a1)) + (nI 2))) dX12_station_92 hr q30 ?_
              refine jg_iload_n dX12_station_93 rfl ?_
              refine jg_icmp_eq (x := (gW (pN s 0 (nI 0)) (((nI 180) + ((nI 3) * a1)) + (nI 2)))) (y := a3) (tgt := 101) dX12_station_94 (by decide) (fun c31 => ?_) (fun c31 => ?_)
              · replace h := it_t c31 h
                refine jg_iconst (v := nI 0) dX12_station_101 (by decide) ?_
                refine jg_istore (L' := [some (.ref r), some (.int a1), some (.int a2), some (.int a3), some (.int ((nI 180) + ((nI 3) * a1))), some (.int (nI 0))]) dX12_station_102 (by decide) rfl ?_
                refine jg_aload_n dX12_station_104 rfl ?_
                refine rs_ga fl_X12_13 dX12_station_105 hr rfl ?_
                refine jg_iload dX12_station_108 rfl ?_
                refine jg_iconst (v := nI 1) dX12_station_110 (by decide) ?_
                refine jg_iadd (x := ((nI 180) + ((nI 3) * a1))) (y := (nI 1)) dX12_station_111  ?_
                refine jg_iload_n dX12_station_112 rfl ?_
                refine rs_swD (s := (pN s 0 (nI 0))) (i := (((nI 180) + ((nI 3) * a1)) + (nI 1))) (x := a2) dX12_station_113 hr q27 ?_
                refine jg_aload_n dX12_station_114 rfl ?_
                refine rs_ga fl_X12_13 dX12_station_115 hr rfl ?_
                refine jg_iload dX12_station_118 rfl ?_
                refine jg_iconst (v := nI 2) dX12_station_120 (by decide) ?_
                refine jg_iadd (x := ((nI 180) + ((nI 3) * a1))) (y := (nI 2)) dX12_station_121  ?_
                refine jg_iload_n dX12_station_122 rfl ?_
                refine rs_swD (s := (pW (pN s 0 (nI 0)) (((nI 180) + ((nI 3) * a1)) + (nI 1)) a2)) (i := (((nI 180) + ((nI 3) * a1)) + (nI 2))) (x := a3) dX12_station_123 hr q30 ?_
                refine jg_iload dX12_station_124 rfl ?_
                obtain rfl := Option.some.inj h
                exact jg_zreturn dX12_station_126 rfl (rfl) ⟨rfl, rfl⟩
              · replace h := it_f c31 h
                refine jg_iconst (v := nI 1) dX12_station_97 (by decide) ?_
                refine jg_goto (tgt := 102) dX12_station_98 (by decide) ?_
                refine jg_istore (L' := [some (.ref r), some (.int a1), some (.int a2), some (.int a3), some (.int ((nI 180) + ((nI 3) * a1))), some (.int (nI 1))]) dX12_station_102 (by decide) rfl ?_
                refine jg_aload_n dX12_station_104 rfl ?_
                refine rs_ga fl_X12_13 dX12_station_105 hr rfl ?_
                refine jg_iload dX12_station_108 rfl ?_
                refine jg_iconst (v := nI 1) dX12_station_110 (by decide) ?_
                refine jg_iadd (x := ((nI 180) + ((nI 3) * a1))) (y := (nI 1)) dX12_station_111  ?_
                refine jg_iload_n dX12_station_112 rfl ?_
                refine rs_swD (s := (pN s 0 (nI 0))) (i := (((nI 180) + ((nI 3) * a1)) + (nI 1))) (x := a2) dX12_station_113 hr q27 ?_
                refine jg_aload_n dX12_station_114 rfl ?_
                refine rs_ga fl_X12_13 dX12_station_115 hr rfl ?_
                refine jg_iload dX12_station_118 rfl ?_
                refine jg_iconst (v := nI 2) dX12_station_120 (by decide) ?_
                refine jg_iadd (x := ((nI 180) + ((nI 3) * a1))) (y := (nI 2)) dX12_station_121  ?_
                refine jg_iload_n dX12_station_122 rfl ?_
                refine rs_swD (s := (pW (pN s 0 (nI 0)) (((nI 180) + ((nI 3) * a1)) + (nI 1)) a2)) (i := (((nI 180) + ((nI 3) * a1)) + (nI 2))) (x := a3) dX12_station_123 hr q30 ?_
                refine jg_iload dX12_station_124 rfl ?_
                obtain rfl := Option.some.inj h
                exact jg_zreturn dX12_station_126 rfl (rfl) ⟨rfl, rfl⟩
          · replace h := it_f c26 h
            refine jg_iconst (v := nI 1) dX12_station_48 (by decide) ?_
            refine jg_goto (tgt := 53) dX12_station_49 (by decide) ?_
            refine jg_iconst (v := nI 1) dX12_station_53 (by decide) ?_
            refine rs_call (As := [.int (nI 1), .int (nI 1)]) kv_X12_69 dX12_station_54 hr rfl rfl (by decide) (Nat.le_of_ble_eq_true rfl) rfl (by decide) (Nat.le_of_ble_eq_true rfl) (t_X12_throwsIf hr (pN s 0 (nI 0)) (nI 1) (nI 1) (o_thr1 (pN s 0 (nI 0)) (nI 1))) ?_
            refine jg_if_eq (x := (nI 1)) (tgt := 62) dX12_station_57 (by decide) (fun q9 => absurd q9 (by decide)) (fun _ => ?_)
            refine jg_iconst (v := nI 0) dX12_station_60 (by decide) ?_
            obtain rfl := Option.some.inj h
            exact jg_zreturn dX12_station_61 rfl (rfl) ⟨rfl, rfl⟩
theorem dX12_sound_0 : decode cX12_sound 0 = .ok (.aload_n 0, 1) := by decide +kernel
theorem dX12_sound_1 : decode cX12_sound 1 = .ok (.iconst 0, 1) := by decide +kernel
theorem dX12_sound_2 : decode cX12_sound 2 = .ok (.putfield 3, 3) := by decide +kernel
theorem dX12_sound_5 : decode cX12_sound 5 = .ok (.aload_n 0, 1) := by decide +kernel
theorem dX12_sound_6 : decode cX12_sound 6 = .ok (.iload_n 1, 1) := by decide +kernel
theorem dX12_sound_7 : decode cX12_sound 7 = .ok (.invokestatic 65, 3) := by decide +kernel
theorem dX12_sound_10 : decode cX12_sound 10 = .ok (.iconst 1, 1) := by decide +kernel
theorem dX12_sound_11 : decode cX12_sound 11 = .ok (.invokevirtual 69, 3) := by decide +kernel
theorem dX12_sound_14 : decode cX12_sound 14 = .ok (.ifCond .ne 39, 3) := by decide +kernel
theorem dX12_sound_17 : decode cX12_sound 17 = .ok (.aload_n 0, 1) := by decide +kernel
theorem dX12_sound_18 : decode cX12_sound 18 = .ok (.iload_n 2, 1) := by decide +kernel
theorem dX12_sound_19 : decode cX12_sound 19 = .ok (.iconst 0, 1) := by decide +kernel
theorem dX12_sound_20 : decode cX12_sound 20 = .ok (.aload_n 0, 1) := by decide +kernel
theorem dX12_sound_21 : decode cX12_sound 21 = .ok (.invokevirtual 77, 3) := by decide +kernel
theorem dX12_sound_24 : decode cX12_sound 24 = .ok (.invokestatic 49, 3) := by decide +kernel
theorem dX12_sound_27 : decode cX12_sound 27 = .ok (.ifCond .eq 14, 3) := by decide +kernel
theorem dX12_sound_30 : decode cX12_sound 30 = .ok (.iload_n 3, 1) := by decide +kernel
theorem dX12_sound_31 : decode cX12_sound 31 = .ok (.iconst 0, 1) := by decide +kernel
theorem dX12_sound_32 : decode cX12_sound 32 = .ok (.sipush 250, 3) := by decide +kernel
theorem dX12_sound_35 : decode cX12_sound 35 = .ok (.invokestatic 49, 3) := by decide +kernel
theorem dX12_sound_38 : decode cX12_sound 38 = .ok (.ifCond .ne 7, 3) := by decide +kernel
theorem dX12_sound_41 : decode cX12_sound 41 = .ok (.iconst 1, 1) := by decide +kernel
theorem dX12_sound_42 : decode cX12_sound 42 = .ok (.goto 4, 3) := by decide +kernel
theorem dX12_sound_45 : decode cX12_sound 45 = .ok (.iconst 0, 1) := by decide +kernel
theorem dX12_sound_46 : decode cX12_sound 46 = .ok (.iconst 2, 1) := by decide +kernel
theorem dX12_sound_47 : decode cX12_sound 47 = .ok (.invokevirtual 69, 3) := by decide +kernel
theorem dX12_sound_50 : decode cX12_sound 50 = .ok (.ifCond .eq 5, 3) := by decide +kernel
theorem dX12_sound_53 : decode cX12_sound 53 = .ok (.iconst 0, 1) := by decide +kernel
theorem dX12_sound_54 : decode cX12_sound 54 = .ok (.ireturn, 1) := by decide +kernel
theorem dX12_sound_55 : decode cX12_sound 55 = .ok (.aload_n 0, 1) := by decide +kernel
theorem dX12_sound_56 : decode cX12_sound 56 = .ok (.getfield 13, 3) := by decide +kernel
theorem dX12_sound_59 : decode cX12_sound 59 = .ok (.sipush 198, 3) := by decide +kernel
theorem dX12_sound_62 : decode cX12_sound 62 = .ok (.iaload, 1) := by decide +kernel
theorem dX12_sound_63 : decode cX12_sound 63 = .ok (.istore 4, 2) := by decide +kernel
theorem dX12_sound_65 : decode cX12_sound 65 = .ok (.iload 4, 2) := by decide +kernel
theorem dX12_sound_67 : decode cX12_sound 67 = .ok (.sipush 200, 3) := by decide +kernel
theorem dX12_sound_70 : decode cX12_sound 70 = .ok (.if_icmp .ne 5, 3) := by decide +kernel
theorem dX12_sound_73 : decode cX12_sound 73 = .ok (.iconst (-1), 1) := by decide +kernel
theorem dX12_sound_74 : decode cX12_sound 74 = .ok (.ireturn, 1) := by decide +kernel
theorem dX12_sound_75 : decode cX12_sound 75 = .ok (.aload_n 0, 1) := by decide +kernel
theorem dX12_sound_76 : decode cX12_sound 76 = .ok (.getfield 13, 3) := by decide +kernel
theorem dX12_sound_79 : decode cX12_sound 79 = .ok (.sipush 199, 3) := by decide +kernel
theorem dX12_sound_82 : decode cX12_sound 82 = .ok (.iconst 4, 1) := by decide +kernel
theorem dX12_sound_83 : decode cX12_sound 83 = .ok (.iload 4, 2) := by decide +kernel
theorem dX12_sound_85 : decode cX12_sound 85 = .ok (.imul, 1) := by decide +kernel
theorem dX12_sound_86 : decode cX12_sound 86 = .ok (.iadd, 1) := by decide +kernel
theorem dX12_sound_87 : decode cX12_sound 87 = .ok (.iload_n 1, 1) := by decide +kernel
theorem dX12_sound_88 : decode cX12_sound 88 = .ok (.iastore, 1) := by decide +kernel
theorem dX12_sound_89 : decode cX12_sound 89 = .ok (.aload_n 0, 1) := by decide +kernel
theorem dX12_sound_90 : decode cX12_sound 90 = .ok (.getfield 13, 3) := by decide +kernel
theorem dX12_sound_93 : decode cX12_sound 93 = .ok (.sipush 199, 3) := by decide +kernel
theorem dX12_sound_96 : decode cX12_sound 96 = .ok (.iconst 4, 1) := by decide +kernel
theorem dX12_sound_97 : decode cX12_sound 97 = .ok (.iload 4, 2) := by decide +kernel
theorem dX12_sound_99 : decode cX12_sound 99 = .ok (.imul, 1) := by decide +kernel
theorem dX12_sound_100 : decode cX12_sound 100 = .ok (.iadd, 1) := by decide +kernel
theorem dX12_sound_101 : decode cX12_sound 101 = .ok (.iconst 1, 1) := by decide +kernel
theorem dX12_sound_102 : decode cX12_sound 102 = .ok (.iadd, 1) := by decide +kernel
theorem dX12_sound_103 : decode cX12_sound 103 = .ok (.iload_n 2, 1) := by decide +kernel
theorem dX12_sound_104 : decode cX12_sound 104 = .ok (.iastore, 1) := by decide +kernel
theorem dX12_sound_105 : decode cX12_sound 105 = .ok (.aload_n 0, 1) := by decide +kernel
theorem dX12_sound_106 : decode cX12_sound 106 = .ok (.getfield 13, 3) := by decide +kernel
theorem dX12_sound_109 : decode cX12_sound 109 = .ok (.sipush 199, 3) := by decide +kernel
theorem dX12_sound_112 : decode cX12_sound 112 = .ok (.iconst 4, 1) := by decide +kernel
theorem dX12_sound_113 : decode cX12_sound 113 = .ok (.iload 4, 2) := by decide +kernel
theorem dX12_sound_115 : decode cX12_sound 115 = .ok (.imul, 1) := by decide +kernel
theorem dX12_sound_116 : decode cX12_sound 116 = .ok (.iadd, 1) := by decide +kernel
theorem dX12_sound_117 : decode cX12_sound 117 = .ok (.iconst 2, 1) := by decide +kernel
theorem dX12_sound_118 : decode cX12_sound 118 = .ok (.iadd, 1) := by decide +kernel
theorem dX12_sound_119 : decode cX12_sound 119 = .ok (.iload_n 3, 1) := by decide +kernel
theorem dX12_sound_120 : decode cX12_sound 120 = .ok (.iastore, 1) := by decide +kernel
theorem dX12_sound_121 : decode cX12_sound 121 = .ok (.aload_n 0, 1) := by decide +kernel
theorem dX12_sound_122 : decode cX12_sound 122 = .ok (.getfield 13, 3) := by decide +kernel
theorem dX12_sound_125 : decode cX12_sound 125 = .ok (.sipush 199, 3) := by decide +kernel
theorem dX12_sound_128 : decode cX12_sound 128 = .ok (.iconst 4, 1) := by decide +kernel
theorem dX12_sound_129 : decode cX12_sound 129 = .ok (.iload 4, 2) := by decide +kernel
theorem dX12_sound_131 : decode cX12_sound 131 = .ok (.imul, 1) := by decide +kernel
theorem dX12_sound_132 : decode cX12_sound 132 = .ok (.iadd, 1) := by decide +kernel
theorem dX12_sound_133 : decode cX12_sound 133 = .ok (.iconst 3, 1) := by decide +kernel
theorem dX12_sound_134 : decode cX12_sound 134 = .ok (.iadd, 1) := by decide +kernel
theorem dX12_sound_135 : decode cX12_sound 135 = .ok (.aload_n 0, 1) := by decide +kernel
theorem dX12_sound_136 : decode cX12_sound 136 = .ok (.invokevirtual 73, 3) := by decide +kernel
theorem dX12_sound_139 : decode cX12_sound 139 = .ok (.iastore, 1) := by decide +kernel
theorem dX12_sound_140 : decode cX12_sound 140 = .ok (.aload_n 0, 1) := by decide +kernel
theorem dX12_sound_141 : decode cX12_sound 141 = .ok (.getfield 13, 3) := by decide +kernel
theorem dX12_sound_144 : decode cX12_sound 144 = .ok (.sipush 198, 3) := by decide +kernel
theorem dX12_sound_147 : decode cX12_sound 147 = .ok (.dup2, 1) := by decide +kernel
theorem dX12_sound_148 : decode cX12_sound 148 = .ok (.iaload, 1) := by decide +kernel
theorem dX12_sound_149 : decode cX12_sound 149 = .ok (.iconst 1, 1) := by decide +kernel
theorem dX12_sound_150 : decode cX12_sound 150 = .ok (.iadd, 1) := by decide +kernel
theorem dX12_sound_151 : decode cX12_sound 151 = .ok (.iastore, 1) := by decide +kernel
theorem dX12_sound_152 : decode cX12_sound 152 = .ok (.iload 4, 2) := by decide +kernel
theorem dX12_sound_154 : decode cX12_sound 154 = .ok (.ireturn, 1) := by decide +kernel
noncomputable def o_X12_sound (s : rs_S) (a1 : Int32) (a2 : Int32) (a3 : Int32) : Option (Int32 × rs_S) := (o_X12_noCell (pN s 0 (nI 0)) a1).bind fun x1 => ((o_X12_throwsIf (pN s 0 (nI 0)) x1 (nI 1)).bind fun x2 => (if x2.1 = 0 then ((o_X12_today x2.2).bind fun x4 => ((o_X12_in x2.2 a2 (nI 0) x4).bind fun x5 => (if x5 = 0 then (some (nI 0, pN x2.2 0 (nI 2))) else ((o_X12_in x2.2 a3 (nI 0) (nI 250)).bind fun x7 => (if x7 = 0 then (some (nI 0, pN x2.2 0 (nI 2))) else (if (gW x2.2 (nI 198)) = (nI 200) then (some ((-1), x2.2)) else (if iL ((nI 199) + ((nI 4) * (gW x2.2 (nI 198)))) 22216 then (if iL (((nI 199) + ((nI 4) * (gW x2.2 (nI 198)))) + (nI 1)) 22216 then (if iL (((nI 199) + ((nI 4) * (gW x2.2 (nI 198)))) + (nI 2)) 22216 then ((o_X12_hour (pW (pW (pW x2.2 ((nI 199) + ((nI 4) * (gW x2.2 (nI 198)))) a1) (((nI 199) + ((nI 4) * (gW x2.2 (nI 198)))) + (nI 1)) a2) (((nI 199) + ((nI 4) * (gW x2.2 (nI 198)))) + (nI 2)) a3)).bind fun x13 => (if iL (((nI 199) + ((nI 4) * (gW x2.2 (nI 198)))) + (nI 3)) 22216 then (some (gW x2.2 (nI 198), pW (pW (pW (pW (pW x2.2 ((nI 199) + ((nI 4) * (gW x2.2 (nI 198)))) a1) (((nI 199) + ((nI 4) * (gW x2.2 (nI 198)))) + (nI 1)) a2) (((nI 199) + ((nI 4) * (gW x2.2 (nI 198)))) + (nI 2)) a3) (((nI 199) + ((nI 4) * (gW x2.2 (nI 198)))) + (nI 3)) x13) (nI 198) ((gW (pW (pW (pW (pW x2.2 ((nI 199) + ((nI 4) * (gW x2.2 (nI 198)))) a1) (((nI 199) + ((nI 4) * (gW x2.2 (nI 198)))) + (nI 1)) a2) (((nI 199) + ((nI 4) * (gW x2.2 (nI 198)))) + (nI 2)) a3) (((nI 199) + ((nI 4) * (gW x2.2 (nI 198)))) + (nI 3)) x13) (nI 198)) + (nI 1)))) else none)) else none) else none) else none))))))) else (some (nI 0, x2.2))))
set_option maxHeartbeats 4000000 in
theorem t_X12_sound {Γ : jg_G} {g : Nat → jg_C} {n r : Nat} (hr : r + 11 ≤ n) (s : rs_S) (a1 : Int32) (a2 : Int32) (a3 : Int32)  {x : Int32 × rs_S} (h : o_X12_sound s a1 a2 a3 = some x) : jc Γ mX12_sound 2 0 0 [some (.ref r), some (.int a1), some (.int a2), some (.int a3), none] (rs_h g r s, n) (.inl (some (.int x.1))) (rs_h g r x.2, n) := by
  refine jc_of ?_
  rw [o_X12_sound] at h
  refine jg_aload_n dX12_sound_0 rfl ?_
  refine jg_iconst (v := nI 0) dX12_sound_1 (by decide) ?_
  refine rs_putD (s := s) (k := 0) (x := (nI 0)) fl_X12_3 dX12_sound_2 hr (by decide) (rfl) rfl rfl ?_
  refine jg_aload_n dX12_sound_5 rfl ?_
  refine jg_iload_n dX12_sound_6 rfl ?_
  obtain ⟨x1, e_x1, h⟩ := bd_some h
  refine rs_callS (As := [.int a1]) ks_X12_65 dX12_sound_7 rfl (by decide) (Nat.le_of_ble_eq_true rfl) rfl (by decide) (Nat.le_of_ble_eq_true rfl) (t_X12_noCell hr (pN s 0 (nI 0)) a1 e_x1) ?_
  refine jg_iconst (v := nI 1) dX12_sound_10 (by decide) ?_
  obtain ⟨x2, e_x2, h⟩ := bd_some h
  refine rs_call (As := [.int x1, .int (nI 1)]) kv_X12_69 dX12_sound_11 hr rfl rfl (by decide) (Nat.le_of_ble_eq_true rfl) rfl (by decide) (Nat.le_of_ble_eq_true rfl) (t_X12_throwsIf hr (pN s 0 (nI 0)) x1 (nI 1) e_x2) ?_
  refine jg_if_ne (x := x2.1) (tgt := 53) dX12_sound_14 (by decide) (fun c3 => ?_) (fun c3 => ?_)
  · replace h := it_f c3 h
    refine jg_iconst (v := nI 0) dX12_sound_53 (by decide) ?_
    obtain rfl := Option.some.inj h
    exact jg_ireturn dX12_sound_54 rfl ⟨rfl, rfl⟩
  · replace h := it_t c3 h
    refine jg_aload_n dX12_sound_17 rfl ?_
    refine jg_iload_n dX12_sound_18 rfl ?_
    refine jg_iconst (v := nI 0) dX12_sound_19 (by decide) ?_
    refine jg_aload_n dX12_sound_20 rfl ?_
    obtain ⟨x4, e_x4, h⟩ := bd_some h
    refine rs_call (As := []) kv_X12_77 dX12_sound_21 hr rfl rfl (by decide) (Nat.le_of_ble_eq_true rfl) rfl (by decide) (Nat.le_of_ble_eq_true rfl) (t_X12_today hr x2.2 e_x4) ?_
    obtain ⟨x5, e_x5, h⟩ := bd_some h
    refine rs_callS (As := [.int a2, .int (nI 0), .int x4]) ks_X12_49 dX12_sound_24 rfl (by decide) (Nat.le_of_ble_eq_true rfl) rfl (by decide) (Nat.le_of_ble_eq_true rfl) (t_X12_in hr x2.2 a2 (nI 0) x4 e_x5) ?_
    refine jg_if_eq (x := x5) (tgt := 41) dX12_sound_27 (by decide) (fun c6 => ?_) (fun c6 => ?_)
    · replace h := it_t c6 h
      refine jg_iconst (v := nI 1) dX12_sound_41 (by decide) ?_
      refine jg_goto (tgt := 46) dX12_sound_42 (by decide) ?_
      refine jg_iconst (v := nI 2) dX12_sound_46 (by decide) ?_
      refine rs_call (As := [.int (nI 1), .int (nI 2)]) kv_X12_69 dX12_sound_47 hr rfl rfl (by decide) (Nat.le_of_ble_eq_true rfl) rfl (by decide) (Nat.le_of_ble_eq_true rfl) (t_X12_throwsIf hr x2.2 (nI 1) (nI 2) (o_thr1 x2.2 (nI 2))) ?_
      refine jg_if_eq (x := (nI 1)) (tgt := 55) dX12_sound_50 (by decide) (fun q9 => absurd q9 (by decide)) (fun _ => ?_)
      refine jg_iconst (v := nI 0) dX12_sound_53 (by decide) ?_
      obtain rfl := Option.some.inj h
      exact jg_ireturn dX12_sound_54 rfl ⟨rfl, rfl⟩
    · replace h := it_f c6 h
      refine jg_iload_n dX12_sound_30 rfl ?_
      refine jg_iconst (v := nI 0) dX12_sound_31 (by decide) ?_
      refine jg_sipush (v := nI 250) dX12_sound_32 (by decide) ?_
      obtain ⟨x7, e_x7, h⟩ := bd_some h
      refine rs_callS (As := [.int a3, .int (nI 0), .int (nI 250)]) ks_X12_49 dX12_sound_35 rfl (by decide) (Nat.le_of_ble_eq_true rfl) rfl (by decide) (Nat.le_of_ble_eq_true rfl) (t_X12_in hr x2.2 a3 (nI 0) (nI 250) e_x7) ?_
      refine jg_if_ne (x := x7) (tgt := 45) dX12_sound_38 (by decide) (fun c8 => ?_) (fun c8 => ?_)
      · replace h := it_f c8 h
        refine jg_iconst (v := nI 0) dX12_sound_45 (by decide) ?_
        refine jg_iconst (v := nI 2) dX12_sound_46 (by decide) ?_
        refine rs_call (As := [.int (nI 0), .int (nI 2)]) kv_X12_69 dX12_sound_47 hr rfl rfl (by decide) (Nat.le_of_ble_eq_true rfl) rfl (by decide) (Nat.le_of_ble_eq_true rfl) (t_X12_throwsIf hr x2.2 (nI 0) (nI 2) (o_thr0 x2.2 (nI 2))) ?_
        refine jg_if_eq (x := (nI 0)) (tgt := 55) dX12_sound_50 (by decide) (fun _ => ?_) (fun q9 => absurd q9 (by decide))
        refine jg_aload_n dX12_sound_55 rfl ?_
        refine rs_ga fl_X12_13 dX12_sound_56 hr rfl ?_
        refine jg_sipush (v := nI 198) dX12_sound_59 (by decide) ?_
        refine rs_lwD (s := x2.2) (i := (nI 198)) dX12_sound_62 hr (by decide) ?_
        refine jg_istore (L' := [some (.ref r), some (.int a1), some (.int a2), some (.int a3), some (.int (gW x2.2 (nI 198)))]) dX12_sound_63 (by decide) rfl ?_
        refine jg_iload dX12_sound_65 rfl ?_
        refine jg_sipush (v := nI 200) dX12_sound_67 (by decide) ?_
        refine jg_icmp_ne (x := (gW x2.2 (nI 198))) (y := (nI 200)) (tgt := 75) dX12_sound_70 (by decide) (fun c9 => ?_) (fun c9 => ?_)
        · replace h := it_f c9 h
          refine jg_aload_n dX12_sound_75 rfl ?_
          refine rs_ga fl_X12_13 dX12_sound_76 hr rfl ?_
          refine jg_sipush (v := nI 199) dX12_sound_79 (by decide) ?_
          refine jg_iconst (v := nI 4) dX12_sound_82 (by decide) ?_
          refine jg_iload dX12_sound_83 rfl ?_
          refine jg_imul (x := (nI 4)) (y := (gW x2.2 (nI 198))) dX12_sound_85  ?_
          refine jg_iadd (x := (nI 199)) (y := ((nI 4) * (gW x2.2 (nI 198)))) dX12_sound_86  ?_
          refine jg_iload_n dX12_sound_87 rfl ?_
          obtain ⟨q10, h⟩ := gd_some h
          refine rs_swD (s := x2.2) (i := ((nI 199) + ((nI 4) * (gW x2.2 (nI 198))))) (x := a1) dX12_sound_88 hr q10 ?_
          refine jg_aload_n dX12_sound_89 rfl ?_
          refine rs_ga fl_X12_13 dX12_sound_90 hr rfl ?_
          refine jg_sipush (v := nI 199) dX12_sound_93 (by decide) ?_
          refine jg_iconst (v := nI 4) dX12_sound_96 (by decide) ?_
          refine jg_iload dX12_sound_97 rfl ?_
          refine jg_imul (x := (nI 4)) (y := (gW x2.2 (nI 198))) dX12_sound_99  ?_
          refine jg_iadd (x := (nI 199)) (y := ((nI 4) * (gW x2.2 (nI 198)))) dX12_sound_100  ?_
          refine jg_iconst (v := nI 1) dX12_sound_101 (by decide) ?_
          refine jg_iadd (x := ((nI 199) + ((nI 4) * (gW x2.2 (nI 198))))) (y := (nI 1)) dX12_sound_102  ?_
          refine jg_iload_n dX12_sound_103 rfl ?_
          obtain ⟨q11, h⟩ := gd_some h
          refine rs_swD (s := (pW x2.2 ((nI 199) + ((nI 4) * (gW x2.2 (nI 198)))) a1)) (i := (((nI 199) + ((nI 4) * (gW x2.2 (nI 198)))) + (nI 1))) (x := a2) dX12_sound_104 hr q11 ?_
          refine jg_aload_n dX12_sound_105 rfl ?_
          refine rs_ga fl_X12_13 dX12_sound_106 hr rfl ?_
          refine jg_sipush (v := nI 199) dX12_sound_109 (by decide) ?_
          refine jg_iconst (v := nI 4) dX12_sound_112 (by decide) ?_
          refine jg_iload dX12_sound_113 rfl ?_
          refine jg_imul (x := (nI 4)) (y := (gW x2.2 (nI 198))) dX12_sound_115  ?_
          refine jg_iadd (x := (nI 199)) (y := ((nI 4) * (gW x2.2 (nI 198)))) dX12_sound_116  ?_
          refine jg_iconst (v := nI 2) dX12_sound_117 (by decide) ?_
          refine jg_iadd (x := ((nI 199) + ((nI 4) * (gW x2.2 (nI 198))))) (y := (nI 2)) dX12_sound_118  ?_
          refine jg_iload_n dX12_sound_119 rfl ?_
          obtain ⟨q12, h⟩ := gd_some h
          refine rs_swD (s := (pW (pW x2.2 ((nI 199) + ((nI 4) * (gW x2.2 (nI 198)))) a1) (((nI 199) + ((nI 4) * (gW x2.2 (nI 198)))) + (nI 1)) a2)) (i := (((nI 199) + ((nI 4) * (gW x2.2 (nI 198)))) + (nI 2))) (x := a3) dX12_sound_120 hr q12 ?_
          refine jg_aload_n dX12_sound_121 rfl ?_
          refine rs_ga fl_X12_13 dX12_sound_122 hr rfl ?_
          refine jg_sipush (v := nI 199) dX12_sound_125 (by decide) ?_
          refine jg_iconst (v := nI 4) dX12_sound_128 (by decide) ?_
          refine jg_iload dX12_sound_129 rfl ?_
          refine jg_imul (x := (nI 4)) (y := (gW x2.2 (nI 198))) dX12_sound_131  ?_
          refine jg_iadd (x := (nI 199)) (y := ((nI 4) * (gW x2.2 (nI 198)))) dX12_sound_132  ?_
          refine jg_iconst (v := nI 3) dX12_sound_133 (by decide) ?_
          refine jg_iadd (x := ((nI 199) + ((nI 4) * (gW x2.2 (nI 198))))) (y := (nI 3)) dX12_sound_134  ?_
          refine jg_aload_n dX12_sound_135 rfl ?_
          obtain ⟨x13, e_x13, h⟩ := bd_some h
          refine rs_call (As := []) kv_X12_73 dX12_sound_136 hr rfl rfl (by decide) (Nat.le_of_ble_eq_true rfl) rfl (by decide) (Nat.le_of_ble_eq_true rfl) (t_X12_hour hr (pW (pW (pW x2.2 ((nI 199) + ((nI 4) * (gW x2.2 (nI 198)))) a1) (((nI 199) + ((nI 4) * (gW x2.2 (nI 198)))) + (nI 1)) a2) (((nI 199) + ((nI 4) * (gW x2.2 (nI 198)))) + (nI 2)) a3) e_x13) ?_
          obtain ⟨q14, h⟩ := gd_some h
          refine rs_swD (s := (pW (pW (pW x2.2 ((nI 199) + ((nI 4) * (gW x2.2 (nI 198)))) a1) (((nI 199) + ((nI 4) * (gW x2.2 (nI 198)))) + (nI 1)) a2) (((nI 199) + ((nI 4) * (gW x2.2 (nI 198)))) + (nI 2)) a3)) (i := (((nI 199) + ((nI 4) * (gW x2.2 (nI 198)))) + (nI 3))) (x := x13) dX12_sound_139 hr q14 ?_
          refine jg_aload_n dX12_sound_140 rfl ?_
          refine rs_ga fl_X12_13 dX12_sound_141 hr rfl ?_
          refine jg_sipush (v := nI 198) dX12_sound_144 (by decide) ?_
          refine jg_dup2 dX12_sound_147 rfl rfl ?_
          refine rs_lwD (s := (pW (pW (pW (pW x2.2 ((nI 199) + ((nI 4) * (gW x2.2 (nI 198)))) a1) (((nI 199) + ((nI 4) * (gW x2.2 (nI 198)))) + (nI 1)) a2) (((nI 199) + ((nI 4) * (gW x2.2 (nI 198)))) + (nI 2)) a3) (((nI 199) + ((nI 4) * (gW x2.2 (nI 198)))) + (nI 3)) x13)) (i := (nI 198)) dX12_sound_148 hr (by decide) ?_
          refine jg_iconst (v := nI 1) dX12_sound_149 (by decide) ?_
          refine jg_iadd (x := (gW (pW (pW (pW (pW x2.2 ((nI 199) + ((nI 4) * (gW x2.2 (nI 198)))) a1) (((nI 199) + ((nI 4) * (gW x2.2 (nI 198)))) + (nI 1)) a2) (((nI 199) + ((nI 4) * (gW x2.2 (nI 198)))) + (nI 2)) a3) (((nI 199) + ((nI 4) * (gW x2.2 (nI 198)))) + (nI 3)) x13) (nI 198))) (y := (nI 1)) dX12_sound_150  ?_
          refine rs_swD (s := (pW (pW (pW (pW x2.2 ((nI 199) + ((nI 4) * (gW x2.2 (nI 198)))) a1) (((nI 199) + ((nI 4) * (gW x2.2 (nI 198)))) + (nI 1)) a2) (((nI 199) + ((nI 4) * (gW x2.2 (nI 198)))) + (nI 2)) a3) (((nI 199) + ((nI 4) * (gW x2.2 (nI 198)))) + (nI 3)) x13)) (i := (nI 198)) (x := ((gW (pW (pW (pW (pW x2.2 ((nI 199) + ((nI 4) * (gW x2.2 (nI 198)))) a1) (((nI 199) + ((nI 4) * (gW x2.2 (nI 198)))) + (nI 1)) a2) (((nI 199) + ((nI 4) * (gW x2.2 (nI 198)))) + (nI 2)) a3) (((nI 199) + ((nI 4) * (gW x2.2 (nI 198)))) + (nI 3)) x13) (nI 198)) + (nI 1))) dX12_sound_151 hr (by decide) ?_
          refine jg_iload dX12_sound_152 rfl ?_
          obtain rfl := Option.some.inj h
          exact jg_ireturn dX12_sound_154 rfl ⟨rfl, rfl⟩
        · replace h := it_t c9 h
          refine jg_iconst (v := (-1)) dX12_sound_73 (by decide) ?_
          obtain rfl := Option.some.inj h
          exact jg_ireturn dX12_sound_74 rfl ⟨rfl, rfl⟩
      · replace h := it_t c8 h
        refine jg_iconst (v := nI 1) dX12_sound_41 (by decide) ?_
        refine jg_goto (tgt := 46) dX12_sound_42 (by decide) ?_
        refine jg_iconst (v := nI 2) dX12_sound_46 (by decide) ?_
        refine rs_call (As := [.int (nI 1), .int (nI 2)]) kv_X12_69 dX12_sound_47 hr rfl rfl (by decide) (Nat.le_of_ble_eq_true rfl) rfl (by decide) (Nat.le_of_ble_eq_true rfl) (t_X12_throwsIf hr x2.2 (nI 1) (nI 2) (o_thr1 x2.2 (nI 2))) ?_
        refine jg_if_eq (x := (nI 1)) (tgt := 55) dX12_sound_50 (by decide) (fun q9 => absurd q9 (by decide)) (fun _ => ?_)
        refine jg_iconst (v := nI 0) dX12_sound_53 (by decide) ?_
        obtain rfl := Option.some.inj h
        exact jg_ireturn dX12_sound_54 rfl ⟨rfl, rfl⟩
theorem dX12_knownOf_0 : decode cX12_knownOf 0 = .ok (.iconst (-1), 1) := by decide +kernel
theorem dX12_knownOf_1 : decode cX12_knownOf 1 = .ok (.istore_n 3, 1) := by decide +kernel
theorem dX12_knownOf_2 : decode cX12_knownOf 2 = .ok (.sipush 199, 3) := by decide +kernel
theorem dX12_knownOf_5 : decode cX12_knownOf 5 = .ok (.istore 4, 2) := by decide +kernel
theorem dX12_knownOf_7 : decode cX12_knownOf 7 = .ok (.iload 4, 2) := by decide +kernel
theorem dX12_knownOf_9 : decode cX12_knownOf 9 = .ok (.sipush 199, 3) := by decide +kernel
theorem dX12_knownOf_12 : decode cX12_knownOf 12 = .ok (.iconst 4, 1) := by decide +kernel
theorem dX12_knownOf_13 : decode cX12_knownOf 13 = .ok (.aload_n 0, 1) := by decide +kernel
theorem dX12_knownOf_14 : decode cX12_knownOf 14 = .ok (.getfield 13, 3) := by decide +kernel
theorem dX12_knownOf_17 : decode cX12_knownOf 17 = .ok (.sipush 198, 3) := by decide +kernel
theorem dX12_knownOf_20 : decode cX12_knownOf 20 = .ok (.iaload, 1) := by decide +kernel
theorem dX12_knownOf_21 : decode cX12_knownOf 21 = .ok (.imul, 1) := by decide +kernel
theorem dX12_knownOf_22 : decode cX12_knownOf 22 = .ok (.iadd, 1) := by decide +kernel
theorem dX12_knownOf_23 : decode cX12_knownOf 23 = .ok (.if_icmp .ge 63, 3) := by decide +kernel
theorem dX12_knownOf_26 : decode cX12_knownOf 26 = .ok (.aload_n 0, 1) := by decide +kernel
theorem dX12_knownOf_27 : decode cX12_knownOf 27 = .ok (.getfield 13, 3) := by decide +kernel
theorem dX12_knownOf_30 : decode cX12_knownOf 30 = .ok (.iload 4, 2) := by decide +kernel
theorem dX12_knownOf_32 : decode cX12_knownOf 32 = .ok (.iaload, 1) := by decide +kernel
theorem dX12_knownOf_33 : decode cX12_knownOf 33 = .ok (.iload_n 1, 1) := by decide +kernel
theorem dX12_knownOf_34 : decode cX12_knownOf 34 = .ok (.if_icmp .ne 46, 3) := by decide +kernel
theorem dX12_knownOf_37 : decode cX12_knownOf 37 = .ok (.aload_n 0, 1) := by decide +kernel
theorem dX12_knownOf_38 : decode cX12_knownOf 38 = .ok (.getfield 13, 3) := by decide +kernel
theorem dX12_knownOf_41 : decode cX12_knownOf 41 = .ok (.iload 4, 2) := by decide +kernel
theorem dX12_knownOf_43 : decode cX12_knownOf 43 = .ok (.iconst 3, 1) := by decide +kernel
theorem dX12_knownOf_44 : decode cX12_knownOf 44 = .ok (.iadd, 1) := by decide +kernel
theorem dX12_knownOf_45 : decode cX12_knownOf 45 = .ok (.iaload, 1) := by decide +kernel
theorem dX12_knownOf_46 : decode cX12_knownOf 46 = .ok (.iload_n 2, 1) := by decide +kernel
theorem dX12_knownOf_47 : decode cX12_knownOf 47 = .ok (.if_icmp .le 6, 3) := by decide +kernel
theorem dX12_knownOf_50 : decode cX12_knownOf 50 = .ok (.goto 30, 3) := by decide +kernel
theorem dX12_knownOf_53 : decode cX12_knownOf 53 = .ok (.iload_n 3, 1) := by decide +kernel
theorem dX12_knownOf_54 : decode cX12_knownOf 54 = .ok (.ifCond .lt 23, 3) := by decide +kernel
theorem dX12_knownOf_57 : decode cX12_knownOf 57 = .ok (.aload_n 0, 1) := by decide +kernel
theorem dX12_knownOf_58 : decode cX12_knownOf 58 = .ok (.getfield 13, 3) := by decide +kernel
theorem dX12_knownOf_61 : decode cX12_knownOf 61 = .ok (.iload 4, 2) := by decide +kernel
theorem dX12_knownOf_63 : decode cX12_knownOf 63 = .ok (.iconst 1, 1) := by decide +kernel
theorem dX12_knownOf_64 : decode cX12_knownOf 64 = .ok (.iadd, 1) := by decide +kernel
theorem dX12_knownOf_65 : decode cX12_knownOf 65 = .ok (.iaload, 1) := by decide +kernel
theorem dX12_knownOf_66 : decode cX12_knownOf 66 = .ok (.aload_n 0, 1) := by decide +kernel
theorem dX12_knownOf_67 : decode cX12_knownOf 67 = .ok (.getfield 13, 3) := by decide +kernel
theorem dX12_knownOf_70 : decode cX12_knownOf 70 = .ok (.iload_n 3, 1) := by decide +kernel
theorem dX12_knownOf_71 : decode cX12_knownOf 71 = .ok (.iconst 1, 1) := by decide +kernel
theorem dX12_knownOf_72 : decode cX12_knownOf 72 = .ok (.iadd, 1) := by decide +kernel
theorem dX12_knownOf_73 : decode cX12_knownOf 73 = .ok (.iaload, 1) := by decide +kernel
theorem dX12_knownOf_74 : decode cX12_knownOf 74 = .ok (.if_icmp .lt 6, 3) := by decide +kernel
theorem dX12_knownOf_77 : decode cX12_knownOf 77 = .ok (.iload 4, 2) := by decide +kernel
theorem dX12_knownOf_79 : decode cX12_knownOf 79 = .ok (.istore_n 3, 1) := by decide +kernel
theorem dX12_knownOf_80 : decode cX12_knownOf 80 = .ok (.iinc 4 4, 3) := by decide +kernel
theorem dX12_knownOf_83 : decode cX12_knownOf 83 = .ok (.goto (-76), 3) := by decide +kernel
theorem dX12_knownOf_86 : decode cX12_knownOf 86 = .ok (.iload_n 3, 1) := by decide +kernel
theorem dX12_knownOf_87 : decode cX12_knownOf 87 = .ok (.ifCond .ge 15, 3) := by decide +kernel
theorem dX12_knownOf_90 : decode cX12_knownOf 90 = .ok (.aload_n 0, 1) := by decide +kernel
theorem dX12_knownOf_91 : decode cX12_knownOf 91 = .ok (.getfield 13, 3) := by decide +kernel
theorem dX12_knownOf_94 : decode cX12_knownOf 94 = .ok (.bipush 25, 2) := by decide +kernel
theorem dX12_knownOf_96 : decode cX12_knownOf 96 = .ok (.iload_n 1, 1) := by decide +kernel
theorem dX12_knownOf_97 : decode cX12_knownOf 97 = .ok (.iadd, 1) := by decide +kernel
theorem dX12_knownOf_98 : decode cX12_knownOf 98 = .ok (.iaload, 1) := by decide +kernel
theorem dX12_knownOf_99 : decode cX12_knownOf 99 = .ok (.goto 11, 3) := by decide +kernel
theorem dX12_knownOf_102 : decode cX12_knownOf 102 = .ok (.aload_n 0, 1) := by decide +kernel
theorem dX12_knownOf_103 : decode cX12_knownOf 103 = .ok (.getfield 13, 3) := by decide +kernel
theorem dX12_knownOf_106 : decode cX12_knownOf 106 = .ok (.iload_n 3, 1) := by decide +kernel
theorem dX12_knownOf_107 : decode cX12_knownOf 107 = .ok (.iconst 2, 1) := by decide +kernel
theorem dX12_knownOf_108 : decode cX12_knownOf 108 = .ok (.iadd, 1) := by decide +kernel
theorem dX12_knownOf_109 : decode cX12_knownOf 109 = .ok (.iaload, 1) := by decide +kernel
theorem dX12_knownOf_110 : decode cX12_knownOf 110 = .ok (.ireturn, 1) := by decide +kernel
noncomputable def o_X12_knownOf_7 (F : Nat) (l1 : Int32) (l2 : Int32) (s : rs_S) : Nat → Int32 → Int32 → Option (Int32)
  | 0, _, _ => none
  | f + 1, l3, l4 => if ((nI 199) + ((nI 4) * (gW s (nI 198)))) ≤ l4 then (some l3) else (if iL l4 22216 then (if (gW s l4) = l1 then (if iL (l4 + (nI 3)) 22216 then (if (gW s (l4 + (nI 3))) ≤ l2 then (if l3 < 0 then (o_X12_knownOf_7 F l1 l2 s f l4 (l4 + nI 4)) else (if iL (l4 + (nI 1)) 22216 then (if iL (l3 + (nI 1)) 22216 then (if (gW s (l4 + (nI 1))) < (gW s (l3 + (nI 1))) then (o_X12_knownOf_7 F l1 l2 s f l3 (l4 + nI 4)) else (o_X12_knownOf_7 F l1 l2 s f l4 (l4 + nI 4))) else none) else none)) else (o_X12_knownOf_7 F l1 l2 s f l3 (l4 + nI 4))) else none) else (o_X12_knownOf_7 F l1 l2 s f l3 (l4 + nI 4))) else none)
set_option maxHeartbeats 4000000 in
theorem t_X12_knownOf_7 {Γ : jg_G} {g : Nat → jg_C} {n r : Nat} (hr : r + 11 ≤ n) (F : Nat) (l1 : Int32) (l2 : Int32) (s : rs_S)  (Q : jg_Q) {x : Int32} (K1 : jg Γ mX12_knownOf 0 0 0 86 [some (.ref r), some (.int l1), none, some (.int x), none] [] (rs_h g r s, n) Q)  : ∀ (f : Nat) (l3 : Int32) (l4 : Int32), o_X12_knownOf_7 F l1 l2 s f l3 l4 = some x → jg Γ mX12_knownOf 0 0 0 7 [some (.ref r), some (.int l1), some (.int l2), some (.int l3), some (.int l4)] [] (rs_h g r s, n) Q := by
  intro f
  induction f with
  | zero => intro l3 l4 h; rw [o_X12_knownOf_7] at h; cases h
  | succ f ih =>
   intro l3 l4 h
   rw [o_X12_knownOf_7] at h
   refine jg_iload dX12_knownOf_7 rfl ?_
   refine jg_sipush (v := nI 199) dX12_knownOf_9 (by decide) ?_
   refine jg_iconst (v := nI 4) dX12_knownOf_12 (by decide) ?_
   refine jg_aload_n dX12_knownOf_13 rfl ?_
   refine rs_ga fl_X12_13 dX12_knownOf_14 hr rfl ?_
   refine jg_sipush (v := nI 198) dX12_knownOf_17 (by decide) ?_
   refine rs_lwD (s := s) (i := (nI 198)) dX12_knownOf_20 hr (by decide) ?_
   refine jg_imul (x := (nI 4)) (y := (gW s (nI 198))) dX12_knownOf_21  ?_
   refine jg_iadd (x := (nI 199)) (y := ((nI 4) * (gW s (nI 198)))) dX12_knownOf_22  ?_
   refine jg_icmp_ge (x := l4) (y := ((nI 199) + ((nI 4) * (gW s (nI 198))))) (tgt := 86) dX12_knownOf_23 (by decide) (fun c1 => ?_) (fun c1 => ?_)
   · replace h := it_t c1 h
     refine jg_fg (L' := [some (.ref r), some (.int l1), none, some (.int l3), none]) (by repeat (first | exact trivial | refine ⟨rfl, ?_⟩ | show jg_le _ _)) ?_
     obtain rfl := Option.some.inj h
     exact K1
   · replace h := it_f c1 h
     refine jg_aload_n dX12_knownOf_26 rfl ?_
     refine rs_ga fl_X12_13 dX12_knownOf_27 hr rfl ?_
     refine jg_iload dX12_knownOf_30 rfl ?_
     obtain ⟨q2, h⟩ := gd_some h
     refine rs_lwD (s := s) (i := l4) dX12_knownOf_32 hr q2 ?_
     refine jg_iload_n dX12_knownOf_33 rfl ?_
     refine jg_icmp_ne (x := (gW s l4)) (y := l1) (tgt := 80) dX12_knownOf_34 (by decide) (fun c3 => ?_) (fun c3 => ?_)
     · replace h := it_f c3 h
       refine jg_iinc (x := l4) (v := l4 + nI 4) (L' := [some (.ref r), some (.int l1), some (.int l2), some (.int l3), some (.int (l4 + nI 4))]) dX12_knownOf_80 rfl (ic_k _ (by decide)) (by decide) rfl ?_
       refine jg_goto (tgt := 7) dX12_knownOf_83 (by decide) ?_
       refine jg_fg (L' := [some (.ref r), some (.int l1), some (.int l2), some (.int l3), some (.int (l4 + nI 4))]) (by repeat (first | exact trivial | refine ⟨rfl, ?_⟩ | show jg_le _ _)) ?_
       exact ih l3 (l4 + nI 4) h
     · replace h := it_t c3 h
       refine jg_aload_n dX12_knownOf_37 rfl ?_
       refine rs_ga fl_X12_13 dX12_knownOf_38 hr rfl ?_
       refine jg_iload dX12_knownOf_41 rfl ?_
       refine jg_iconst (v := nI 3) dX12_knownOf_43 (by decide) ?_
       refine jg_iadd (x := l4) (y := (nI 3)) dX12_knownOf_44  ?_
       obtain ⟨q4, h⟩ := gd_some h
       refine rs_lwD (s := s) (i := (l4 + (nI 3))) dX12_knownOf_45 hr q4 ?_
       refine jg_iload_n dX12_knownOf_46 rfl ?_
       refine jg_icmp_le (x := (gW s (l4 + (nI 3)))) (y := l2) (tgt := 53) dX12_knownOf_47 (by decide) (fun c5 => ?_) (fun c5 => ?_)
       · replace h := it_t c5 h
         refine jg_iload_n dX12_knownOf_53 rfl ?_
         refine jg_if_lt (x := l3) (tgt := 77) dX12_knownOf_54 (by decide) (fun c6 => ?_) (fun c6 => ?_)
         · replace h := it_t c6 h
           refine jg_iload dX12_knownOf_77 rfl ?_
           refine jg_istore_n (L' := [some (.ref r), some (.int l1), some (.int l2), some (.int l4), some (.int l4)]) dX12_knownOf_79 (by decide) rfl ?_
           refine jg_iinc (x := l4) (v := l4 + nI 4) (L' := [some (.ref r), some (.int l1), some (.int l2), some (.int l4), some (.int (l4 + nI 4))]) dX12_knownOf_80 rfl (ic_k _ (by decide)) (by decide) rfl ?_
           refine jg_goto (tgt := 7) dX12_knownOf_83 (by decide) ?_
           refine jg_fg (L' := [some (.ref r), some (.int l1), some (.int l2), some (.int l4), some (.int (l4 + nI 4))]) (by repeat (first | exact trivial | refine ⟨rfl, ?_⟩ | show jg_le _ _)) ?_
           exact ih l4 (l4 + nI 4) h
         · replace h := it_f c6 h
           refine jg_aload_n dX12_knownOf_57 rfl ?_
           refine rs_ga fl_X12_13 dX12_knownOf_58 hr rfl ?_
           refine jg_iload dX12_knownOf_61 rfl ?_
           refine jg_iconst (v := nI 1) dX12_knownOf_63 (by decide) ?_
           refine jg_iadd (x := l4) (y := (nI 1)) dX12_knownOf_64  ?_
           obtain ⟨q7, h⟩ := gd_some h
           refine rs_lwD (s := s) (i := (l4 + (nI 1))) dX12_knownOf_65 hr q7 ?_
           refine jg_aload_n dX12_knownOf_66 rfl ?_
           refine rs_ga fl_X12_13 dX12_knownOf_67 hr rfl ?_
           refine jg_iload_n dX12_knownOf_70 rfl ?_
           refine jg_iconst (v := nI 1) dX12_knownOf_71 (by decide) ?_
           refine jg_iadd (x := l3) (y := (nI 1)) dX12_knownOf_72  ?_
           obtain ⟨q8, h⟩ := gd_some h
           refine rs_lwD (s := s) (i := (l3 + (nI 1))) dX12_knownOf_73 hr q8 ?_
           refine jg_icmp_lt (x := (gW s (l4 + (nI 1)))) (y := (gW s (l3 + (nI 1)))) (tgt := 80) dX12_knownOf_74 (by decide) (fun c9 => ?_) (fun c9 => ?_)
           · replace h := it_t c9 h
             refine jg_iinc (x := l4) (v := l4 + nI 4) (L' := [some (.ref r), some (.int l1), some (.int l2), some (.int l3), some (.int (l4 + nI 4))]) dX12_knownOf_80 rfl (ic_k _ (by decide)) (by decide) rfl ?_
             refine jg_goto (tgt := 7) dX12_knownOf_83 (by decide) ?_
             refine jg_fg (L' := [some (.ref r), some (.int l1), some (.int l2), some (.int l3), some (.int (l4 + nI 4))]) (by repeat (first | exact trivial | refine ⟨rfl, ?_⟩ | show jg_le _ _)) ?_
             exact ih l3 (l4 + nI 4) h
           · replace h := it_f c9 h
             refine jg_iload dX12_knownOf_77 rfl ?_
             refine jg_istore_n (L' := [some (.ref r), some (.int l1), some (.int l2), some (.int l4), some (.int l4)]) dX12_knownOf_79 (by decide) rfl ?_
             refine jg_iinc (x := l4) (v := l4 + nI 4) (L' := [some (.ref r), some (.int l1), some (.int l2), some (.int l4), some (.int (l4 + nI 4))]) dX12_knownOf_80 rfl (ic_k _ (by decide)) (by decide) rfl ?_
             refine jg_goto (tgt := 7) dX12_knownOf_83 (by decide) ?_
             refine jg_fg (L' := [some (.ref r), some (.int l1), some (.int l2), some (.int l4), some (.int (l4 + nI 4))]) (by repeat (first | exact trivial | refine ⟨rfl, ?_⟩ | show jg_le _ _)) ?_
             exact ih l4 (l4 + nI 4) h
       · replace h := it_f c5 h
         refine jg_goto (tgt := 80) dX12_knownOf_50 (by decide) ?_
         refine jg_iinc (x := l4) (v := l4 + nI 4) (L' := [some (.ref r), some (.int l1), some (.int l2), some (.int l3), some (.int (l4 + nI 4))]) dX12_knownOf_80 rfl (ic_k _ (by decide)) (by decide) rfl ?_
         refine jg_goto (tgt := 7) dX12_knownOf_83 (by decide) ?_
         refine jg_fg (L' := [some (.ref r), some (.int l1), some (.int l2), some (.int l3), some (.int (l4 + nI 4))]) (by repeat (first | exact trivial | refine ⟨rfl, ?_⟩ | show jg_le _ _)) ?_
         exact ih l3 (l4 + nI 4) h
noncomputable def o_X12_knownOf (F : Nat) (s : rs_S) (a1 : Int32) (a2 : Int32) : Option (Int32) := (o_X12_knownOf_7 F a1 a2 s F (-1) (nI 199)).bind fun x10 => (if 0 ≤ x10 then (if iL (x10 + (nI 2)) 22216 then (some (gW s (x10 + (nI 2)))) else none) else (if iL ((nI 25) + a1) 22216 then (some (gW s ((nI 25) + a1))) else none))
set_option maxHeartbeats 4000000 in
theorem t_X12_knownOf {Γ : jg_G} {g : Nat → jg_C} {n r : Nat} (hr : r + 11 ≤ n) (F : Nat) (s : rs_S) (a1 : Int32) (a2 : Int32)  {x : Int32} (h : o_X12_knownOf F s a1 a2 = some x) : jc Γ mX12_knownOf 0 0 0 [some (.ref r), some (.int a1), some (.int a2), none, none] (rs_h g r s, n) (.inl (some (.int x))) (rs_h g r s, n) := by
  refine jc_of ?_
  rw [o_X12_knownOf] at h
  refine jg_iconst (v := (-1)) dX12_knownOf_0 (by decide) ?_
  refine jg_istore_n (L' := [some (.ref r), some (.int a1), some (.int a2), some (.int (-1)), none]) dX12_knownOf_1 (by decide) rfl ?_
  refine jg_sipush (v := nI 199) dX12_knownOf_2 (by decide) ?_
  refine jg_istore (L' := [some (.ref r), some (.int a1), some (.int a2), some (.int (-1)), some (.int (nI 199))]) dX12_knownOf_5 (by decide) rfl ?_
  obtain ⟨x10, e_x10, h⟩ := bd_some h
  refine jg_fg (L' := [some (.ref r), some (.int a1), some (.int a2), some (.int (-1)), some (.int (nI 199))]) (by repeat (first | exact trivial | refine ⟨rfl, ?_⟩ | show jg_le _ _)) ?_
  refine t_X12_knownOf_7 hr F a1 a2 s  _ (x := x10) ?_ F (-1) (nI 199) e_x10
  refine jg_iload_n dX12_knownOf_86 rfl ?_
  refine jg_if_ge (x := x10) (tgt := 102) dX12_knownOf_87 (by decide) (fun c11 => ?_) (fun c11 => ?_)
  · replace h := it_t c11 h
    refine jg_aload_n dX12_knownOf_102 rfl ?_
    refine rs_ga fl_X12_13 dX12_knownOf_103 hr rfl ?_
    refine jg_iload_n dX12_knownOf_106 rfl ?_
    refine jg_iconst (v := nI 2) dX12_knownOf_107 (by decide) ?_
    refine jg_iadd (x := x10) (y := (nI 2)) dX12_knownOf_108  ?_
    obtain ⟨q12, h⟩ := gd_some h
    refine rs_lwD (s := s) (i := (x10 + (nI 2))) dX12_knownOf_109 hr q12 ?_
    obtain rfl := Option.some.inj h
    exact jg_ireturn dX12_knownOf_110 rfl ⟨rfl, rfl⟩
  · replace h := it_f c11 h
    refine jg_aload_n dX12_knownOf_90 rfl ?_
    refine rs_ga fl_X12_13 dX12_knownOf_91 hr rfl ?_
    refine jg_bipush (v := nI 25) dX12_knownOf_94 (by decide) ?_
    refine jg_iload_n dX12_knownOf_96 rfl ?_
    refine jg_iadd (x := (nI 25)) (y := a1) dX12_knownOf_97  ?_
    obtain ⟨q13, h⟩ := gd_some h
    refine rs_lwD (s := s) (i := ((nI 25) + a1)) dX12_knownOf_98 hr q13 ?_
    refine jg_goto (tgt := 110) dX12_knownOf_99 (by decide) ?_
    obtain rfl := Option.some.inj h
    exact jg_ireturn dX12_knownOf_110 rfl ⟨rfl, rfl⟩
theorem dX12_known_0 : decode cX12_known 0 = .ok (.aload_n 0, 1) := by decide +kernel
theorem dX12_known_1 : decode cX12_known 1 = .ok (.iconst 0, 1) := by decide +kernel
theorem dX12_known_2 : decode cX12_known 2 = .ok (.putfield 3, 3) := by decide +kernel
theorem dX12_known_5 : decode cX12_known 5 = .ok (.aload_n 0, 1) := by decide +kernel
theorem dX12_known_6 : decode cX12_known 6 = .ok (.iload_n 1, 1) := by decide +kernel
theorem dX12_known_7 : decode cX12_known 7 = .ok (.invokestatic 65, 3) := by decide +kernel
theorem dX12_known_10 : decode cX12_known 10 = .ok (.iconst 1, 1) := by decide +kernel
theorem dX12_known_11 : decode cX12_known 11 = .ok (.invokevirtual 69, 3) := by decide +kernel
theorem dX12_known_14 : decode cX12_known 14 = .ok (.ifCond .eq 7, 3) := by decide +kernel
theorem dX12_known_17 : decode cX12_known 17 = .ok (.iconst 0, 1) := by decide +kernel
theorem dX12_known_18 : decode cX12_known 18 = .ok (.goto 9, 3) := by decide +kernel
theorem dX12_known_21 : decode cX12_known 21 = .ok (.aload_n 0, 1) := by decide +kernel
theorem dX12_known_22 : decode cX12_known 22 = .ok (.iload_n 1, 1) := by decide +kernel
theorem dX12_known_23 : decode cX12_known 23 = .ok (.iload_n 2, 1) := by decide +kernel
theorem dX12_known_24 : decode cX12_known 24 = .ok (.invokevirtual 80, 3) := by decide +kernel
theorem dX12_known_27 : decode cX12_known 27 = .ok (.ireturn, 1) := by decide +kernel
noncomputable def o_X12_known (F : Nat) (s : rs_S) (a1 : Int32) (a2 : Int32) : Option (Int32 × rs_S) := (o_X12_noCell (pN s 0 (nI 0)) a1).bind fun x1 => ((o_X12_throwsIf (pN s 0 (nI 0)) x1 (nI 1)).bind fun x2 => (if x2.1 = 0 then ((o_X12_knownOf F x2.2 a1 a2).bind fun x4 => (some (x4, x2.2))) else (some (nI 0, x2.2))))
set_option maxHeartbeats 4000000 in
theorem t_X12_known {Γ : jg_G} {g : Nat → jg_C} {n r : Nat} (hr : r + 11 ≤ n) (F : Nat) (s : rs_S) (a1 : Int32) (a2 : Int32)  {x : Int32 × rs_S} (h : o_X12_known F s a1 a2 = some x) : jc Γ mX12_known 2 0 0 [some (.ref r), some (.int a1), some (.int a2)] (rs_h g r s, n) (.inl (some (.int x.1))) (rs_h g r x.2, n) := by
  refine jc_of ?_
  rw [o_X12_known] at h
  refine jg_aload_n dX12_known_0 rfl ?_
  refine jg_iconst (v := nI 0) dX12_known_1 (by decide) ?_
  refine rs_putD (s := s) (k := 0) (x := (nI 0)) fl_X12_3 dX12_known_2 hr (by decide) (rfl) rfl rfl ?_
  refine jg_aload_n dX12_known_5 rfl ?_
  refine jg_iload_n dX12_known_6 rfl ?_
  obtain ⟨x1, e_x1, h⟩ := bd_some h
  refine rs_callS (As := [.int a1]) ks_X12_65 dX12_known_7 rfl (by decide) (Nat.le_of_ble_eq_true rfl) rfl (by decide) (Nat.le_of_ble_eq_true rfl) (t_X12_noCell hr (pN s 0 (nI 0)) a1 e_x1) ?_
  refine jg_iconst (v := nI 1) dX12_known_10 (by decide) ?_
  obtain ⟨x2, e_x2, h⟩ := bd_some h
  refine rs_call (As := [.int x1, .int (nI 1)]) kv_X12_69 dX12_known_11 hr rfl rfl (by decide) (Nat.le_of_ble_eq_true rfl) rfl (by decide) (Nat.le_of_ble_eq_true rfl) (t_X12_throwsIf hr (pN s 0 (nI 0)) x1 (nI 1) e_x2) ?_
  refine jg_if_eq (x := x2.1) (tgt := 21) dX12_known_14 (by decide) (fun c3 => ?_) (fun c3 => ?_)
  · replace h := it_t c3 h
    refine jg_aload_n dX12_known_21 rfl ?_
    refine jg_iload_n dX12_known_22 rfl ?_
    refine jg_iload_n dX12_known_23 rfl ?_
    obtain ⟨x4, e_x4, h⟩ := bd_some h
    refine rs_call (As := [.int a1, .int a2]) kv_X12_80 dX12_known_24 hr rfl rfl (by decide) (Nat.le_of_ble_eq_true rfl) rfl (by decide) (Nat.le_of_ble_eq_true rfl) (t_X12_knownOf hr F x2.2 a1 a2 e_x4) ?_
    obtain rfl := Option.some.inj h
    exact jg_ireturn dX12_known_27 rfl ⟨rfl, rfl⟩
  · replace h := it_f c3 h
    refine jg_iconst (v := nI 0) dX12_known_17 (by decide) ?_
    refine jg_goto (tgt := 27) dX12_known_18 (by decide) ?_
    obtain rfl := Option.some.inj h
    exact jg_ireturn dX12_known_27 rfl ⟨rfl, rfl⟩
theorem dX12_cell_0 : decode cX12_cell 0 = .ok (.aload_n 0, 1) := by decide +kernel
theorem dX12_cell_1 : decode cX12_cell 1 = .ok (.iconst 0, 1) := by decide +kernel
theorem dX12_cell_2 : decode cX12_cell 2 = .ok (.putfield 3, 3) := by decide +kernel
theorem dX12_cell_5 : decode cX12_cell 5 = .ok (.aload_n 0, 1) := by decide +kernel
theorem dX12_cell_6 : decode cX12_cell 6 = .ok (.iload_n 1, 1) := by decide +kernel
theorem dX12_cell_7 : decode cX12_cell 7 = .ok (.invokestatic 65, 3) := by decide +kernel
theorem dX12_cell_10 : decode cX12_cell 10 = .ok (.iconst 1, 1) := by decide +kernel
theorem dX12_cell_11 : decode cX12_cell 11 = .ok (.invokevirtual 69, 3) := by decide +kernel
theorem dX12_cell_14 : decode cX12_cell 14 = .ok (.ifCond .eq 5, 3) := by decide +kernel
theorem dX12_cell_17 : decode cX12_cell 17 = .ok (.iconst 0, 1) := by decide +kernel
theorem dX12_cell_18 : decode cX12_cell 18 = .ok (.ireturn, 1) := by decide +kernel
theorem dX12_cell_19 : decode cX12_cell 19 = .ok (.iload_n 2, 1) := by decide +kernel
theorem dX12_cell_20 : decode cX12_cell 20 = .ok (.tableswitch 71 0 3 #[32, 41, 51, 61], 32) := by decide +kernel
theorem dX12_cell_52 : decode cX12_cell 52 = .ok (.aload_n 0, 1) := by decide +kernel
theorem dX12_cell_53 : decode cX12_cell 53 = .ok (.getfield 13, 3) := by decide +kernel
theorem dX12_cell_56 : decode cX12_cell 56 = .ok (.iconst 1, 1) := by decide +kernel
theorem dX12_cell_57 : decode cX12_cell 57 = .ok (.iload_n 1, 1) := by decide +kernel
theorem dX12_cell_58 : decode cX12_cell 58 = .ok (.iadd, 1) := by decide +kernel
theorem dX12_cell_59 : decode cX12_cell 59 = .ok (.iaload, 1) := by decide +kernel
theorem dX12_cell_60 : decode cX12_cell 60 = .ok (.ireturn, 1) := by decide +kernel
theorem dX12_cell_61 : decode cX12_cell 61 = .ok (.aload_n 0, 1) := by decide +kernel
theorem dX12_cell_62 : decode cX12_cell 62 = .ok (.getfield 13, 3) := by decide +kernel
theorem dX12_cell_65 : decode cX12_cell 65 = .ok (.bipush 25, 2) := by decide +kernel
theorem dX12_cell_67 : decode cX12_cell 67 = .ok (.iload_n 1, 1) := by decide +kernel
theorem dX12_cell_68 : decode cX12_cell 68 = .ok (.iadd, 1) := by decide +kernel
theorem dX12_cell_69 : decode cX12_cell 69 = .ok (.iaload, 1) := by decide +kernel
theorem dX12_cell_70 : decode cX12_cell 70 = .ok (.ireturn, 1) := by decide +kernel
theorem dX12_cell_71 : decode cX12_cell 71 = .ok (.aload_n 0, 1) := by decide +kernel
theorem dX12_cell_72 : decode cX12_cell 72 = .ok (.getfield 13, 3) := by decide +kernel
theorem dX12_cell_75 : decode cX12_cell 75 = .ok (.bipush 49, 2) := by decide +kernel
theorem dX12_cell_77 : decode cX12_cell 77 = .ok (.iload_n 1, 1) := by decide +kernel
theorem dX12_cell_78 : decode cX12_cell 78 = .ok (.iadd, 1) := by decide +kernel
theorem dX12_cell_79 : decode cX12_cell 79 = .ok (.iaload, 1) := by decide +kernel
theorem dX12_cell_80 : decode cX12_cell 80 = .ok (.ireturn, 1) := by decide +kernel
theorem dX12_cell_81 : decode cX12_cell 81 = .ok (.aload_n 0, 1) := by decide +kernel
theorem dX12_cell_82 : decode cX12_cell 82 = .ok (.iload_n 1, 1) := by decide +kernel
theorem dX12_cell_83 : decode cX12_cell 83 = .ok (.aload_n 0, 1) := by decide +kernel
theorem dX12_cell_84 : decode cX12_cell 84 = .ok (.invokevirtual 73, 3) := by decide +kernel
theorem dX12_cell_87 : decode cX12_cell 87 = .ok (.invokevirtual 80, 3) := by decide +kernel
theorem dX12_cell_90 : decode cX12_cell 90 = .ok (.ireturn, 1) := by decide +kernel
theorem dX12_cell_91 : decode cX12_cell 91 = .ok (.aload_n 0, 1) := by decide +kernel
theorem dX12_cell_92 : decode cX12_cell 92 = .ok (.iconst 2, 1) := by decide +kernel
theorem dX12_cell_93 : decode cX12_cell 93 = .ok (.putfield 3, 3) := by decide +kernel
theorem dX12_cell_96 : decode cX12_cell 96 = .ok (.iconst 0, 1) := by decide +kernel
theorem dX12_cell_97 : decode cX12_cell 97 = .ok (.ireturn, 1) := by decide +kernel
noncomputable def o_X12_cell (F : Nat) (s : rs_S) (a1 : Int32) (a2 : Int32) : Option (Int32 × rs_S) := (o_X12_noCell (pN s 0 (nI 0)) a1).bind fun x1 => ((o_X12_throwsIf (pN s 0 (nI 0)) x1 (nI 1)).bind fun x2 => (if x2.1 = 0 then (if a2 = nI 0 then (if iL ((nI 1) + a1) 22216 then (some (gW x2.2 ((nI 1) + a1), x2.2)) else none) else (if a2 = nI 1 then (if iL ((nI 25) + a1) 22216 then (some (gW x2.2 ((nI 25) + a1), x2.2)) else none) else (if a2 = nI 2 then (if iL ((nI 49) + a1) 22216 then (some (gW x2.2 ((nI 49) + a1), x2.2)) else none) else (if a2 = nI 3 then ((o_X12_hour x2.2).bind fun x11 => ((o_X12_knownOf F x2.2 a1 x11).bind fun x12 => (some (x12, x2.2)))) else (some (nI 0, pN x2.2 0 (nI 2))))))) else (some (nI 0, x2.2))))
set_option maxHeartbeats 4000000 in
theorem t_X12_cell {Γ : jg_G} {g : Nat → jg_C} {n r : Nat} (hr : r + 11 ≤ n) (F : Nat) (s : rs_S) (a1 : Int32) (a2 : Int32)  {x : Int32 × rs_S} (h : o_X12_cell F s a1 a2 = some x) : jc Γ mX12_cell 2 0 0 [some (.ref r), some (.int a1), some (.int a2)] (rs_h g r s, n) (.inl (some (.int x.1))) (rs_h g r x.2, n) := by
  refine jc_of ?_
  rw [o_X12_cell] at h
  refine jg_aload_n dX12_cell_0 rfl ?_
  refine jg_iconst (v := nI 0) dX12_cell_1 (by decide) ?_
  refine rs_putD (s := s) (k := 0) (x := (nI 0)) fl_X12_3 dX12_cell_2 hr (by decide) (rfl) rfl rfl ?_
  refine jg_aload_n dX12_cell_5 rfl ?_
  refine jg_iload_n dX12_cell_6 rfl ?_
  obtain ⟨x1, e_x1, h⟩ := bd_some h
  refine rs_callS (As := [.int a1]) ks_X12_65 dX12_cell_7 rfl (by decide) (Nat.le_of_ble_eq_true rfl) rfl (by decide) (Nat.le_of_ble_eq_true rfl) (t_X12_noCell hr (pN s 0 (nI 0)) a1 e_x1) ?_
  refine jg_iconst (v := nI 1) dX12_cell_10 (by decide) ?_
  obtain ⟨x2, e_x2, h⟩ := bd_some h
  refine rs_call (As := [.int x1, .int (nI 1)]) kv_X12_69 dX12_cell_11 hr rfl rfl (by decide) (Nat.le_of_ble_eq_true rfl) rfl (by decide) (Nat.le_of_ble_eq_true rfl) (t_X12_throwsIf hr (pN s 0 (nI 0)) x1 (nI 1) e_x2) ?_
  refine jg_if_eq (x := x2.1) (tgt := 19) dX12_cell_14 (by decide) (fun c3 => ?_) (fun c3 => ?_)
  · replace h := it_t c3 h
    refine jg_iload_n dX12_cell_19 rfl ?_
    by_cases c4 : a2 = nI 0
    · replace h := it_t c4 h
      refine jg_tableIn (off := 32) (tgt := 52) dX12_cell_20 (by rw [c4]; decide) (by rw [c4]; decide) (by rw [c4]; rfl) (by decide) ?_
      refine jg_aload_n dX12_cell_52 rfl ?_
      refine rs_ga fl_X12_13 dX12_cell_53 hr rfl ?_
      refine jg_iconst (v := nI 1) dX12_cell_56 (by decide) ?_
      refine jg_iload_n dX12_cell_57 rfl ?_
      refine jg_iadd (x := (nI 1)) (y := a1) dX12_cell_58  ?_
      obtain ⟨q5, h⟩ := gd_some h
      refine rs_lwD (s := x2.2) (i := ((nI 1) + a1)) dX12_cell_59 hr q5 ?_
      obtain rfl := Option.some.inj h
      exact jg_ireturn dX12_cell_60 rfl ⟨rfl, rfl⟩
    replace h := it_f c4 h
    by_cases c6 : a2 = nI 1
    · replace h := it_t c6 h
      refine jg_tableIn (off := 41) (tgt := 61) dX12_cell_20 (by rw [c6]; decide) (by rw [c6]; decide) (by rw [c6]; rfl) (by decide) ?_
      refine jg_aload_n dX12_cell_61 rfl ?_
      refine rs_ga fl_X12_13 dX12_cell_62 hr rfl ?_
      refine jg_bipush (v := nI 25) dX12_cell_65 (by decide) ?_
      refine jg_iload_n dX12_cell_67 rfl ?_
      refine jg_iadd (x := (nI 25)) (y := a1) dX12_cell_68  ?_
      obtain ⟨q7, h⟩ := gd_some h
      refine rs_lwD (s := x2.2) (i := ((nI 25) + a1)) dX12_cell_69 hr q7 ?_
      obtain rfl := Option.some.inj h
      exact jg_ireturn dX12_cell_70 rfl ⟨rfl, rfl⟩
    replace h := it_f c6 h
    by_cases c8 : a2 = nI 2
    · replace h := it_t c8 h
      refine jg_tableIn (off := 51) (tgt := 71) dX12_cell_20 (by rw [c8]; decide) (by rw [c8]; decide) (by rw [c8]; rfl) (by decide) ?_
      refine jg_aload_n dX12_cell_71 rfl ?_
      refine rs_ga fl_X12_13 dX12_cell_72 hr rfl ?_
      refine jg_bipush (v := nI 49) dX12_cell_75 (by decide) ?_
      refine jg_iload_n dX12_cell_77 rfl ?_
      refine jg_iadd (x := (nI 49)) (y := a1) dX12_cell_78  ?_
      obtain ⟨q9, h⟩ := gd_some h
      refine rs_lwD (s := x2.2) (i := ((nI 49) + a1)) dX12_cell_79 hr q9 ?_
      obtain rfl := Option.some.inj h
      exact jg_ireturn dX12_cell_80 rfl ⟨rfl, rfl⟩
    replace h := it_f c8 h
    by_cases c10 : a2 = nI 3
    · replace h := it_t c10 h
      refine jg_tableIn (off := 61) (tgt := 81) dX12_cell_20 (by rw [c10]; decide) (by rw [c10]; decide) (by rw [c10]; rfl) (by decide) ?_
      refine jg_aload_n dX12_cell_81 rfl ?_
      refine jg_iload_n dX12_cell_82 rfl ?_
      refine jg_aload_n dX12_cell_83 rfl ?_
      obtain ⟨x11, e_x11, h⟩ := bd_some h
      refine rs_call (As := []) kv_X12_73 dX12_cell_84 hr rfl rfl (by decide) (Nat.le_of_ble_eq_true rfl) rfl (by decide) (Nat.le_of_ble_eq_true rfl) (t_X12_hour hr x2.2 e_x11) ?_
      obtain ⟨x12, e_x12, h⟩ := bd_some h
      refine rs_call (As := [.int a1, .int x11]) kv_X12_80 dX12_cell_87 hr rfl rfl (by decide) (Nat.le_of_ble_eq_true rfl) rfl (by decide) (Nat.le_of_ble_eq_true rfl) (t_X12_knownOf hr F x2.2 a1 x11 e_x12) ?_
      obtain rfl := Option.some.inj h
      exact jg_ireturn dX12_cell_90 rfl ⟨rfl, rfl⟩
    replace h := it_f c10 h
    refine jg_tableOut (tgt := 91) dX12_cell_20 (jt_outN 0 3 (a2) (fun k h1 h2 => by rcases (show k = 0 ∨ k = 1 ∨ k = 2 ∨ k = 3 by omega) with rfl | rfl | rfl | rfl <;> assumption)) (by decide) ?_
    refine jg_aload_n dX12_cell_91 rfl ?_
    refine jg_iconst (v := nI 2) dX12_cell_92 (by decide) ?_
    refine rs_putD (s := x2.2) (k := 0) (x := (nI 2)) fl_X12_3 dX12_cell_93 hr (by decide) (rfl) rfl rfl ?_
    refine jg_iconst (v := nI 0) dX12_cell_96 (by decide) ?_
    obtain rfl := Option.some.inj h
    exact jg_ireturn dX12_cell_97 rfl ⟨rfl, rfl⟩
  · replace h := it_f c3 h
    refine jg_iconst (v := nI 0) dX12_cell_17 (by decide) ?_
    obtain rfl := Option.some.inj h
    exact jg_ireturn dX12_cell_18 rfl ⟨rfl, rfl⟩
theorem dX12_berthAt_0 : decode cX12_berthAt 0 = .ok (.sipush 1000, 3) := by decide +kernel
theorem dX12_berthAt_3 : decode cX12_berthAt 3 = .ok (.bipush 8, 2) := by decide +kernel
theorem dX12_berthAt_5 : decode cX12_berthAt 5 = .ok (.iload_n 0, 1) := by decide +kernel
theorem dX12_berthAt_6 : decode cX12_berthAt 6 = .ok (.imul, 1) := by decide +kernel
theorem dX12_berthAt_7 : decode cX12_berthAt 7 = .ok (.iadd, 1) := by decide +kernel
theorem dX12_berthAt_8 : decode cX12_berthAt 8 = .ok (.iload_n 1, 1) := by decide +kernel
theorem dX12_berthAt_9 : decode cX12_berthAt 9 = .ok (.iadd, 1) := by decide +kernel
theorem dX12_berthAt_10 : decode cX12_berthAt 10 = .ok (.ireturn, 1) := by decide +kernel
noncomputable def o_X12_berthAt (s : rs_S) (a1 : Int32) (a2 : Int32) : Option (Int32) := some (((nI 1000) + ((nI 8) * a1)) + a2)
set_option maxHeartbeats 4000000 in
theorem t_X12_berthAt {Γ : jg_G} {g : Nat → jg_C} {n r : Nat} (hr : r + 11 ≤ n) (s : rs_S) (a1 : Int32) (a2 : Int32)  {x : Int32} (h : o_X12_berthAt s a1 a2 = some x) : jc Γ mX12_berthAt 0 0 0 [some (.int a1), some (.int a2)] (rs_h g r s, n) (.inl (some (.int x))) (rs_h g r s, n) := by
  refine jc_of ?_
  rw [o_X12_berthAt] at h
  refine jg_sipush (v := nI 1000) dX12_berthAt_0 (by decide) ?_
  refine jg_bipush (v := nI 8) dX12_berthAt_3 (by decide) ?_
  refine jg_iload_n dX12_berthAt_5 rfl ?_
  refine jg_imul (x := (nI 8)) (y := a1) dX12_berthAt_6  ?_
  refine jg_iadd (x := (nI 1000)) (y := ((nI 8) * a1)) dX12_berthAt_7  ?_
  refine jg_iload_n dX12_berthAt_8 rfl ?_
  refine jg_iadd (x := ((nI 1000) + ((nI 8) * a1))) (y := a2) dX12_berthAt_9  ?_
  obtain rfl := Option.some.inj h
  exact jg_ireturn dX12_berthAt_10 rfl ⟨rfl, rfl⟩
theorem dX12_berth_0 : decode cX12_berth 0 = .ok (.aload_n 0, 1) := by decide +kernel
theorem dX12_berth_1 : decode cX12_berth 1 = .ok (.iconst 0, 1) := by decide +kernel
theorem dX12_berth_2 : decode cX12_berth 2 = .ok (.putfield 3, 3) := by decide +kernel
theorem dX12_berth_5 : decode cX12_berth 5 = .ok (.aload_n 0, 1) := by decide +kernel
theorem dX12_berth_6 : decode cX12_berth 6 = .ok (.iload_n 1, 1) := by decide +kernel
theorem dX12_berth_7 : decode cX12_berth 7 = .ok (.invokestatic 65, 3) := by decide +kernel
theorem dX12_berth_10 : decode cX12_berth 10 = .ok (.iconst 1, 1) := by decide +kernel
theorem dX12_berth_11 : decode cX12_berth 11 = .ok (.invokevirtual 69, 3) := by decide +kernel
theorem dX12_berth_14 : decode cX12_berth 14 = .ok (.ifCond .ne 75, 3) := by decide +kernel
theorem dX12_berth_17 : decode cX12_berth 17 = .ok (.aload_n 0, 1) := by decide +kernel
theorem dX12_berth_18 : decode cX12_berth 18 = .ok (.iload_n 2, 1) := by decide +kernel
theorem dX12_berth_19 : decode cX12_berth 19 = .ok (.iconst 1, 1) := by decide +kernel
theorem dX12_berth_20 : decode cX12_berth 20 = .ok (.sipush 900, 3) := by decide +kernel
theorem dX12_berth_23 : decode cX12_berth 23 = .ok (.invokestatic 49, 3) := by decide +kernel
theorem dX12_berth_26 : decode cX12_berth 26 = .ok (.ifCond .eq 25, 3) := by decide +kernel
theorem dX12_berth_29 : decode cX12_berth 29 = .ok (.iload_n 3, 1) := by decide +kernel
theorem dX12_berth_30 : decode cX12_berth 30 = .ok (.iconst 1, 1) := by decide +kernel
theorem dX12_berth_31 : decode cX12_berth 31 = .ok (.sipush 500, 3) := by decide +kernel
theorem dX12_berth_34 : decode cX12_berth 34 = .ok (.invokestatic 49, 3) := by decide +kernel
theorem dX12_berth_37 : decode cX12_berth 37 = .ok (.ifCond .eq 14, 3) := by decide +kernel
theorem dX12_berth_40 : decode cX12_berth 40 = .ok (.iload 4, 2) := by decide +kernel
theorem dX12_berth_42 : decode cX12_berth 42 = .ok (.iconst 1, 1) := by decide +kernel
theorem dX12_berth_43 : decode cX12_berth 43 = .ok (.ldc 103, 2) := by decide +kernel
theorem dX12_berth_45 : decode cX12_berth 45 = .ok (.invokestatic 49, 3) := by decide +kernel
theorem dX12_berth_48 : decode cX12_berth 48 = .ok (.ifCond .ne 7, 3) := by decide +kernel
theorem dX12_berth_51 : decode cX12_berth 51 = .ok (.iconst 1, 1) := by decide +kernel
theorem dX12_berth_52 : decode cX12_berth 52 = .ok (.goto 4, 3) := by decide +kernel
theorem dX12_berth_55 : decode cX12_berth 55 = .ok (.iconst 0, 1) := by decide +kernel
theorem dX12_berth_56 : decode cX12_berth 56 = .ok (.iconst 2, 1) := by decide +kernel
theorem dX12_berth_57 : decode cX12_berth 57 = .ok (.invokevirtual 69, 3) := by decide +kernel
theorem dX12_berth_60 : decode cX12_berth 60 = .ok (.ifCond .ne 29, 3) := by decide +kernel
theorem dX12_berth_63 : decode cX12_berth 63 = .ok (.aload_n 0, 1) := by decide +kernel
theorem dX12_berth_64 : decode cX12_berth 64 = .ok (.aload_n 0, 1) := by decide +kernel
theorem dX12_berth_65 : decode cX12_berth 65 = .ok (.getfield 13, 3) := by decide +kernel
theorem dX12_berth_68 : decode cX12_berth 68 = .ok (.sipush 999, 3) := by decide +kernel
theorem dX12_berth_71 : decode cX12_berth 71 = .ok (.iaload, 1) := by decide +kernel
theorem dX12_berth_72 : decode cX12_berth 72 = .ok (.bipush 10, 2) := by decide +kernel
theorem dX12_berth_74 : decode cX12_berth 74 = .ok (.if_icmp .ne 7, 3) := by decide +kernel
theorem dX12_berth_77 : decode cX12_berth 77 = .ok (.iconst 1, 1) := by decide +kernel
theorem dX12_berth_78 : decode cX12_berth 78 = .ok (.goto 4, 3) := by decide +kernel
theorem dX12_berth_81 : decode cX12_berth 81 = .ok (.iconst 0, 1) := by decide +kernel
theorem dX12_berth_82 : decode cX12_berth 82 = .ok (.iconst 3, 1) := by decide +kernel
theorem dX12_berth_83 : decode cX12_berth 83 = .ok (.invokevirtual 69, 3) := by decide +kernel
theorem dX12_berth_86 : decode cX12_berth 86 = .ok (.ifCond .eq 5, 3) := by decide +kernel
theorem dX12_berth_89 : decode cX12_berth 89 = .ok (.iconst 0, 1) := by decide +kernel
theorem dX12_berth_90 : decode cX12_berth 90 = .ok (.ireturn, 1) := by decide +kernel
theorem dX12_berth_91 : decode cX12_berth 91 = .ok (.aload_n 0, 1) := by decide +kernel
theorem dX12_berth_92 : decode cX12_berth 92 = .ok (.getfield 13, 3) := by decide +kernel
theorem dX12_berth_95 : decode cX12_berth 95 = .ok (.sipush 999, 3) := by decide +kernel
theorem dX12_berth_98 : decode cX12_berth 98 = .ok (.iaload, 1) := by decide +kernel
theorem dX12_berth_99 : decode cX12_berth 99 = .ok (.istore 5, 2) := by decide +kernel
theorem dX12_berth_101 : decode cX12_berth 101 = .ok (.aload_n 0, 1) := by decide +kernel
theorem dX12_berth_102 : decode cX12_berth 102 = .ok (.getfield 13, 3) := by decide +kernel
theorem dX12_berth_105 : decode cX12_berth 105 = .ok (.sipush 999, 3) := by decide +kernel
theorem dX12_berth_108 : decode cX12_berth 108 = .ok (.dup2, 1) := by decide +kernel
theorem dX12_berth_109 : decode cX12_berth 109 = .ok (.iaload, 1) := by decide +kernel
theorem dX12_berth_110 : decode cX12_berth 110 = .ok (.iconst 1, 1) := by decide +kernel
theorem dX12_berth_111 : decode cX12_berth 111 = .ok (.iadd, 1) := by decide +kernel
theorem dX12_berth_112 : decode cX12_berth 112 = .ok (.iastore, 1) := by decide +kernel
theorem dX12_berth_113 : decode cX12_berth 113 = .ok (.aload_n 0, 1) := by decide +kernel
theorem dX12_berth_114 : decode cX12_berth 114 = .ok (.getfield 13, 3) := by decide +kernel
theorem dX12_berth_117 : decode cX12_berth 117 = .ok (.iload 5, 2) := by decide +kernel
theorem dX12_berth_119 : decode cX12_berth 119 = .ok (.iconst 0, 1) := by decide +kernel
theorem dX12_berth_120 : decode cX12_berth 120 = .ok (.invokestatic 100, 3) := by decide +kernel
theorem dX12_berth_123 : decode cX12_berth 123 = .ok (.iload_n 1, 1) := by decide +kernel
theorem dX12_berth_124 : decode cX12_berth 124 = .ok (.iastore, 1) := by decide +kernel
theorem dX12_berth_125 : decode cX12_berth 125 = .ok (.aload_n 0, 1) := by decide +kernel
theorem dX12_berth_126 : decode cX12_berth 126 = .ok (.getfield 13, 3) := by decide +kernel
theorem dX12_berth_129 : decode cX12_berth 129 = .ok (.iload 5, 2) := by decide +kernel
theorem dX12_berth_131 : decode cX12_berth 131 = .ok (.iconst 1, 1) := by decide +kernel
theorem dX12_berth_132 : decode cX12_berth 132 = .ok (.invokestatic 100, 3) := by decide +kernel
theorem dX12_berth_135 : decode cX12_berth 135 = .ok (.iload_n 2, 1) := by decide +kernel
theorem dX12_berth_136 : decode cX12_berth 136 = .ok (.iastore, 1) := by decide +kernel
theorem dX12_berth_137 : decode cX12_berth 137 = .ok (.aload_n 0, 1) := by decide +kernel
theorem dX12_berth_138 : decode cX12_berth 138 = .ok (.getfield 13, 3) := by decide +kernel
theorem dX12_berth_141 : decode cX12_berth 141 = .ok (.iload 5, 2) := by decide +kernel
theorem dX12_berth_143 : decode cX12_berth 143 = .ok (.iconst 2, 1) := by decide +kernel
theorem dX12_berth_144 : decode cX12_berth 144 = .ok (.invokestatic 100, 3) := by decide +kernel
theorem dX12_berth_147 : decode cX12_berth 147 = .ok (.iload_n 3, 1) := by decide +kernel
theorem dX12_berth_148 : decode cX12_berth 148 = .ok (.iastore, 1) := by decide +kernel
theorem dX12_berth_149 : decode cX12_berth 149 = .ok (.aload_n 0, 1) := by decide +kernel
theorem dX12_berth_150 : decode cX12_berth 150 = .ok (.getfield 13, 3) := by decide +kernel
theorem dX12_berth_153 : decode cX12_berth 153 = .ok (.iload 5, 2) := by decide +kernel
theorem dX12_berth_155 : decode cX12_berth 155 = .ok (.iconst 3, 1) := by decide +kernel
theorem dX12_berth_156 : decode cX12_berth 156 = .ok (.invokestatic 100, 3) := by decide +kernel
theorem dX12_berth_159 : decode cX12_berth 159 = .ok (.iload 4, 2) := by decide +kernel
theorem dX12_berth_161 : decode cX12_berth 161 = .ok (.iastore, 1) := by decide +kernel
theorem dX12_berth_162 : decode cX12_berth 162 = .ok (.aload_n 0, 1) := by decide +kernel
theorem dX12_berth_163 : decode cX12_berth 163 = .ok (.getfield 13, 3) := by decide +kernel
theorem dX12_berth_166 : decode cX12_berth 166 = .ok (.iload 5, 2) := by decide +kernel
theorem dX12_berth_168 : decode cX12_berth 168 = .ok (.bipush 6, 2) := by decide +kernel
theorem dX12_berth_170 : decode cX12_berth 170 = .ok (.invokestatic 100, 3) := by decide +kernel
theorem dX12_berth_173 : decode cX12_berth 173 = .ok (.iconst (-1), 1) := by decide +kernel
theorem dX12_berth_174 : decode cX12_berth 174 = .ok (.iastore, 1) := by decide +kernel
theorem dX12_berth_175 : decode cX12_berth 175 = .ok (.iload 5, 2) := by decide +kernel
theorem dX12_berth_177 : decode cX12_berth 177 = .ok (.ireturn, 1) := by decide +kernel
noncomputable def o_X12_berth (s : rs_S) (a1 : Int32) (a2 : Int32) (a3 : Int32) (a4 : Int32) : Option (Int32 × rs_S) := (o_X12_noCell (pN s 0 (nI 0)) a1).bind fun x1 => ((o_X12_throwsIf (pN s 0 (nI 0)) x1 (nI 1)).bind fun x2 => (if x2.1 = 0 then ((o_X12_in x2.2 a2 (nI 1) (nI 900)).bind fun x4 => (if x4 = 0 then (some (nI 0, pN x2.2 0 (nI 2))) else ((o_X12_in x2.2 a3 (nI 1) (nI 500)).bind fun x6 => (if x6 = 0 then (some (nI 0, pN x2.2 0 (nI 2))) else ((o_X12_in x2.2 a4 (nI 1) (nI 50000)).bind fun x8 => (if x8 = 0 then (some (nI 0, pN x2.2 0 (nI 2))) else (if (gW x2.2 (nI 999)) = (nI 10) then (some (nI 0, pN x2.2 0 (nI 3))) else ((o_X12_berthAt (pW x2.2 (nI 999) ((gW x2.2 (nI 999)) + (nI 1))) (gW x2.2 (nI 999)) (nI 0)).bind fun x11 => (if iL x11 22216 then ((o_X12_berthAt (pW (pW x2.2 (nI 999) ((gW x2.2 (nI 999)) + (nI 1))) x11 a1) (gW x2.2 (nI 999)) (nI 1)).bind fun x13 => (if iL x13 22216 then ((o_X12_berthAt (pW (pW (pW x2.2 (nI 999) ((gW x2.2 (nI 999)) + (nI 1))) x11 a1) x13 a2) (gW x2.2 (nI 999)) (nI 2)).bind fun x15 => (if iL x15 22216 then ((o_X12_berthAt (pW (pW (pW (pW x2.2 (nI 999) ((gW x2.2 (nI 999)) + (nI 1))) x11 a1) x13 a2) x15 a3) (gW x2.2 (nI 999)) (nI 3)).bind fun x17 => (if iL x17 22216 then ((o_X12_berthAt (pW (pW (pW (pW (pW x2.2 (nI 999) ((gW x2.2 (nI 999)) + (nI 1))) x11 a1) x13 a2) x15 a3) x17 a4) (gW x2.2 (nI 999)) (nI 6)).bind fun x19 => (if iL x19 22216 then (some (gW x2.2 (nI 999), pW (pW (pW (pW (pW (pW x2.2 (nI 999) ((gW x2.2 (nI 999)) + (nI 1))) x11 a1) x13 a2) x15 a3) x17 a4) x19 (-1))) else none)) else none)) else none)) else none)) else none))))))))) else (some (nI 0, x2.2))))
set_option maxHeartbeats 4000000 in
theorem t_X12_berth {Γ : jg_G} {g : Nat → jg_C} {n r : Nat} (hr : r + 11 ≤ n) (s : rs_S) (a1 : Int32) (a2 : Int32) (a3 : Int32) (a4 : Int32)  {x : Int32 × rs_S} (h : o_X12_berth s a1 a2 a3 a4 = some x) : jc Γ mX12_berth 2 0 0 [some (.ref r), some (.int a1), some (.int a2), some (.int a3), some (.int a4), none] (rs_h g r s, n) (.inl (some (.int x.1))) (rs_h g r x.2, n) := by
  refine jc_of ?_
  rw [o_X12_berth] at h
  refine jg_aload_n dX12_berth_0 rfl ?_
  refine jg_iconst (v := nI 0) dX12_berth_1 (by decide) ?_
  refine rs_putD (s := s) (k := 0) (x := (nI 0)) fl_X12_3 dX12_berth_2 hr (by decide) (rfl) rfl rfl ?_
  refine jg_aload_n dX12_berth_5 rfl ?_
  refine jg_iload_n dX12_berth_6 rfl ?_
  obtain ⟨x1, e_x1, h⟩ := bd_some h
  refine rs_callS (As := [.int a1]) ks_X12_65 dX12_berth_7 rfl (by decide) (Nat.le_of_ble_eq_true rfl) rfl (by decide) (Nat.le_of_ble_eq_true rfl) (t_X12_noCell hr (pN s 0 (nI 0)) a1 e_x1) ?_
  refine jg_iconst (v := nI 1) dX12_berth_10 (by decide) ?_
  obtain ⟨x2, e_x2, h⟩ := bd_some h
  refine rs_call (As := [.int x1, .int (nI 1)]) kv_X12_69 dX12_berth_11 hr rfl rfl (by decide) (Nat.le_of_ble_eq_true rfl) rfl (by decide) (Nat.le_of_ble_eq_true rfl) (t_X12_throwsIf hr (pN s 0 (nI 0)) x1 (nI 1) e_x2) ?_
  refine jg_if_ne (x := x2.1) (tgt := 89) dX12_berth_14 (by decide) (fun c3 => ?_) (fun c3 => ?_)
  · replace h := it_f c3 h
    refine jg_iconst (v := nI 0) dX12_berth_89 (by decide) ?_
    obtain rfl := Option.some.inj h
    exact jg_ireturn dX12_berth_90 rfl ⟨rfl, rfl⟩
  · replace h := it_t c3 h
    refine jg_aload_n dX12_berth_17 rfl ?_
    refine jg_iload_n dX12_berth_18 rfl ?_
    refine jg_iconst (v := nI 1) dX12_berth_19 (by decide) ?_
    refine jg_sipush (v := nI 900) dX12_berth_20 (by decide) ?_
    obtain ⟨x4, e_x4, h⟩ := bd_some h
    refine rs_callS (As := [.int a2, .int (nI 1), .int (nI 900)]) ks_X12_49 dX12_berth_23 rfl (by decide) (Nat.le_of_ble_eq_true rfl) rfl (by decide) (Nat.le_of_ble_eq_true rfl) (t_X12_in hr x2.2 a2 (nI 1) (nI 900) e_x4) ?_
    refine jg_if_eq (x := x4) (tgt := 51) dX12_berth_26 (by decide) (fun c5 => ?_) (fun c5 => ?_)
    · replace h := it_t c5 h
      refine jg_iconst (v := nI 1) dX12_berth_51 (by decide) ?_
      refine jg_goto (tgt := 56) dX12_berth_52 (by decide) ?_
      refine jg_iconst (v := nI 2) dX12_berth_56 (by decide) ?_
      refine rs_call (As := [.int (nI 1), .int (nI 2)]) kv_X12_69 dX12_berth_57 hr rfl rfl (by decide) (Nat.le_of_ble_eq_true rfl) rfl (by decide) (Nat.le_of_ble_eq_true rfl) (t_X12_throwsIf hr x2.2 (nI 1) (nI 2) (o_thr1 x2.2 (nI 2))) ?_
      refine jg_if_ne (x := (nI 1)) (tgt := 89) dX12_berth_60 (by decide) (fun _ => ?_) (fun q9 => absurd q9 (by decide))
      refine jg_iconst (v := nI 0) dX12_berth_89 (by decide) ?_
      obtain rfl := Option.some.inj h
      exact jg_ireturn dX12_berth_90 rfl ⟨rfl, rfl⟩
    · replace h := it_f c5 h
      refine jg_iload_n dX12_berth_29 rfl ?_
      refine jg_iconst (v := nI 1) dX12_berth_30 (by decide) ?_
      refine jg_sipush (v := nI 500) dX12_berth_31 (by decide) ?_
      obtain ⟨x6, e_x6, h⟩ := bd_some h
      refine rs_callS (As := [.int a3, .int (nI 1), .int (nI 500)]) ks_X12_49 dX12_berth_34 rfl (by decide) (Nat.le_of_ble_eq_true rfl) rfl (by decide) (Nat.le_of_ble_eq_true rfl) (t_X12_in hr x2.2 a3 (nI 1) (nI 500) e_x6) ?_
      refine jg_if_eq (x := x6) (tgt := 51) dX12_berth_37 (by decide) (fun c7 => ?_) (fun c7 => ?_)
      · replace h := it_t c7 h
        refine jg_iconst (v := nI 1) dX12_berth_51 (by decide) ?_
        refine jg_goto (tgt := 56) dX12_berth_52 (by decide) ?_
        refine jg_iconst (v := nI 2) dX12_berth_56 (by decide) ?_
        refine rs_call (As := [.int (nI 1), .int (nI 2)]) kv_X12_69 dX12_berth_57 hr rfl rfl (by decide) (Nat.le_of_ble_eq_true rfl) rfl (by decide) (Nat.le_of_ble_eq_true rfl) (t_X12_throwsIf hr x2.2 (nI 1) (nI 2) (o_thr1 x2.2 (nI 2))) ?_
        refine jg_if_ne (x := (nI 1)) (tgt := 89) dX12_berth_60 (by decide) (fun _ => ?_) (fun q9 => absurd q9 (by decide))
        refine jg_iconst (v := nI 0) dX12_berth_89 (by decide) ?_
        obtain rfl := Option.some.inj h
        exact jg_ireturn dX12_berth_90 rfl ⟨rfl, rfl⟩
      · replace h := it_f c7 h
        refine jg_iload dX12_berth_40 rfl ?_
        refine jg_iconst (v := nI 1) dX12_berth_42 (by decide) ?_
        refine jg_ldc kk_X12_103 dX12_berth_43 ?_
        rw [show (50000 : Int32) = nI 50000 from rfl]
        obtain ⟨x8, e_x8, h⟩ := bd_some h
        refine rs_callS (As := [.int a4, .int (nI 1), .int (nI 50000)]) ks_X12_49 dX12_berth_45 rfl (by decide) (Nat.le_of_ble_eq_true rfl) rfl (by decide) (Nat.le_of_ble_eq_true rfl) (t_X12_in hr x2.2 a4 (nI 1) (nI 50000) e_x8) ?_
        refine jg_if_ne (x := x8) (tgt := 55) dX12_berth_48 (by decide) (fun c9 => ?_) (fun c9 => ?_)
        · replace h := it_f c9 h
          refine jg_iconst (v := nI 0) dX12_berth_55 (by decide) ?_
          refine jg_iconst (v := nI 2) dX12_berth_56 (by decide) ?_
          refine rs_call (As := [.int (nI 0), .int (nI 2)]) kv_X12_69 dX12_berth_57 hr rfl rfl (by decide) (Nat.le_of_ble_eq_true rfl) rfl (by decide) (Nat.le_of_ble_eq_true rfl) (t_X12_throwsIf hr x2.2 (nI 0) (nI 2) (o_thr0 x2.2 (nI 2))) ?_
          refine jg_if_ne (x := (nI 0)) (tgt := 89) dX12_berth_60 (by decide) (fun q9 => absurd q9 (by decide)) (fun _ => ?_)
          refine jg_aload_n dX12_berth_63 rfl ?_
          refine jg_aload_n dX12_berth_64 rfl ?_
          refine rs_ga fl_X12_13 dX12_berth_65 hr rfl ?_
          refine jg_sipush (v := nI 999) dX12_berth_68 (by decide) ?_
          refine rs_lwD (s := x2.2) (i := (nI 999)) dX12_berth_71 hr (by decide) ?_
          refine jg_bipush (v := nI 10) dX12_berth_72 (by decide) ?_
          refine jg_icmp_ne (x := (gW x2.2 (nI 999))) (y := (nI 10)) (tgt := 81) dX12_berth_74 (by decide) (fun c10 => ?_) (fun c10 => ?_)
          · replace h := it_f c10 h
            refine jg_iconst (v := nI 0) dX12_berth_81 (by decide) ?_
            refine jg_iconst (v := nI 3) dX12_berth_82 (by decide) ?_
            refine rs_call (As := [.int (nI 0), .int (nI 3)]) kv_X12_69 dX12_berth_83 hr rfl rfl (by decide) (Nat.le_of_ble_eq_true rfl) rfl (by decide) (Nat.le_of_ble_eq_true rfl) (t_X12_throwsIf hr x2.2 (nI 0) (nI 3) (o_thr0 x2.2 (nI 3))) ?_
            refine jg_if_eq (x := (nI 0)) (tgt := 91) dX12_berth_86 (by decide) (fun _ => ?_) (fun q9 => absurd q9 (by decide))
            refine jg_aload_n dX12_berth_91 rfl ?_
            refine rs_ga fl_X12_13 dX12_berth_92 hr rfl ?_
            refine jg_sipush (v := nI 999) dX12_berth_95 (by decide) ?_
            refine rs_lwD (s := x2.2) (i := (nI 999)) dX12_berth_98 hr (by decide) ?_
            refine jg_istore (L' := [some (.ref r), some (.int a1), some (.int a2), some (.int a3), some (.int a4), some (.int (gW x2.2 (nI 999)))]) dX12_berth_99 (by decide) rfl ?_
            refine jg_aload_n dX12_berth_101 rfl ?_
            refine rs_ga fl_X12_13 dX12_berth_102 hr rfl ?_
            refine jg_sipush (v := nI 999) dX12_berth_105 (by decide) ?_
            refine jg_dup2 dX12_berth_108 rfl rfl ?_
            refine rs_lwD (s := x2.2) (i := (nI 999)) dX12_berth_109 hr (by decide) ?_
            refine jg_iconst (v := nI 1) dX12_berth_110 (by decide) ?_
            refine jg_iadd (x := (gW x2.2 (nI 999))) (y := (nI 1)) dX12_berth_111  ?_
            refine rs_swD (s := x2.2) (i := (nI 999)) (x := ((gW x2.2 (nI 999)) + (nI 1))) dX12_berth_112 hr (by decide) ?_
            refine jg_aload_n dX12_berth_113 rfl ?_
            refine rs_ga fl_X12_13 dX12_berth_114 hr rfl ?_
            refine jg_iload dX12_berth_117 rfl ?_
            refine jg_iconst (v := nI 0) dX12_berth_119 (by decide) ?_
            obtain ⟨x11, e_x11, h⟩ := bd_some h
            refine rs_callS (As := [.int (gW x2.2 (nI 999)), .int (nI 0)]) ks_X12_100 dX12_berth_120 rfl (by decide) (Nat.le_of_ble_eq_true rfl) rfl (by decide) (Nat.le_of_ble_eq_true rfl) (t_X12_berthAt hr (pW x2.2 (nI 999) ((gW x2.2 (nI 999)) + (nI 1))) (gW x2.2 (nI 999)) (nI 0) e_x11) ?_
            refine jg_iload_n dX12_berth_123 rfl ?_
            obtain ⟨q12, h⟩ := gd_some h
            refine rs_swD (s := (pW x2.2 (nI 999) ((gW x2.2 (nI 999)) + (nI 1)))) (i := x11) (x := a1) dX12_berth_124 hr q12 ?_
            refine jg_aload_n dX12_berth_125 rfl ?_
            refine rs_ga fl_X12_13 dX12_berth_126 hr rfl ?_
            refine jg_iload dX12_berth_129 rfl ?_
            refine jg_iconst (v := nI 1) dX12_berth_131 (by decide) ?_
            obtain ⟨x13, e_x13, h⟩ := bd_some h
            refine rs_callS (As := [.int (gW x2.2 (nI 999)), .int (nI 1)]) ks_X12_100 dX12_berth_132 rfl (by decide) (Nat.le_of_ble_eq_true rfl) rfl (by decide) (Nat.le_of_ble_eq_true rfl) (t_X12_berthAt hr (pW (pW x2.2 (nI 999) ((gW x2.2 (nI 999)) + (nI 1))) x11 a1) (gW x2.2 (nI 999)) (nI 1) e_x13) ?_
            refine jg_iload_n dX12_berth_135 rfl ?_
            obtain ⟨q14, h⟩ := gd_some h
            refine rs_swD (s := (pW (pW x2.2 (nI 999) ((gW x2.2 (nI 999)) + (nI 1))) x11 a1)) (i := x13) (x := a2) dX12_berth_136 hr q14 ?_
            refine jg_aload_n dX12_berth_137 rfl ?_
            refine rs_ga fl_X12_13 dX12_berth_138 hr rfl ?_
            refine jg_iload dX12_berth_141 rfl ?_
            refine jg_iconst (v := nI 2) dX12_berth_143 (by decide) ?_
            obtain ⟨x15, e_x15, h⟩ := bd_some h
            refine rs_callS (As := [.int (gW x2.2 (nI 999)), .int (nI 2)]) ks_X12_100 dX12_berth_144 rfl (by decide) (Nat.le_of_ble_eq_true rfl) rfl (by decide) (Nat.le_of_ble_eq_true rfl) (t_X12_berthAt hr (pW (pW (pW x2.2 (nI 999) ((gW x2.2 (nI 999)) + (nI 1))) x11 a1) x13 a2) (gW x2.2 (nI 999)) (nI 2) e_x15) ?_
            refine jg_iload_n dX12_berth_147 rfl ?_
            obtain ⟨q16, h⟩ := gd_some h
            refine rs_swD (s := (pW (pW (pW x2.2 (nI 999) ((gW x2.2 (nI 999)) + (nI 1))) x11 a1) x13 a2)) (i := x15) (x := a3) dX12_berth_148 hr q16 ?_
            refine jg_aload_n dX12_berth_149 rfl ?_
            refine rs_ga fl_X12_13 dX12_berth_150 hr rfl ?_
            refine jg_iload dX12_berth_153 rfl ?_
            refine jg_iconst (v := nI 3) dX12_berth_155 (by decide) ?_
            obtain ⟨x17, e_x17, h⟩ := bd_some h
            refine rs_callS (As := [.int (gW x2.2 (nI 999)), .int (nI 3)]) ks_X12_100 dX12_berth_156 rfl (by decide) (Nat.le_of_ble_eq_true rfl) rfl (by decide) (Nat.le_of_ble_eq_true rfl) (t_X12_berthAt hr (pW (pW (pW (pW x2.2 (nI 999) ((gW x2.2 (nI 999)) + (nI 1))) x11 a1) x13 a2) x15 a3) (gW x2.2 (nI 999)) (nI 3) e_x17) ?_
            refine jg_iload dX12_berth_159 rfl ?_
            obtain ⟨q18, h⟩ := gd_some h
            refine rs_swD (s := (pW (pW (pW (pW x2.2 (nI 999) ((gW x2.2 (nI 999)) + (nI 1))) x11 a1) x13 a2) x15 a3)) (i := x17) (x := a4) dX12_berth_161 hr q18 ?_
            refine jg_aload_n dX12_berth_162 rfl ?_
            refine rs_ga fl_X12_13 dX12_berth_163 hr rfl ?_
            refine jg_iload dX12_berth_166 rfl ?_
            refine jg_bipush (v := nI 6) dX12_berth_168 (by decide) ?_
            obtain ⟨x19, e_x19, h⟩ := bd_some h
            refine rs_callS (As := [.int (gW x2.2 (nI 999)), .int (nI 6)]) ks_X12_100 dX12_berth_170 rfl (by decide) (Nat.le_of_ble_eq_true rfl) rfl (by decide) (Nat.le_of_ble_eq_true rfl) (t_X12_berthAt hr (pW (pW (pW (pW (pW x2.2 (nI 999) ((gW x2.2 (nI 999)) + (nI 1))) x11 a1) x13 a2) x15 a3) x17 a4) (gW x2.2 (nI 999)) (nI 6) e_x19) ?_
            refine jg_iconst (v := (-1)) dX12_berth_173 (by decide) ?_
            obtain ⟨q20, h⟩ := gd_some h
            refine rs_swD (s := (pW (pW (pW (pW (pW x2.2 (nI 999) ((gW x2.2 (nI 999)) + (nI 1))) x11 a1) x13 a2) x15 a3) x17 a4)) (i := x19) (x := (-1)) dX12_berth_174 hr q20 ?_
            refine jg_iload dX12_berth_175 rfl ?_
            obtain rfl := Option.some.inj h
            exact jg_ireturn dX12_berth_177 rfl ⟨rfl, rfl⟩
          · replace h := it_t c10 h
            refine jg_iconst (v := nI 1) dX12_berth_77 (by decide) ?_
            refine jg_goto (tgt := 82) dX12_berth_78 (by decide) ?_
            refine jg_iconst (v := nI 3) dX12_berth_82 (by decide) ?_
            refine rs_call (As := [.int (nI 1), .int (nI 3)]) kv_X12_69 dX12_berth_83 hr rfl rfl (by decide) (Nat.le_of_ble_eq_true rfl) rfl (by decide) (Nat.le_of_ble_eq_true rfl) (t_X12_throwsIf hr x2.2 (nI 1) (nI 3) (o_thr1 x2.2 (nI 3))) ?_
            refine jg_if_eq (x := (nI 1)) (tgt := 91) dX12_berth_86 (by decide) (fun q9 => absurd q9 (by decide)) (fun _ => ?_)
            refine jg_iconst (v := nI 0) dX12_berth_89 (by decide) ?_
            obtain rfl := Option.some.inj h
            exact jg_ireturn dX12_berth_90 rfl ⟨rfl, rfl⟩
        · replace h := it_t c9 h
          refine jg_iconst (v := nI 1) dX12_berth_51 (by decide) ?_
          refine jg_goto (tgt := 56) dX12_berth_52 (by decide) ?_
          refine jg_iconst (v := nI 2) dX12_berth_56 (by decide) ?_
          refine rs_call (As := [.int (nI 1), .int (nI 2)]) kv_X12_69 dX12_berth_57 hr rfl rfl (by decide) (Nat.le_of_ble_eq_true rfl) rfl (by decide) (Nat.le_of_ble_eq_true rfl) (t_X12_throwsIf hr x2.2 (nI 1) (nI 2) (o_thr1 x2.2 (nI 2))) ?_
          refine jg_if_ne (x := (nI 1)) (tgt := 89) dX12_berth_60 (by decide) (fun _ => ?_) (fun q9 => absurd q9 (by decide))
          refine jg_iconst (v := nI 0) dX12_berth_89 (by decide) ?_
          obtain rfl := Option.some.inj h
          exact jg_ireturn dX12_berth_90 rfl ⟨rfl, rfl⟩
theorem dX12_hands_0 : decode cX12_hands 0 = .ok (.aload_n 0, 1) := by decide +kernel
theorem dX12_hands_1 : decode cX12_hands 1 = .ok (.iconst 0, 1) := by decide +kernel
theorem dX12_hands_2 : decode cX12_hands 2 = .ok (.putfield 3, 3) := by decide +kernel
theorem dX12_hands_5 : decode cX12_hands 5 = .ok (.aload_n 0, 1) := by decide +kernel
theorem dX12_hands_6 : decode cX12_hands 6 = .ok (.iload_n 1, 1) := by decide +kernel
theorem dX12_hands_7 : decode cX12_hands 7 = .ok (.iconst 0, 1) := by decide +kernel
theorem dX12_hands_8 : decode cX12_hands 8 = .ok (.bipush 20, 2) := by decide +kernel
theorem dX12_hands_10 : decode cX12_hands 10 = .ok (.invokestatic 49, 3) := by decide +kernel
theorem dX12_hands_13 : decode cX12_hands 13 = .ok (.ifCond .eq 13, 3) := by decide +kernel
theorem dX12_hands_16 : decode cX12_hands 16 = .ok (.iload_n 2, 1) := by decide +kernel
theorem dX12_hands_17 : decode cX12_hands 17 = .ok (.iconst 0, 1) := by decide +kernel
theorem dX12_hands_18 : decode cX12_hands 18 = .ok (.bipush 100, 2) := by decide +kernel
theorem dX12_hands_20 : decode cX12_hands 20 = .ok (.invokestatic 49, 3) := by decide +kernel
theorem dX12_hands_23 : decode cX12_hands 23 = .ok (.ifCond .ne 7, 3) := by decide +kernel
theorem dX12_hands_26 : decode cX12_hands 26 = .ok (.iconst 1, 1) := by decide +kernel
theorem dX12_hands_27 : decode cX12_hands 27 = .ok (.goto 4, 3) := by decide +kernel
theorem dX12_hands_30 : decode cX12_hands 30 = .ok (.iconst 0, 1) := by decide +kernel
theorem dX12_hands_31 : decode cX12_hands 31 = .ok (.iconst 1, 1) := by decide +kernel
theorem dX12_hands_32 : decode cX12_hands 32 = .ok (.invokevirtual 69, 3) := by decide +kernel
theorem dX12_hands_35 : decode cX12_hands 35 = .ok (.ifCond .eq 4, 3) := by decide +kernel
theorem dX12_hands_38 : decode cX12_hands 38 = .ok (.return_, 1) := by decide +kernel
theorem dX12_hands_39 : decode cX12_hands 39 = .ok (.aload_n 0, 1) := by decide +kernel
theorem dX12_hands_40 : decode cX12_hands 40 = .ok (.getfield 13, 3) := by decide +kernel
theorem dX12_hands_43 : decode cX12_hands 43 = .ok (.sipush 1080, 3) := by decide +kernel
theorem dX12_hands_46 : decode cX12_hands 46 = .ok (.iload_n 1, 1) := by decide +kernel
theorem dX12_hands_47 : decode cX12_hands 47 = .ok (.iastore, 1) := by decide +kernel
theorem dX12_hands_48 : decode cX12_hands 48 = .ok (.aload_n 0, 1) := by decide +kernel
theorem dX12_hands_49 : decode cX12_hands 49 = .ok (.getfield 13, 3) := by decide +kernel
theorem dX12_hands_52 : decode cX12_hands 52 = .ok (.sipush 1081, 3) := by decide +kernel
theorem dX12_hands_55 : decode cX12_hands 55 = .ok (.iload_n 2, 1) := by decide +kernel
theorem dX12_hands_56 : decode cX12_hands 56 = .ok (.iastore, 1) := by decide +kernel
theorem dX12_hands_57 : decode cX12_hands 57 = .ok (.return_, 1) := by decide +kernel
noncomputable def o_X12_hands (s : rs_S) (a1 : Int32) (a2 : Int32) : Option (rs_S) := (o_X12_in (pN s 0 (nI 0)) a1 (nI 0) (nI 20)).bind fun x1 => (if x1 = 0 then (some (pN (pN s 0 (nI 0)) 0 (nI 1))) else ((o_X12_in (pN s 0 (nI 0)) a2 (nI 0) (nI 100)).bind fun x3 => (if x3 = 0 then (some (pN (pN s 0 (nI 0)) 0 (nI 1))) else (some (pW (pW (pN s 0 (nI 0)) (nI 1080) a1) (nI 1081) a2)))))
set_option maxHeartbeats 4000000 in
theorem t_X12_hands {Γ : jg_G} {g : Nat → jg_C} {n r : Nat} (hr : r + 11 ≤ n) (s : rs_S) (a1 : Int32) (a2 : Int32)  {x : rs_S} (h : o_X12_hands s a1 a2 = some x) : jc Γ mX12_hands 1 0 0 [some (.ref r), some (.int a1), some (.int a2)] (rs_h g r s, n) (.inl none) (rs_h g r x, n) := by
  refine jc_of ?_
  rw [o_X12_hands] at h
  refine jg_aload_n dX12_hands_0 rfl ?_
  refine jg_iconst (v := nI 0) dX12_hands_1 (by decide) ?_
  refine rs_putD (s := s) (k := 0) (x := (nI 0)) fl_X12_3 dX12_hands_2 hr (by decide) (rfl) rfl rfl ?_
  refine jg_aload_n dX12_hands_5 rfl ?_
  refine jg_iload_n dX12_hands_6 rfl ?_
  refine jg_iconst (v := nI 0) dX12_hands_7 (by decide) ?_
  refine jg_bipush (v := nI 20) dX12_hands_8 (by decide) ?_
  obtain ⟨x1, e_x1, h⟩ := bd_some h
  refine rs_callS (As := [.int a1, .int (nI 0), .int (nI 20)]) ks_X12_49 dX12_hands_10 rfl (by decide) (Nat.le_of_ble_eq_true rfl) rfl (by decide) (Nat.le_of_ble_eq_true rfl) (t_X12_in hr (pN s 0 (nI 0)) a1 (nI 0) (nI 20) e_x1) ?_
  refine jg_if_eq (x := x1) (tgt := 26) dX12_hands_13 (by decide) (fun c2 => ?_) (fun c2 => ?_)
  · replace h := it_t c2 h
    refine jg_iconst (v := nI 1) dX12_hands_26 (by decide) ?_
    refine jg_goto (tgt := 31) dX12_hands_27 (by decide) ?_
    refine jg_iconst (v := nI 1) dX12_hands_31 (by decide) ?_
    refine rs_call (As := [.int (nI 1), .int (nI 1)]) kv_X12_69 dX12_hands_32 hr rfl rfl (by decide) (Nat.le_of_ble_eq_true rfl) rfl (by decide) (Nat.le_of_ble_eq_true rfl) (t_X12_throwsIf hr (pN s 0 (nI 0)) (nI 1) (nI 1) (o_thr1 (pN s 0 (nI 0)) (nI 1))) ?_
    refine jg_if_eq (x := (nI 1)) (tgt := 39) dX12_hands_35 (by decide) (fun q9 => absurd q9 (by decide)) (fun _ => ?_)
    obtain rfl := Option.some.inj h
    exact jg_return dX12_hands_38 rfl ⟨rfl, rfl⟩
  · replace h := it_f c2 h
    refine jg_iload_n dX12_hands_16 rfl ?_
    refine jg_iconst (v := nI 0) dX12_hands_17 (by decide) ?_
    refine jg_bipush (v := nI 100) dX12_hands_18 (by decide) ?_
    obtain ⟨x3, e_x3, h⟩ := bd_some h
    refine rs_callS (As := [.int a2, .int (nI 0), .int (nI 100)]) ks_X12_49 dX12_hands_20 rfl (by decide) (Nat.le_of_ble_eq_true rfl) rfl (by decide) (Nat.le_of_ble_eq_true rfl) (t_X12_in hr (pN s 0 (nI 0)) a2 (nI 0) (nI 100) e_x3) ?_
    refine jg_if_ne (x := x3) (tgt := 30) dX12_hands_23 (by decide) (fun c4 => ?_) (fun c4 => ?_)
    · replace h := it_f c4 h
      refine jg_iconst (v := nI 0) dX12_hands_30 (by decide) ?_
      refine jg_iconst (v := nI 1) dX12_hands_31 (by decide) ?_
      refine rs_call (As := [.int (nI 0), .int (nI 1)]) kv_X12_69 dX12_hands_32 hr rfl rfl (by decide) (Nat.le_of_ble_eq_true rfl) rfl (by decide) (Nat.le_of_ble_eq_true rfl) (t_X12_throwsIf hr (pN s 0 (nI 0)) (nI 0) (nI 1) (o_thr0 (pN s 0 (nI 0)) (nI 1))) ?_
      refine jg_if_eq (x := (nI 0)) (tgt := 39) dX12_hands_35 (by decide) (fun _ => ?_) (fun q9 => absurd q9 (by decide))
      refine jg_aload_n dX12_hands_39 rfl ?_
      refine rs_ga fl_X12_13 dX12_hands_40 hr rfl ?_
      refine jg_sipush (v := nI 1080) dX12_hands_43 (by decide) ?_
      refine jg_iload_n dX12_hands_46 rfl ?_
      refine rs_swD (s := (pN s 0 (nI 0))) (i := (nI 1080)) (x := a1) dX12_hands_47 hr (by decide) ?_
      refine jg_aload_n dX12_hands_48 rfl ?_
      refine rs_ga fl_X12_13 dX12_hands_49 hr rfl ?_
      refine jg_sipush (v := nI 1081) dX12_hands_52 (by decide) ?_
      refine jg_iload_n dX12_hands_55 rfl ?_
      refine rs_swD (s := (pW (pN s 0 (nI 0)) (nI 1080) a1)) (i := (nI 1081)) (x := a2) dX12_hands_56 hr (by decide) ?_
      obtain rfl := Option.some.inj h
      exact jg_return dX12_hands_57 rfl ⟨rfl, rfl⟩
    · replace h := it_t c4 h
      refine jg_iconst (v := nI 1) dX12_hands_26 (by decide) ?_
      refine jg_goto (tgt := 31) dX12_hands_27 (by decide) ?_
      refine jg_iconst (v := nI 1) dX12_hands_31 (by decide) ?_
      refine rs_call (As := [.int (nI 1), .int (nI 1)]) kv_X12_69 dX12_hands_32 hr rfl rfl (by decide) (Nat.le_of_ble_eq_true rfl) rfl (by decide) (Nat.le_of_ble_eq_true rfl) (t_X12_throwsIf hr (pN s 0 (nI 0)) (nI 1) (nI 1) (o_thr1 (pN s 0 (nI 0)) (nI 1))) ?_
      refine jg_if_eq (x := (nI 1)) (tgt := 39) dX12_hands_35 (by decide) (fun q9 => absurd q9 (by decide)) (fun _ => ?_)
      obtain rfl := Option.some.inj h
      exact jg_return dX12_hands_38 rfl ⟨rfl, rfl⟩
theorem dX12_payer_0 : decode cX12_payer 0 = .ok (.aload_n 0, 1) := by decide +kernel
theorem dX12_payer_1 : decode cX12_payer 1 = .ok (.iconst 0, 1) := by decide +kernel
theorem dX12_payer_2 : decode cX12_payer 2 = .ok (.putfield 3, 3) := by decide +kernel
theorem dX12_payer_5 : decode cX12_payer 5 = .ok (.aload_n 0, 1) := by decide +kernel
theorem dX12_payer_6 : decode cX12_payer 6 = .ok (.aload_n 0, 1) := by decide +kernel
theorem dX12_payer_7 : decode cX12_payer 7 = .ok (.getfield 13, 3) := by decide +kernel
theorem dX12_payer_10 : decode cX12_payer 10 = .ok (.sipush 1090, 3) := by decide +kernel
theorem dX12_payer_13 : decode cX12_payer 13 = .ok (.iaload, 1) := by decide +kernel
theorem dX12_payer_14 : decode cX12_payer 14 = .ok (.bipush 30, 2) := by decide +kernel
theorem dX12_payer_16 : decode cX12_payer 16 = .ok (.if_icmp .ne 7, 3) := by decide +kernel
theorem dX12_payer_19 : decode cX12_payer 19 = .ok (.iconst 1, 1) := by decide +kernel
theorem dX12_payer_20 : decode cX12_payer 20 = .ok (.goto 4, 3) := by decide +kernel
theorem dX12_payer_23 : decode cX12_payer 23 = .ok (.iconst 0, 1) := by decide +kernel
theorem dX12_payer_24 : decode cX12_payer 24 = .ok (.iconst 1, 1) := by decide +kernel
theorem dX12_payer_25 : decode cX12_payer 25 = .ok (.invokevirtual 69, 3) := by decide +kernel
theorem dX12_payer_28 : decode cX12_payer 28 = .ok (.ifCond .eq 5, 3) := by decide +kernel
theorem dX12_payer_31 : decode cX12_payer 31 = .ok (.iconst 0, 1) := by decide +kernel
theorem dX12_payer_32 : decode cX12_payer 32 = .ok (.ireturn, 1) := by decide +kernel
theorem dX12_payer_33 : decode cX12_payer 33 = .ok (.aload_n 0, 1) := by decide +kernel
theorem dX12_payer_34 : decode cX12_payer 34 = .ok (.getfield 13, 3) := by decide +kernel
theorem dX12_payer_37 : decode cX12_payer 37 = .ok (.sipush 1090, 3) := by decide +kernel
theorem dX12_payer_40 : decode cX12_payer 40 = .ok (.dup2, 1) := by decide +kernel
theorem dX12_payer_41 : decode cX12_payer 41 = .ok (.iaload, 1) := by decide +kernel
theorem dX12_payer_42 : decode cX12_payer 42 = .ok (.iconst 1, 1) := by decide +kernel
theorem dX12_payer_43 : decode cX12_payer 43 = .ok (.iadd, 1) := by decide +kernel
theorem dX12_payer_44 : decode cX12_payer 44 = .ok (.iastore, 1) := by decide +kernel
theorem dX12_payer_45 : decode cX12_payer 45 = .ok (.aload_n 0, 1) := by decide +kernel
theorem dX12_payer_46 : decode cX12_payer 46 = .ok (.getfield 13, 3) := by decide +kernel
theorem dX12_payer_49 : decode cX12_payer 49 = .ok (.sipush 1090, 3) := by decide +kernel
theorem dX12_payer_52 : decode cX12_payer 52 = .ok (.iaload, 1) := by decide +kernel
theorem dX12_payer_53 : decode cX12_payer 53 = .ok (.iconst 1, 1) := by decide +kernel
theorem dX12_payer_54 : decode cX12_payer 54 = .ok (.isub, 1) := by decide +kernel
theorem dX12_payer_55 : decode cX12_payer 55 = .ok (.ireturn, 1) := by decide +kernel
noncomputable def o_X12_payer (s : rs_S) : Option (Int32 × rs_S) := if (gW (pN s 0 (nI 0)) (nI 1090)) = (nI 30) then (some (nI 0, pN (pN s 0 (nI 0)) 0 (nI 1))) else (some ((gW (pW (pN s 0 (nI 0)) (nI 1090) ((gW (pN s 0 (nI 0)) (nI 1090)) + (nI 1))) (nI 1090)) - (nI 1), pW (pN s 0 (nI 0)) (nI 1090) ((gW (pN s 0 (nI 0)) (nI 1090)) + (nI 1))))
set_option maxHeartbeats 4000000 in
theorem t_X12_payer {Γ : jg_G} {g : Nat → jg_C} {n r : Nat} (hr : r + 11 ≤ n) (s : rs_S)  {x : Int32 × rs_S} (h : o_X12_payer s = some x) : jc Γ mX12_payer 1 0 0 [some (.ref r)] (rs_h g r s, n) (.inl (some (.int x.1))) (rs_h g r x.2, n) := by
  refine jc_of ?_
  rw [o_X12_payer] at h
  refine jg_aload_n dX12_payer_0 rfl ?_
  refine jg_iconst (v := nI 0) dX12_payer_1 (by decide) ?_
  refine rs_putD (s := s) (k := 0) (x := (nI 0)) fl_X12_3 dX12_payer_2 hr (by decide) (rfl) rfl rfl ?_
  refine jg_aload_n dX12_payer_5 rfl ?_
  refine jg_aload_n dX12_payer_6 rfl ?_
  refine rs_ga fl_X12_13 dX12_payer_7 hr rfl ?_
  refine jg_sipush (v := nI 1090) dX12_payer_10 (by decide) ?_
  refine rs_lwD (s := (pN s 0 (nI 0))) (i := (nI 1090)) dX12_payer_13 hr (by decide) ?_
  refine jg_bipush (v := nI 30) dX12_payer_14 (by decide) ?_
  refine jg_icmp_ne (x := (gW (pN s 0 (nI 0)) (nI 1090))) (y := (nI 30)) (tgt := 23) dX12_payer_16 (by decide) (fun c1 => ?_) (fun c1 => ?_)
  · replace h := it_f c1 h
    refine jg_iconst (v := nI 0) dX12_payer_23 (by decide) ?_
    refine jg_iconst (v := nI 1) dX12_payer_24 (by decide) ?_
    refine rs_call (As := [.int (nI 0), .int (nI 1)]) kv_X12_69 dX12_payer_25 hr rfl rfl (by decide) (Nat.le_of_ble_eq_true rfl) rfl (by decide) (Nat.le_of_ble_eq_true rfl) (t_X12_throwsIf hr (pN s 0 (nI 0)) (nI 0) (nI 1) (o_thr0 (pN s 0 (nI 0)) (nI 1))) ?_
    refine jg_if_eq (x := (nI 0)) (tgt := 33) dX12_payer_28 (by decide) (fun _ => ?_) (fun q9 => absurd q9 (by decide))
    refine jg_aload_n dX12_payer_33 rfl ?_
    refine rs_ga fl_X12_13 dX12_payer_34 hr rfl ?_
    refine jg_sipush (v := nI 1090) dX12_payer_37 (by decide) ?_
    refine jg_dup2 dX12_payer_40 rfl rfl ?_
    refine rs_lwD (s := (pN s 0 (nI 0))) (i := (nI 1090)) dX12_payer_41 hr (by decide) ?_
    refine jg_iconst (v := nI 1) dX12_payer_42 (by decide) ?_
    refine jg_iadd (x := (gW (pN s 0 (nI 0)) (nI 1090))) (y := (nI 1)) dX12_payer_43  ?_
    refine rs_swD (s := (pN s 0 (nI 0))) (i := (nI 1090)) (x := ((gW (pN s 0 (nI 0)) (nI 1090)) + (nI 1))) dX12_payer_44 hr (by decide) ?_
    refine jg_aload_n dX12_payer_45 rfl ?_
    refine rs_ga fl_X12_13 dX12_payer_46 hr rfl ?_
    refine jg_sipush (v := nI 1090) dX12_payer_49 (by decide) ?_
    refine rs_lwD (s := (pW (pN s 0 (nI 0)) (nI 1090) ((gW (pN s 0 (nI 0)) (nI 1090)) + (nI 1)))) (i := (nI 1090)) dX12_payer_52 hr (by decide) ?_
    refine jg_iconst (v := nI 1) dX12_payer_53 (by decide) ?_
    refine jg_isub (x := (gW (pW (pN s 0 (nI 0)) (nI 1090) ((gW (pN s 0 (nI 0)) (nI 1090)) + (nI 1))) (nI 1090))) (y := (nI 1)) dX12_payer_54  ?_
    obtain rfl := Option.some.inj h
    exact jg_ireturn dX12_payer_55 rfl ⟨rfl, rfl⟩
  · replace h := it_t c1 h
    refine jg_iconst (v := nI 1) dX12_payer_19 (by decide) ?_
    refine jg_goto (tgt := 24) dX12_payer_20 (by decide) ?_
    refine jg_iconst (v := nI 1) dX12_payer_24 (by decide) ?_
    refine rs_call (As := [.int (nI 1), .int (nI 1)]) kv_X12_69 dX12_payer_25 hr rfl rfl (by decide) (Nat.le_of_ble_eq_true rfl) rfl (by decide) (Nat.le_of_ble_eq_true rfl) (t_X12_throwsIf hr (pN s 0 (nI 0)) (nI 1) (nI 1) (o_thr1 (pN s 0 (nI 0)) (nI 1))) ?_
    refine jg_if_eq (x := (nI 1)) (tgt := 33) dX12_payer_28 (by decide) (fun q9 => absurd q9 (by decide)) (fun _ => ?_)
    refine jg_iconst (v := nI 0) dX12_payer_31 (by decide) ?_
    obtain rfl := Option.some.inj h
    exact jg_ireturn dX12_payer_32 rfl ⟨rfl, rfl⟩
theorem dX12_noPayer_0 : decode cX12_noPayer 0 = .ok (.iload_n 1, 1) := by decide +kernel
theorem dX12_noPayer_1 : decode cX12_noPayer 1 = .ok (.iconst 0, 1) := by decide +kernel
theorem dX12_noPayer_2 : decode cX12_noPayer 2 = .ok (.aload_n 0, 1) := by decide +kernel
theorem dX12_noPayer_3 : decode cX12_noPayer 3 = .ok (.getfield 13, 3) := by decide +kernel
theorem dX12_noPayer_6 : decode cX12_noPayer 6 = .ok (.sipush 1090, 3) := by decide +kernel
theorem dX12_noPayer_9 : decode cX12_noPayer 9 = .ok (.iaload, 1) := by decide +kernel
theorem dX12_noPayer_10 : decode cX12_noPayer 10 = .ok (.iconst 1, 1) := by decide +kernel
theorem dX12_noPayer_11 : decode cX12_noPayer 11 = .ok (.isub, 1) := by decide +kernel
theorem dX12_noPayer_12 : decode cX12_noPayer 12 = .ok (.invokestatic 49, 3) := by decide +kernel
theorem dX12_noPayer_15 : decode cX12_noPayer 15 = .ok (.ifCond .ne 7, 3) := by decide +kernel
theorem dX12_noPayer_18 : decode cX12_noPayer 18 = .ok (.iconst 1, 1) := by decide +kernel
theorem dX12_noPayer_19 : decode cX12_noPayer 19 = .ok (.goto 4, 3) := by decide +kernel
theorem dX12_noPayer_22 : decode cX12_noPayer 22 = .ok (.iconst 0, 1) := by decide +kernel
theorem dX12_noPayer_23 : decode cX12_noPayer 23 = .ok (.ireturn, 1) := by decide +kernel
noncomputable def o_X12_noPayer (s : rs_S) (a1 : Int32) : Option (Int32) := (o_X12_in s a1 (nI 0) ((gW s (nI 1090)) - (nI 1))).bind fun x1 => (if x1 = 0 then (some (nI 1)) else (some (nI 0)))
set_option maxHeartbeats 4000000 in
theorem t_X12_noPayer {Γ : jg_G} {g : Nat → jg_C} {n r : Nat} (hr : r + 11 ≤ n) (s : rs_S) (a1 : Int32)  {x : Int32} (h : o_X12_noPayer s a1 = some x) : jc Γ mX12_noPayer 1 0 0 [some (.ref r), some (.int a1)] (rs_h g r s, n) (.inl (some (.int x))) (rs_h g r s, n) := by
  refine jc_of ?_
  rw [o_X12_noPayer] at h
  refine jg_iload_n dX12_noPayer_0 rfl ?_
  refine jg_iconst (v := nI 0) dX12_noPayer_1 (by decide) ?_
  refine jg_aload_n dX12_noPayer_2 rfl ?_
  refine rs_ga fl_X12_13 dX12_noPayer_3 hr rfl ?_
  refine jg_sipush (v := nI 1090) dX12_noPayer_6 (by decide) ?_
  refine rs_lwD (s := s) (i := (nI 1090)) dX12_noPayer_9 hr (by decide) ?_
  refine jg_iconst (v := nI 1) dX12_noPayer_10 (by decide) ?_
  refine jg_isub (x := (gW s (nI 1090))) (y := (nI 1)) dX12_noPayer_11  ?_
  obtain ⟨x1, e_x1, h⟩ := bd_some h
  refine rs_callS (As := [.int a1, .int (nI 0), .int ((gW s (nI 1090)) - (nI 1))]) ks_X12_49 dX12_noPayer_12 rfl (by decide) (Nat.le_of_ble_eq_true rfl) rfl (by decide) (Nat.le_of_ble_eq_true rfl) (t_X12_in hr s a1 (nI 0) ((gW s (nI 1090)) - (nI 1)) e_x1) ?_
  refine jg_if_ne (x := x1) (tgt := 22) dX12_noPayer_15 (by decide) (fun c2 => ?_) (fun c2 => ?_)
  · replace h := it_f c2 h
    refine jg_iconst (v := nI 0) dX12_noPayer_22 (by decide) ?_
    obtain rfl := Option.some.inj h
    exact jg_zreturn dX12_noPayer_23 rfl (rfl) ⟨rfl, rfl⟩
  · replace h := it_t c2 h
    refine jg_iconst (v := nI 1) dX12_noPayer_18 (by decide) ?_
    refine jg_goto (tgt := 23) dX12_noPayer_19 (by decide) ?_
    obtain rfl := Option.some.inj h
    exact jg_zreturn dX12_noPayer_23 rfl (rfl) ⟨rfl, rfl⟩
theorem dX12_shipAt_0 : decode cX12_shipAt 0 = .ok (.sipush 1212, 3) := by decide +kernel
theorem dX12_shipAt_3 : decode cX12_shipAt 3 = .ok (.bipush 18, 2) := by decide +kernel
theorem dX12_shipAt_5 : decode cX12_shipAt 5 = .ok (.iload_n 0, 1) := by decide +kernel
theorem dX12_shipAt_6 : decode cX12_shipAt 6 = .ok (.imul, 1) := by decide +kernel
theorem dX12_shipAt_7 : decode cX12_shipAt 7 = .ok (.iadd, 1) := by decide +kernel
theorem dX12_shipAt_8 : decode cX12_shipAt 8 = .ok (.iload_n 1, 1) := by decide +kernel
theorem dX12_shipAt_9 : decode cX12_shipAt 9 = .ok (.iadd, 1) := by decide +kernel
theorem dX12_shipAt_10 : decode cX12_shipAt 10 = .ok (.ireturn, 1) := by decide +kernel
noncomputable def o_X12_shipAt (s : rs_S) (a1 : Int32) (a2 : Int32) : Option (Int32) := some (((nI 1212) + ((nI 18) * a1)) + a2)
set_option maxHeartbeats 4000000 in
theorem t_X12_shipAt {Γ : jg_G} {g : Nat → jg_C} {n r : Nat} (hr : r + 11 ≤ n) (s : rs_S) (a1 : Int32) (a2 : Int32)  {x : Int32} (h : o_X12_shipAt s a1 a2 = some x) : jc Γ mX12_shipAt 0 0 0 [some (.int a1), some (.int a2)] (rs_h g r s, n) (.inl (some (.int x))) (rs_h g r s, n) := by
  refine jc_of ?_
  rw [o_X12_shipAt] at h
  refine jg_sipush (v := nI 1212) dX12_shipAt_0 (by decide) ?_
  refine jg_bipush (v := nI 18) dX12_shipAt_3 (by decide) ?_
  refine jg_iload_n dX12_shipAt_5 rfl ?_
  refine jg_imul (x := (nI 18)) (y := a1) dX12_shipAt_6  ?_
  refine jg_iadd (x := (nI 1212)) (y := ((nI 18) * a1)) dX12_shipAt_7  ?_
  refine jg_iload_n dX12_shipAt_8 rfl ?_
  refine jg_iadd (x := ((nI 1212) + ((nI 18) * a1))) (y := a2) dX12_shipAt_9  ?_
  obtain rfl := Option.some.inj h
  exact jg_ireturn dX12_shipAt_10 rfl ⟨rfl, rfl⟩
theorem dX12_sets_0 : decode cX12_sets 0 = .ok (.aload_n 0, 1) := by decide +kernel
theorem dX12_sets_1 : decode cX12_sets 1 = .ok (.getfield 13, 3) := by decide +kernel
theorem dX12_sets_4 : decode cX12_sets 4 = .ok (.iload_n 1, 1) := by decide +kernel
theorem dX12_sets_5 : decode cX12_sets 5 = .ok (.iload_n 2, 1) := by decide +kernel
theorem dX12_sets_6 : decode cX12_sets 6 = .ok (.invokestatic 104, 3) := by decide +kernel
theorem dX12_sets_9 : decode cX12_sets 9 = .ok (.iload_n 3, 1) := by decide +kernel
theorem dX12_sets_10 : decode cX12_sets 10 = .ok (.iastore, 1) := by decide +kernel
theorem dX12_sets_11 : decode cX12_sets 11 = .ok (.return_, 1) := by decide +kernel
noncomputable def o_X12_sets (s : rs_S) (a1 : Int32) (a2 : Int32) (a3 : Int32) : Option (rs_S) := (o_X12_shipAt s a1 a2).bind fun x1 => (if iL x1 22216 then (some (pW s x1 a3)) else none)
set_option maxHeartbeats 4000000 in
theorem t_X12_sets {Γ : jg_G} {g : Nat → jg_C} {n r : Nat} (hr : r + 11 ≤ n) (s : rs_S) (a1 : Int32) (a2 : Int32) (a3 : Int32)  {x : rs_S} (h : o_X12_sets s a1 a2 a3 = some x) : jc Γ mX12_sets 1 0 0 [some (.ref r), some (.int a1), some (.int a2), some (.int a3)] (rs_h g r s, n) (.inl none) (rs_h g r x, n) := by
  refine jc_of ?_
  rw [o_X12_sets] at h
  refine jg_aload_n dX12_sets_0 rfl ?_
  refine rs_ga fl_X12_13 dX12_sets_1 hr rfl ?_
  refine jg_iload_n dX12_sets_4 rfl ?_
  refine jg_iload_n dX12_sets_5 rfl ?_
  obtain ⟨x1, e_x1, h⟩ := bd_some h
  refine rs_callS (As := [.int a1, .int a2]) ks_X12_104 dX12_sets_6 rfl (by decide) (Nat.le_of_ble_eq_true rfl) rfl (by decide) (Nat.le_of_ble_eq_true rfl) (t_X12_shipAt hr s a1 a2 e_x1) ?_
  refine jg_iload_n dX12_sets_9 rfl ?_
  obtain ⟨q2, h⟩ := gd_some h
  refine rs_swD (s := s) (i := x1) (x := a3) dX12_sets_10 hr q2 ?_
  obtain rfl := Option.some.inj h
  exact jg_return dX12_sets_11 rfl ⟨rfl, rfl⟩
theorem dX12_actAt_0 : decode cX12_actAt 0 = .ok (.sipush 2812, 3) := by decide +kernel
theorem dX12_actAt_3 : decode cX12_actAt 3 = .ok (.sipush 882, 3) := by decide +kernel
theorem dX12_actAt_6 : decode cX12_actAt 6 = .ok (.iload_n 0, 1) := by decide +kernel
theorem dX12_actAt_7 : decode cX12_actAt 7 = .ok (.imul, 1) := by decide +kernel
theorem dX12_actAt_8 : decode cX12_actAt 8 = .ok (.iadd, 1) := by decide +kernel
theorem dX12_actAt_9 : decode cX12_actAt 9 = .ok (.ireturn, 1) := by decide +kernel
noncomputable def o_X12_actAt (s : rs_S) (a1 : Int32) : Option (Int32) := some ((nI 2812) + ((nI 882) * a1))
set_option maxHeartbeats 4000000 in
theorem t_X12_actAt {Γ : jg_G} {g : Nat → jg_C} {n r : Nat} (hr : r + 11 ≤ n) (s : rs_S) (a1 : Int32)  {x : Int32} (h : o_X12_actAt s a1 = some x) : jc Γ mX12_actAt 0 0 0 [some (.int a1)] (rs_h g r s, n) (.inl (some (.int x))) (rs_h g r s, n) := by
  refine jc_of ?_
  rw [o_X12_actAt] at h
  refine jg_sipush (v := nI 2812) dX12_actAt_0 (by decide) ?_
  refine jg_sipush (v := nI 882) dX12_actAt_3 (by decide) ?_
  refine jg_iload_n dX12_actAt_6 rfl ?_
  refine jg_imul (x := (nI 882)) (y := a1) dX12_actAt_7  ?_
  refine jg_iadd (x := (nI 2812)) (y := ((nI 882) * a1)) dX12_actAt_8  ?_
  obtain rfl := Option.some.inj h
  exact jg_ireturn dX12_actAt_9 rfl ⟨rfl, rfl⟩
theorem dX12_actOf_0 : decode cX12_actOf 0 = .ok (.iconst (-1), 1) := by decide +kernel
theorem dX12_actOf_1 : decode cX12_actOf 1 = .ok (.istore_n 2, 1) := by decide +kernel
theorem dX12_actOf_2 : decode cX12_actOf 2 = .ok (.iconst 0, 1) := by decide +kernel
theorem dX12_actOf_3 : decode cX12_actOf 3 = .ok (.istore_n 3, 1) := by decide +kernel
theorem dX12_actOf_4 : decode cX12_actOf 4 = .ok (.iload_n 3, 1) := by decide +kernel
theorem dX12_actOf_5 : decode cX12_actOf 5 = .ok (.aload_n 0, 1) := by decide +kernel
theorem dX12_actOf_6 : decode cX12_actOf 6 = .ok (.getfield 13, 3) := by decide +kernel
theorem dX12_actOf_9 : decode cX12_actOf 9 = .ok (.sipush 2811, 3) := by decide +kernel
theorem dX12_actOf_12 : decode cX12_actOf 12 = .ok (.iaload, 1) := by decide +kernel
theorem dX12_actOf_13 : decode cX12_actOf 13 = .ok (.if_icmp .ge 49, 3) := by decide +kernel
theorem dX12_actOf_16 : decode cX12_actOf 16 = .ok (.aload_n 0, 1) := by decide +kernel
theorem dX12_actOf_17 : decode cX12_actOf 17 = .ok (.getfield 13, 3) := by decide +kernel
theorem dX12_actOf_20 : decode cX12_actOf 20 = .ok (.iload_n 3, 1) := by decide +kernel
theorem dX12_actOf_21 : decode cX12_actOf 21 = .ok (.invokestatic 242, 3) := by decide +kernel
theorem dX12_actOf_24 : decode cX12_actOf 24 = .ok (.iaload, 1) := by decide +kernel
theorem dX12_actOf_25 : decode cX12_actOf 25 = .ok (.iload_n 1, 1) := by decide +kernel
theorem dX12_actOf_26 : decode cX12_actOf 26 = .ok (.if_icmp .gt 30, 3) := by decide +kernel
theorem dX12_actOf_29 : decode cX12_actOf 29 = .ok (.iload_n 2, 1) := by decide +kernel
theorem dX12_actOf_30 : decode cX12_actOf 30 = .ok (.ifCond .lt 24, 3) := by decide +kernel
theorem dX12_actOf_33 : decode cX12_actOf 33 = .ok (.aload_n 0, 1) := by decide +kernel
theorem dX12_actOf_34 : decode cX12_actOf 34 = .ok (.getfield 13, 3) := by decide +kernel
theorem dX12_actOf_37 : decode cX12_actOf 37 = .ok (.iload_n 3, 1) := by decide +kernel
theorem dX12_actOf_38 : decode cX12_actOf 38 = .ok (.invokestatic 242, 3) := by decide +kernel
theorem dX12_actOf_41 : decode cX12_actOf 41 = .ok (.iaload, 1) := by decide +kernel
theorem dX12_actOf_42 : decode cX12_actOf 42 = .ok (.aload_n 0, 1) := by decide +kernel
theorem dX12_actOf_43 : decode cX12_actOf 43 = .ok (.getfield 13, 3) := by decide +kernel
theorem dX12_actOf_46 : decode cX12_actOf 46 = .ok (.iload_n 2, 1) := by decide +kernel
theorem dX12_actOf_47 : decode cX12_actOf 47 = .ok (.invokestatic 242, 3) := by decide +kernel
theorem dX12_actOf_50 : decode cX12_actOf 50 = .ok (.iaload, 1) := by decide +kernel
theorem dX12_actOf_51 : decode cX12_actOf 51 = .ok (.if_icmp .lt 5, 3) := by decide +kernel
theorem dX12_actOf_54 : decode cX12_actOf 54 = .ok (.iload_n 3, 1) := by decide +kernel
theorem dX12_actOf_55 : decode cX12_actOf 55 = .ok (.istore_n 2, 1) := by decide +kernel
theorem dX12_actOf_56 : decode cX12_actOf 56 = .ok (.iinc 3 1, 3) := by decide +kernel
theorem dX12_actOf_59 : decode cX12_actOf 59 = .ok (.goto (-55), 3) := by decide +kernel
theorem dX12_actOf_62 : decode cX12_actOf 62 = .ok (.iload_n 2, 1) := by decide +kernel
theorem dX12_actOf_63 : decode cX12_actOf 63 = .ok (.ireturn, 1) := by decide +kernel
noncomputable def o_X12_actOf_4 (F : Nat) (l1 : Int32) (s : rs_S) : Nat → Int32 → Int32 → Option (Int32)
  | 0, _, _ => none
  | f + 1, l2, l3 => if (gW s (nI 2811)) ≤ l3 then (some l2) else ((o_X12_actAt s l3).bind fun x2 => (if iL x2 22216 then (if l1 < (gW s x2) then (o_X12_actOf_4 F l1 s f l2 (l3 + nI 1)) else (if l2 < 0 then (o_X12_actOf_4 F l1 s f l3 (l3 + nI 1)) else ((o_X12_actAt s l3).bind fun x6 => (if iL x6 22216 then ((o_X12_actAt s l2).bind fun x8 => (if iL x8 22216 then (if (gW s x6) < (gW s x8) then (o_X12_actOf_4 F l1 s f l2 (l3 + nI 1)) else (o_X12_actOf_4 F l1 s f l3 (l3 + nI 1))) else none)) else none)))) else none))
set_option maxHeartbeats 4000000 in
theorem t_X12_actOf_4 {Γ : jg_G} {g : Nat → jg_C} {n r : Nat} (hr : r + 11 ≤ n) (F : Nat) (l1 : Int32) (s : rs_S)  (Q : jg_Q) {x : Int32} (K1 : jg Γ mX12_actOf 1 0 0 62 [none, none, some (.int x), none] [] (rs_h g r s, n) Q)  : ∀ (f : Nat) (l2 : Int32) (l3 : Int32), o_X12_actOf_4 F l1 s f l2 l3 = some x → jg Γ mX12_actOf 1 0 0 4 [some (.ref r), some (.int l1), some (.int l2), some (.int l3)] [] (rs_h g r s, n) Q := by
  intro f
  induction f with
  | zero => intro l2 l3 h; rw [o_X12_actOf_4] at h; cases h
  | succ f ih =>
   intro l2 l3 h
   rw [o_X12_actOf_4] at h
   refine jg_iload_n dX12_actOf_4 rfl ?_
   refine jg_aload_n dX12_actOf_5 rfl ?_
   refine rs_ga fl_X12_13 dX12_actOf_6 hr rfl ?_
   refine jg_sipush (v := nI 2811) dX12_actOf_9 (by decide) ?_
   refine rs_lwD (s := s) (i := (nI 2811)) dX12_actOf_12 hr (by decide) ?_
   refine jg_icmp_ge (x := l3) (y := (gW s (nI 2811))) (tgt := 62) dX12_actOf_13 (by decide) (fun c1 => ?_) (fun c1 => ?_)
   · replace h := it_t c1 h
     refine jg_fg (L' := [none, none, some (.int l2), none]) (by repeat (first | exact trivial | refine ⟨rfl, ?_⟩ | show jg_le _ _)) ?_
     obtain rfl := Option.some.inj h
     exact K1
   · replace h := it_f c1 h
     refine jg_aload_n dX12_actOf_16 rfl ?_
     refine rs_ga fl_X12_13 dX12_actOf_17 hr rfl ?_
     refine jg_iload_n dX12_actOf_20 rfl ?_
     obtain ⟨x2, e_x2, h⟩ := bd_some h
     refine rs_callS (As := [.int l3]) ks_X12_242 dX12_actOf_21 rfl (by decide) (Nat.le_of_ble_eq_true rfl) rfl (by decide) (Nat.le_of_ble_eq_true rfl) (t_X12_actAt hr s l3 e_x2) ?_
     obtain ⟨q3, h⟩ := gd_some h
     refine rs_lwD (s := s) (i := x2) dX12_actOf_24 hr q3 ?_
     refine jg_iload_n dX12_actOf_25 rfl ?_
     refine jg_icmp_gt (x := (gW s x2)) (y := l1) (tgt := 56) dX12_actOf_26 (by decide) (fun c4 => ?_) (fun c4 => ?_)
     · replace h := it_t c4 h
       refine jg_iinc (x := l3) (v := l3 + nI 1) (L' := [some (.ref r), some (.int l1), some (.int l2), some (.int (l3 + nI 1))]) dX12_actOf_56 rfl (ic_k _ (by decide)) (by decide) rfl ?_
       refine jg_goto (tgt := 4) dX12_actOf_59 (by decide) ?_
       refine jg_fg (L' := [some (.ref r), some (.int l1), some (.int l2), some (.int (l3 + nI 1))]) (by repeat (first | exact trivial | refine ⟨rfl, ?_⟩ | show jg_le _ _)) ?_
       exact ih l2 (l3 + nI 1) h
     · replace h := it_f c4 h
       refine jg_iload_n dX12_actOf_29 rfl ?_
       refine jg_if_lt (x := l2) (tgt := 54) dX12_actOf_30 (by decide) (fun c5 => ?_) (fun c5 => ?_)
       · replace h := it_t c5 h
         refine jg_iload_n dX12_actOf_54 rfl ?_
         refine jg_istore_n (L' := [some (.ref r), some (.int l1), some (.int l3), some (.int l3)]) dX12_actOf_55 (by decide) rfl ?_
         refine jg_iinc (x := l3) (v := l3 + nI 1) (L' := [some (.ref r), some (.int l1), some (.int l3), some (.int (l3 + nI 1))]) dX12_actOf_56 rfl (ic_k _ (by decide)) (by decide) rfl ?_
         refine jg_goto (tgt := 4) dX12_actOf_59 (by decide) ?_
         refine jg_fg (L' := [some (.ref r), some (.int l1), some (.int l3), some (.int (l3 + nI 1))]) (by repeat (first | exact trivial | refine ⟨rfl, ?_⟩ | show jg_le _ _)) ?_
         exact ih l3 (l3 + nI 1) h
       · replace h := it_f c5 h
         refine jg_aload_n dX12_actOf_33 rfl ?_
         refine rs_ga fl_X12_13 dX12_actOf_34 hr rfl ?_
         refine jg_iload_n dX12_actOf_37 rfl ?_
         obtain ⟨x6, e_x6, h⟩ := bd_some h
         refine rs_callS (As := [.int l3]) ks_X12_242 dX12_actOf_38 rfl (by decide) (Nat.le_of_ble_eq_true rfl) rfl (by decide) (Nat.le_of_ble_eq_true rfl) (t_X12_actAt hr s l3 e_x6) ?_
         obtain ⟨q7, h⟩ := gd_some h
         refine rs_lwD (s := s) (i := x6) dX12_actOf_41 hr q7 ?_
         refine jg_aload_n dX12_actOf_42 rfl ?_
         refine rs_ga fl_X12_13 dX12_actOf_43 hr rfl ?_
         refine jg_iload_n dX12_actOf_46 rfl ?_
         obtain ⟨x8, e_x8, h⟩ := bd_some h
         refine rs_callS (As := [.int l2]) ks_X12_242 dX12_actOf_47 rfl (by decide) (Nat.le_of_ble_eq_true rfl) rfl (by decide) (Nat.le_of_ble_eq_true rfl) (t_X12_actAt hr s l2 e_x8) ?_
         obtain ⟨q9, h⟩ := gd_some h
         refine rs_lwD (s := s) (i := x8) dX12_actOf_50 hr q9 ?_
         refine jg_icmp_lt (x := (gW s x6)) (y := (gW s x8)) (tgt := 56) dX12_actOf_51 (by decide) (fun c10 => ?_) (fun c10 => ?_)
         · replace h := it_t c10 h
           refine jg_iinc (x := l3) (v := l3 + nI 1) (L' := [some (.ref r), some (.int l1), some (.int l2), some (.int (l3 + nI 1))]) dX12_actOf_56 rfl (ic_k _ (by decide)) (by decide) rfl ?_
           refine jg_goto (tgt := 4) dX12_actOf_59 (by decide) ?_
           refine jg_fg (L' := [some (.ref r), some (.int l1), some (.int l2), some (.int (l3 + nI 1))]) (by repeat (first | exact trivial | refine ⟨rfl, ?_⟩ | show jg_le _ _)) ?_
           exact ih l2 (l3 + nI 1) h
         · replace h := it_f c10 h
           refine jg_iload_n dX12_actOf_54 rfl ?_
           refine jg_istore_n (L' := [some (.ref r), some (.int l1), some (.int l3), some (.int l3)]) dX12_actOf_55 (by decide) rfl ?_
           refine jg_iinc (x := l3) (v := l3 + nI 1) (L' := [some (.ref r), some (.int l1), some (.int l3), some (.int (l3 + nI 1))]) dX12_actOf_56 rfl (ic_k _ (by decide)) (by decide) rfl ?_
           refine jg_goto (tgt := 4) dX12_actOf_59 (by decide) ?_
           refine jg_fg (L' := [some (.ref r), some (.int l1), some (.int l3), some (.int (l3 + nI 1))]) (by repeat (first | exact trivial | refine ⟨rfl, ?_⟩ | show jg_le _ _)) ?_
           exact ih l3 (l3 + nI 1) h
noncomputable def o_X12_actOf (F : Nat) (s : rs_S) (a1 : Int32) : Option (Int32) := (o_X12_actOf_4 F a1 s F (-1) (nI 0)).bind fun x11 => (some x11)
set_option maxHeartbeats 4000000 in
theorem t_X12_actOf {Γ : jg_G} {g : Nat → jg_C} {n r : Nat} (hr : r + 11 ≤ n) (F : Nat) (s : rs_S) (a1 : Int32)  {x : Int32} (h : o_X12_actOf F s a1 = some x) : jc Γ mX12_actOf 1 0 0 [some (.ref r), some (.int a1), none, none] (rs_h g r s, n) (.inl (some (.int x))) (rs_h g r s, n) := by
  refine jc_of ?_
  rw [o_X12_actOf] at h
  refine jg_iconst (v := (-1)) dX12_actOf_0 (by decide) ?_
  refine jg_istore_n (L' := [some (.ref r), some (.int a1), some (.int (-1)), none]) dX12_actOf_1 (by decide) rfl ?_
  refine jg_iconst (v := nI 0) dX12_actOf_2 (by decide) ?_
  refine jg_istore_n (L' := [some (.ref r), some (.int a1), some (.int (-1)), some (.int (nI 0))]) dX12_actOf_3 (by decide) rfl ?_
  obtain ⟨x11, e_x11, h⟩ := bd_some h
  refine jg_fg (L' := [some (.ref r), some (.int a1), some (.int (-1)), some (.int (nI 0))]) (by repeat (first | exact trivial | refine ⟨rfl, ?_⟩ | show jg_le _ _)) ?_
  refine t_X12_actOf_4 hr F a1 s  _ (x := x11) ?_ F (-1) (nI 0) e_x11
  refine jg_iload_n dX12_actOf_62 rfl ?_
  obtain rfl := Option.some.inj h
  exact jg_ireturn dX12_actOf_63 rfl ⟨rfl, rfl⟩
theorem dX12_ship_0 : decode cX12_ship 0 = .ok (.aload_n 0, 1) := by decide +kernel
theorem dX12_ship_1 : decode cX12_ship 1 = .ok (.iconst 0, 1) := by decide +kernel
theorem dX12_ship_2 : decode cX12_ship 2 = .ok (.putfield 3, 3) := by decide +kernel
theorem dX12_ship_5 : decode cX12_ship 5 = .ok (.aload_n 0, 1) := by decide +kernel
theorem dX12_ship_6 : decode cX12_ship 6 = .ok (.aload_n 0, 1) := by decide +kernel
theorem dX12_ship_7 : decode cX12_ship 7 = .ok (.iload_n 1, 1) := by decide +kernel
theorem dX12_ship_8 : decode cX12_ship 8 = .ok (.invokevirtual 107, 3) := by decide +kernel
theorem dX12_ship_11 : decode cX12_ship 11 = .ok (.iconst 1, 1) := by decide +kernel
theorem dX12_ship_12 : decode cX12_ship 12 = .ok (.invokevirtual 69, 3) := by decide +kernel
theorem dX12_ship_15 : decode cX12_ship 15 = .ok (.ifCond .ne 107, 3) := by decide +kernel
theorem dX12_ship_18 : decode cX12_ship 18 = .ok (.aload_n 0, 1) := by decide +kernel
theorem dX12_ship_19 : decode cX12_ship 19 = .ok (.iload_n 2, 1) := by decide +kernel
theorem dX12_ship_20 : decode cX12_ship 20 = .ok (.iconst 0, 1) := by decide +kernel
theorem dX12_ship_21 : decode cX12_ship 21 = .ok (.iconst 5, 1) := by decide +kernel
theorem dX12_ship_22 : decode cX12_ship 22 = .ok (.invokestatic 49, 3) := by decide +kernel
theorem dX12_ship_25 : decode cX12_ship 25 = .ok (.ifCond .eq 59, 3) := by decide +kernel
theorem dX12_ship_28 : decode cX12_ship 28 = .ok (.iload_n 3, 1) := by decide +kernel
theorem dX12_ship_29 : decode cX12_ship 29 = .ok (.iconst 1, 1) := by decide +kernel
theorem dX12_ship_30 : decode cX12_ship 30 = .ok (.sipush 20000, 3) := by decide +kernel
theorem dX12_ship_33 : decode cX12_ship 33 = .ok (.invokestatic 49, 3) := by decide +kernel
theorem dX12_ship_36 : decode cX12_ship 36 = .ok (.ifCond .eq 48, 3) := by decide +kernel
theorem dX12_ship_39 : decode cX12_ship 39 = .ok (.iload 4, 2) := by decide +kernel
theorem dX12_ship_41 : decode cX12_ship 41 = .ok (.iconst 1, 1) := by decide +kernel
theorem dX12_ship_42 : decode cX12_ship 42 = .ok (.sipush 900, 3) := by decide +kernel
theorem dX12_ship_45 : decode cX12_ship 45 = .ok (.invokestatic 49, 3) := by decide +kernel
theorem dX12_ship_48 : decode cX12_ship 48 = .ok (.ifCond .eq 36, 3) := by decide +kernel
theorem dX12_ship_51 : decode cX12_ship 51 = .ok (.iload 5, 2) := by decide +kernel
theorem dX12_ship_53 : decode cX12_ship 53 = .ok (.iconst 1, 1) := by decide +kernel
theorem dX12_ship_54 : decode cX12_ship 54 = .ok (.bipush 80, 2) := by decide +kernel
theorem dX12_ship_56 : decode cX12_ship 56 = .ok (.invokestatic 49, 3) := by decide +kernel
theorem dX12_ship_59 : decode cX12_ship 59 = .ok (.ifCond .eq 25, 3) := by decide +kernel
theorem dX12_ship_62 : decode cX12_ship 62 = .ok (.iload 6, 2) := by decide +kernel
theorem dX12_ship_64 : decode cX12_ship 64 = .ok (.iconst 1, 1) := by decide +kernel
theorem dX12_ship_65 : decode cX12_ship 65 = .ok (.bipush 80, 2) := by decide +kernel
theorem dX12_ship_67 : decode cX12_ship 67 = .ok (.invokestatic 49, 3) := by decide +kernel
theorem dX12_ship_70 : decode cX12_ship 70 = .ok (.ifCond .eq 14, 3) := by decide +kernel
theorem dX12_ship_73 : decode cX12_ship 73 = .ok (.iload 8, 2) := by decide +kernel
theorem dX12_ship_75 : decode cX12_ship 75 = .ok (.iconst 0, 1) := by decide +kernel
theorem dX12_ship_76 : decode cX12_ship 76 = .ok (.ldc 110, 2) := by decide +kernel
theorem dX12_ship_78 : decode cX12_ship 78 = .ok (.invokestatic 49, 3) := by decide +kernel
theorem dX12_ship_81 : decode cX12_ship 81 = .ok (.ifCond .ne 7, 3) := by decide +kernel
theorem dX12_ship_84 : decode cX12_ship 84 = .ok (.iconst 1, 1) := by decide +kernel
theorem dX12_ship_85 : decode cX12_ship 85 = .ok (.goto 4, 3) := by decide +kernel
theorem dX12_ship_88 : decode cX12_ship 88 = .ok (.iconst 0, 1) := by decide +kernel
theorem dX12_ship_89 : decode cX12_ship 89 = .ok (.iconst 2, 1) := by decide +kernel
theorem dX12_ship_90 : decode cX12_ship 90 = .ok (.invokevirtual 69, 3) := by decide +kernel
theorem dX12_ship_93 : decode cX12_ship 93 = .ok (.ifCond .ne 29, 3) := by decide +kernel
theorem dX12_ship_96 : decode cX12_ship 96 = .ok (.aload_n 0, 1) := by decide +kernel
theorem dX12_ship_97 : decode cX12_ship 97 = .ok (.aload_n 0, 1) := by decide +kernel
theorem dX12_ship_98 : decode cX12_ship 98 = .ok (.getfield 13, 3) := by decide +kernel
theorem dX12_ship_101 : decode cX12_ship 101 = .ok (.sipush 1211, 3) := by decide +kernel
theorem dX12_ship_104 : decode cX12_ship 104 = .ok (.iaload, 1) := by decide +kernel
theorem dX12_ship_105 : decode cX12_ship 105 = .ok (.bipush 80, 2) := by decide +kernel
theorem dX12_ship_107 : decode cX12_ship 107 = .ok (.if_icmp .ne 7, 3) := by decide +kernel
theorem dX12_ship_110 : decode cX12_ship 110 = .ok (.iconst 1, 1) := by decide +kernel
theorem dX12_ship_111 : decode cX12_ship 111 = .ok (.goto 4, 3) := by decide +kernel
theorem dX12_ship_114 : decode cX12_ship 114 = .ok (.iconst 0, 1) := by decide +kernel
theorem dX12_ship_115 : decode cX12_ship 115 = .ok (.iconst 3, 1) := by decide +kernel
theorem dX12_ship_116 : decode cX12_ship 116 = .ok (.invokevirtual 69, 3) := by decide +kernel
theorem dX12_ship_119 : decode cX12_ship 119 = .ok (.ifCond .eq 5, 3) := by decide +kernel
theorem dX12_ship_122 : decode cX12_ship 122 = .ok (.iconst 0, 1) := by decide +kernel
theorem dX12_ship_123 : decode cX12_ship 123 = .ok (.ireturn, 1) := by decide +kernel
theorem dX12_ship_124 : decode cX12_ship 124 = .ok (.aload_n 0, 1) := by decide +kernel
theorem dX12_ship_125 : decode cX12_ship 125 = .ok (.getfield 13, 3) := by decide +kernel
theorem dX12_ship_128 : decode cX12_ship 128 = .ok (.sipush 1211, 3) := by decide +kernel
theorem dX12_ship_131 : decode cX12_ship 131 = .ok (.iaload, 1) := by decide +kernel
theorem dX12_ship_132 : decode cX12_ship 132 = .ok (.istore 9, 2) := by decide +kernel
theorem dX12_ship_134 : decode cX12_ship 134 = .ok (.aload_n 0, 1) := by decide +kernel
theorem dX12_ship_135 : decode cX12_ship 135 = .ok (.getfield 13, 3) := by decide +kernel
theorem dX12_ship_138 : decode cX12_ship 138 = .ok (.sipush 1211, 3) := by decide +kernel
theorem dX12_ship_141 : decode cX12_ship 141 = .ok (.dup2, 1) := by decide +kernel
theorem dX12_ship_142 : decode cX12_ship 142 = .ok (.iaload, 1) := by decide +kernel
theorem dX12_ship_143 : decode cX12_ship 143 = .ok (.iconst 1, 1) := by decide +kernel
theorem dX12_ship_144 : decode cX12_ship 144 = .ok (.iadd, 1) := by decide +kernel
theorem dX12_ship_145 : decode cX12_ship 145 = .ok (.iastore, 1) := by decide +kernel
theorem dX12_ship_146 : decode cX12_ship 146 = .ok (.aload_n 0, 1) := by decide +kernel
theorem dX12_ship_147 : decode cX12_ship 147 = .ok (.iload 9, 2) := by decide +kernel
theorem dX12_ship_149 : decode cX12_ship 149 = .ok (.iconst 0, 1) := by decide +kernel
theorem dX12_ship_150 : decode cX12_ship 150 = .ok (.iload_n 1, 1) := by decide +kernel
theorem dX12_ship_151 : decode cX12_ship 151 = .ok (.invokevirtual 111, 3) := by decide +kernel
theorem dX12_ship_154 : decode cX12_ship 154 = .ok (.aload_n 0, 1) := by decide +kernel
theorem dX12_ship_155 : decode cX12_ship 155 = .ok (.iload 9, 2) := by decide +kernel
theorem dX12_ship_157 : decode cX12_ship 157 = .ok (.iconst 1, 1) := by decide +kernel
theorem dX12_ship_158 : decode cX12_ship 158 = .ok (.iload_n 2, 1) := by decide +kernel
theorem dX12_ship_159 : decode cX12_ship 159 = .ok (.invokevirtual 111, 3) := by decide +kernel
theorem dX12_ship_162 : decode cX12_ship 162 = .ok (.aload_n 0, 1) := by decide +kernel
theorem dX12_ship_163 : decode cX12_ship 163 = .ok (.iload 9, 2) := by decide +kernel
theorem dX12_ship_165 : decode cX12_ship 165 = .ok (.iconst 2, 1) := by decide +kernel
theorem dX12_ship_166 : decode cX12_ship 166 = .ok (.iload_n 3, 1) := by decide +kernel
theorem dX12_ship_167 : decode cX12_ship 167 = .ok (.invokevirtual 111, 3) := by decide +kernel
theorem dX12_ship_170 : decode cX12_ship 170 = .ok (.aload_n 0, 1) := by decide +kernel
theorem dX12_ship_171 : decode cX12_ship 171 = .ok (.iload 9, 2) := by decide +kernel
theorem dX12_ship_173 : decode cX12_ship 173 = .ok (.iconst 3, 1) := by decide +kernel
theorem dX12_ship_174 : decode cX12_ship 174 = .ok (.iload 4, 2) := by decide +kernel
theorem dX12_ship_176 : decode cX12_ship 176 = .ok (.invokevirtual 111, 3) := by decide +kernel
theorem dX12_ship_179 : decode cX12_ship 179 = .ok (.aload_n 0, 1) := by decide +kernel
theorem dX12_ship_180 : decode cX12_ship 180 = .ok (.iload 9, 2) := by decide +kernel
theorem dX12_ship_182 : decode cX12_ship 182 = .ok (.iconst 4, 1) := by decide +kernel
theorem dX12_ship_183 : decode cX12_ship 183 = .ok (.iload 5, 2) := by decide +kernel
theorem dX12_ship_185 : decode cX12_ship 185 = .ok (.invokevirtual 111, 3) := by decide +kernel
theorem dX12_ship_188 : decode cX12_ship 188 = .ok (.aload_n 0, 1) := by decide +kernel
theorem dX12_ship_189 : decode cX12_ship 189 = .ok (.iload 9, 2) := by decide +kernel
theorem dX12_ship_191 : decode cX12_ship 191 = .ok (.iconst 5, 1) := by decide +kernel
theorem dX12_ship_192 : decode cX12_ship 192 = .ok (.iload 6, 2) := by decide +kernel
theorem dX12_ship_194 : decode cX12_ship 194 = .ok (.invokevirtual 111, 3) := by decide +kernel
theorem dX12_ship_197 : decode cX12_ship 197 = .ok (.aload_n 0, 1) := by decide +kernel
theorem dX12_ship_198 : decode cX12_ship 198 = .ok (.iload 9, 2) := by decide +kernel
theorem dX12_ship_200 : decode cX12_ship 200 = .ok (.bipush 6, 2) := by decide +kernel
theorem dX12_ship_202 : decode cX12_ship 202 = .ok (.iload 7, 2) := by decide +kernel
theorem dX12_ship_204 : decode cX12_ship 204 = .ok (.ifCond .eq 7, 3) := by decide +kernel
theorem dX12_ship_207 : decode cX12_ship 207 = .ok (.iconst 1, 1) := by decide +kernel
theorem dX12_ship_208 : decode cX12_ship 208 = .ok (.goto 4, 3) := by decide +kernel
theorem dX12_ship_211 : decode cX12_ship 211 = .ok (.iconst 0, 1) := by decide +kernel
theorem dX12_ship_212 : decode cX12_ship 212 = .ok (.invokevirtual 111, 3) := by decide +kernel
theorem dX12_ship_215 : decode cX12_ship 215 = .ok (.aload_n 0, 1) := by decide +kernel
theorem dX12_ship_216 : decode cX12_ship 216 = .ok (.iload 9, 2) := by decide +kernel
theorem dX12_ship_218 : decode cX12_ship 218 = .ok (.bipush 7, 2) := by decide +kernel
theorem dX12_ship_220 : decode cX12_ship 220 = .ok (.iload 8, 2) := by decide +kernel
theorem dX12_ship_222 : decode cX12_ship 222 = .ok (.invokevirtual 111, 3) := by decide +kernel
theorem dX12_ship_225 : decode cX12_ship 225 = .ok (.aload_n 0, 1) := by decide +kernel
theorem dX12_ship_226 : decode cX12_ship 226 = .ok (.iload 9, 2) := by decide +kernel
theorem dX12_ship_228 : decode cX12_ship 228 = .ok (.bipush 8, 2) := by decide +kernel
theorem dX12_ship_230 : decode cX12_ship 230 = .ok (.aload_n 0, 1) := by decide +kernel
theorem dX12_ship_231 : decode cX12_ship 231 = .ok (.invokevirtual 73, 3) := by decide +kernel
theorem dX12_ship_234 : decode cX12_ship 234 = .ok (.invokevirtual 111, 3) := by decide +kernel
theorem dX12_ship_237 : decode cX12_ship 237 = .ok (.aload_n 0, 1) := by decide +kernel
theorem dX12_ship_238 : decode cX12_ship 238 = .ok (.iload 9, 2) := by decide +kernel
theorem dX12_ship_240 : decode cX12_ship 240 = .ok (.bipush 10, 2) := by decide +kernel
theorem dX12_ship_242 : decode cX12_ship 242 = .ok (.iconst (-1), 1) := by decide +kernel
theorem dX12_ship_243 : decode cX12_ship 243 = .ok (.invokevirtual 111, 3) := by decide +kernel
theorem dX12_ship_246 : decode cX12_ship 246 = .ok (.aload_n 0, 1) := by decide +kernel
theorem dX12_ship_247 : decode cX12_ship 247 = .ok (.iload 9, 2) := by decide +kernel
theorem dX12_ship_249 : decode cX12_ship 249 = .ok (.bipush 11, 2) := by decide +kernel
theorem dX12_ship_251 : decode cX12_ship 251 = .ok (.iload_n 3, 1) := by decide +kernel
theorem dX12_ship_252 : decode cX12_ship 252 = .ok (.invokevirtual 111, 3) := by decide +kernel
theorem dX12_ship_255 : decode cX12_ship 255 = .ok (.aload_n 0, 1) := by decide +kernel
theorem dX12_ship_256 : decode cX12_ship 256 = .ok (.iload 9, 2) := by decide +kernel
theorem dX12_ship_258 : decode cX12_ship 258 = .ok (.bipush 12, 2) := by decide +kernel
theorem dX12_ship_260 : decode cX12_ship 260 = .ok (.iconst (-1), 1) := by decide +kernel
theorem dX12_ship_261 : decode cX12_ship 261 = .ok (.invokevirtual 111, 3) := by decide +kernel
theorem dX12_ship_264 : decode cX12_ship 264 = .ok (.aload_n 0, 1) := by decide +kernel
theorem dX12_ship_265 : decode cX12_ship 265 = .ok (.iload 9, 2) := by decide +kernel
theorem dX12_ship_267 : decode cX12_ship 267 = .ok (.bipush 13, 2) := by decide +kernel
theorem dX12_ship_269 : decode cX12_ship 269 = .ok (.iconst (-1), 1) := by decide +kernel
theorem dX12_ship_270 : decode cX12_ship 270 = .ok (.invokevirtual 111, 3) := by decide +kernel
theorem dX12_ship_273 : decode cX12_ship 273 = .ok (.aload_n 0, 1) := by decide +kernel
theorem dX12_ship_274 : decode cX12_ship 274 = .ok (.iload 9, 2) := by decide +kernel
theorem dX12_ship_276 : decode cX12_ship 276 = .ok (.bipush 15, 2) := by decide +kernel
theorem dX12_ship_278 : decode cX12_ship 278 = .ok (.iconst (-1), 1) := by decide +kernel
theorem dX12_ship_279 : decode cX12_ship 279 = .ok (.invokevirtual 111, 3) := by decide +kernel
theorem dX12_ship_282 : decode cX12_ship 282 = .ok (.aload_n 0, 1) := by decide +kernel
theorem dX12_ship_283 : decode cX12_ship 283 = .ok (.iload 9, 2) := by decide +kernel
theorem dX12_ship_285 : decode cX12_ship 285 = .ok (.bipush 17, 2) := by decide +kernel
theorem dX12_ship_287 : decode cX12_ship 287 = .ok (.aload_n 0, 1) := by decide +kernel
theorem dX12_ship_288 : decode cX12_ship 288 = .ok (.aload_n 0, 1) := by decide +kernel
theorem dX12_ship_289 : decode cX12_ship 289 = .ok (.invokevirtual 77, 3) := by decide +kernel
theorem dX12_ship_292 : decode cX12_ship 292 = .ok (.invokevirtual 115, 3) := by decide +kernel
theorem dX12_ship_295 : decode cX12_ship 295 = .ok (.invokevirtual 111, 3) := by decide +kernel
theorem dX12_ship_298 : decode cX12_ship 298 = .ok (.iload 9, 2) := by decide +kernel
theorem dX12_ship_300 : decode cX12_ship 300 = .ok (.ireturn, 1) := by decide +kernel
noncomputable def o_X12_ship (F : Nat) (s : rs_S) (a1 : Int32) (a2 : Int32) (a3 : Int32) (a4 : Int32) (a5 : Int32) (a6 : Int32) (a7 : Int32) (a8 : Int32) : Option (Int32 × rs_S) := (o_X12_noPayer (pN s 0 (nI 0)) a1).bind fun x1 => ((o_X12_throwsIf (pN s 0 (nI 0)) x1 (nI 1)).bind fun x2 => (if x2.1 = 0 then ((o_X12_in x2.2 a2 (nI 0) (nI 5)).bind fun x4 => (if x4 = 0 then (some (nI 0, pN x2.2 0 (nI 2))) else ((o_X12_in x2.2 a3 (nI 1) (nI 20000)).bind fun x6 => (if x6 = 0 then (some (nI 0, pN x2.2 0 (nI 2))) else ((o_X12_in x2.2 a4 (nI 1) (nI 900)).bind fun x8 => (if x8 = 0 then (some (nI 0, pN x2.2 0 (nI 2))) else ((o_X12_in x2.2 a5 (nI 1) (nI 80)).bind fun x10 => (if x10 = 0 then (some (nI 0, pN x2.2 0 (nI 2))) else ((o_X12_in x2.2 a6 (nI 1) (nI 80)).bind fun x12 => (if x12 = 0 then (some (nI 0, pN x2.2 0 (nI 2))) else ((o_X12_in x2.2 a8 (nI 0) (nI 1000000)).bind fun x14 => (if x14 = 0 then (some (nI 0, pN x2.2 0 (nI 2))) else (if (gW x2.2 (nI 1211)) = (nI 80) then (some (nI 0, pN x2.2 0 (nI 3))) else ((o_X12_sets (pW x2.2 (nI 1211) ((gW x2.2 (nI 1211)) + (nI 1))) (gW x2.2 (nI 1211)) (nI 0) a1).bind fun x17 => ((o_X12_sets x17 (gW x2.2 (nI 1211)) (nI 1) a2).bind fun x18 => ((o_X12_sets x18 (gW x2.2 (nI 1211)) (nI 2) a3).bind fun x19 => ((o_X12_sets x19 (gW x2.2 (nI 1211)) (nI 3) a4).bind fun x20 => ((o_X12_sets x20 (gW x2.2 (nI 1211)) (nI 4) a5).bind fun x21 => ((o_X12_sets x21 (gW x2.2 (nI 1211)) (nI 5) a6).bind fun x22 => (if a7 = 0 then ((o_X12_sets x22 (gW x2.2 (nI 1211)) (nI 6) (nI 0)).bind fun x24 => ((o_X12_sets x24 (gW x2.2 (nI 1211)) (nI 7) a8).bind fun x25 => ((o_X12_hour x25).bind fun x26 => ((o_X12_sets x25 (gW x2.2 (nI 1211)) (nI 8) x26).bind fun x27 => ((o_X12_sets x27 (gW x2.2 (nI 1211)) (nI 10) (-1)).bind fun x28 => ((o_X12_sets x28 (gW x2.2 (nI 1211)) (nI 11) a3).bind fun x29 => ((o_X12_sets x29 (gW x2.2 (nI 1211)) (nI 12) (-1)).bind fun x30 => ((o_X12_sets x30 (gW x2.2 (nI 1211)) (nI 13) (-1)).bind fun x31 => ((o_X12_sets x31 (gW x2.2 (nI 1211)) (nI 15) (-1)).bind fun x32 => ((o_X12_today x32).bind fun x33 => ((o_X12_actOf F x32 x33).bind fun x34 => ((o_X12_sets x32 (gW x2.2 (nI 1211)) (nI 17) x34).bind fun x35 => (some (gW x2.2 (nI 1211), x35)))))))))))))) else ((o_X12_sets x22 (gW x2.2 (nI 1211)) (nI 6) (nI 1)).bind fun x36 => ((o_X12_sets x36 (gW x2.2 (nI 1211)) (nI 7) a8).bind fun x37 => ((o_X12_hour x37).bind fun x38 => ((o_X12_sets x37 (gW x2.2 (nI 1211)) (nI 8) x38).bind fun x39 => ((o_X12_sets x39 (gW x2.2 (nI 1211)) (nI 10) (-1)).bind fun x40 => ((o_X12_sets x40 (gW x2.2 (nI 1211)) (nI 11) a3).bind fun x41 => ((o_X12_sets x41 (gW x2.2 (nI 1211)) (nI 12) (-1)).bind fun x42 => ((o_X12_sets x42 (gW x2.2 (nI 1211)) (nI 13) (-1)).bind fun x43 => ((o_X12_sets x43 (gW x2.2 (nI 1211)) (nI 15) (-1)).bind fun x44 => ((o_X12_today x44).bind fun x45 => ((o_X12_actOf F x44 x45).bind fun x46 => ((o_X12_sets x44 (gW x2.2 (nI 1211)) (nI 17) x46).bind fun x47 => (some (gW x2.2 (nI 1211), x47)))))))))))))))))))))))))))))))))) else (some (nI 0, x2.2))))
set_option maxHeartbeats 4000000 in
theorem t_X12_ship {Γ : jg_G} {g : Nat → jg_C} {n r : Nat} (hr : r + 11 ≤ n) (F : Nat) (s : rs_S) (a1 : Int32) (a2 : Int32) (a3 : Int32) (a4 : Int32) (a5 : Int32) (a6 : Int32) (a7 : Int32) (a8 : Int32)  {x : Int32 × rs_S} (h : o_X12_ship F s a1 a2 a3 a4 a5 a6 a7 a8 = some x) : jc Γ mX12_ship 2 0 0 [some (.ref r), some (.int a1), some (.int a2), some (.int a3), some (.int a4), some (.int a5), some (.int a6), some (.int a7), some (.int a8), none] (rs_h g r s, n) (.inl (some (.int x.1))) (rs_h g r x.2, n) := by
  refine jc_of ?_
  rw [o_X12_ship] at h
  refine jg_aload_n dX12_ship_0 rfl ?_
  refine jg_iconst (v := nI 0) dX12_ship_1 (by decide) ?_
  refine rs_putD (s := s) (k := 0) (x := (nI 0)) fl_X12_3 dX12_ship_2 hr (by decide) (rfl) rfl rfl ?_
  refine jg_aload_n dX12_ship_5 rfl ?_
  refine jg_aload_n dX12_ship_6 rfl ?_
  refine jg_iload_n dX12_ship_7 rfl ?_
  obtain ⟨x1, e_x1, h⟩ := bd_some h
  refine rs_call (As := [.int a1]) kv_X12_107 dX12_ship_8 hr rfl rfl (by decide) (Nat.le_of_ble_eq_true rfl) rfl (by decide) (Nat.le_of_ble_eq_true rfl) (t_X12_noPayer hr (pN s 0 (nI 0)) a1 e_x1) ?_
  refine jg_iconst (v := nI 1) dX12_ship_11 (by decide) ?_
  obtain ⟨x2, e_x2, h⟩ := bd_some h
  refine rs_call (As := [.int x1, .int (nI 1)]) kv_X12_69 dX12_ship_12 hr rfl rfl (by decide) (Nat.le_of_ble_eq_true rfl) rfl (by decide) (Nat.le_of_ble_eq_true rfl) (t_X12_throwsIf hr (pN s 0 (nI 0)) x1 (nI 1) e_x2) ?_
  refine jg_if_ne (x := x2.1) (tgt := 122) dX12_ship_15 (by decide) (fun c3 => ?_) (fun c3 => ?_)
  · replace h := it_f c3 h
    refine jg_iconst (v := nI 0) dX12_ship_122 (by decide) ?_
    obtain rfl := Option.some.inj h
    exact jg_ireturn dX12_ship_123 rfl ⟨rfl, rfl⟩
  · replace h := it_t c3 h
    refine jg_aload_n dX12_ship_18 rfl ?_
    refine jg_iload_n dX12_ship_19 rfl ?_
    refine jg_iconst (v := nI 0) dX12_ship_20 (by decide) ?_
    refine jg_iconst (v := nI 5) dX12_ship_21 (by decide) ?_
    obtain ⟨x4, e_x4, h⟩ := bd_some h
    refine rs_callS (As := [.int a2, .int (nI 0), .int (nI 5)]) ks_X12_49 dX12_ship_22 rfl (by decide) (Nat.le_of_ble_eq_true rfl) rfl (by decide) (Nat.le_of_ble_eq_true rfl) (t_X12_in hr x2.2 a2 (nI 0) (nI 5) e_x4) ?_
    refine jg_if_eq (x := x4) (tgt := 84) dX12_ship_25 (by decide) (fun c5 => ?_) (fun c5 => ?_)
    · replace h := it_t c5 h
      refine jg_iconst (v := nI 1) dX12_ship_84 (by decide) ?_
      refine jg_goto (tgt := 89) dX12_ship_85 (by decide) ?_
      refine jg_iconst (v := nI 2) dX12_ship_89 (by decide) ?_
      refine rs_call (As := [.int (nI 1), .int (nI 2)]) kv_X12_69 dX12_ship_90 hr rfl rfl (by decide) (Nat.le_of_ble_eq_true rfl) rfl (by decide) (Nat.le_of_ble_eq_true rfl) (t_X12_throwsIf hr x2.2 (nI 1) (nI 2) (o_thr1 x2.2 (nI 2))) ?_
      refine jg_if_ne (x := (nI 1)) (tgt := 122) dX12_ship_93 (by decide) (fun _ => ?_) (fun q9 => absurd q9 (by decide))
      refine jg_iconst (v := nI 0) dX12_ship_122 (by decide) ?_
      obtain rfl := Option.some.inj h
      exact jg_ireturn dX12_ship_123 rfl ⟨rfl, rfl⟩
    · replace h := it_f c5 h
      refine jg_iload_n dX12_ship_28 rfl ?_
      refine jg_iconst (v := nI 1) dX12_ship_29 (by decide) ?_
      refine jg_sipush (v := nI 20000) dX12_ship_30 (by decide) ?_
      obtain ⟨x6, e_x6, h⟩ := bd_some h
      refine rs_callS (As := [.int a3, .int (nI 1), .int (nI 20000)]) ks_X12_49 dX12_ship_33 rfl (by decide) (Nat.le_of_ble_eq_true rfl) rfl (by decide) (Nat.le_of_ble_eq_true rfl) (t_X12_in hr x2.2 a3 (nI 1) (nI 20000) e_x6) ?_
      refine jg_if_eq (x := x6) (tgt := 84) dX12_ship_36 (by decide) (fun c7 => ?_) (fun c7 => ?_)
      · replace h := it_t c7 h
        refine jg_iconst (v := nI 1) dX12_ship_84 (by decide) ?_
        refine jg_goto (tgt := 89) dX12_ship_85 (by decide) ?_
        refine jg_iconst (v := nI 2) dX12_ship_89 (by decide) ?_
        refine rs_call (As := [.int (nI 1), .int (nI 2)]) kv_X12_69 dX12_ship_90 hr rfl rfl (by decide) (Nat.le_of_ble_eq_true rfl) rfl (by decide) (Nat.le_of_ble_eq_true rfl) (t_X12_throwsIf hr x2.2 (nI 1) (nI 2) (o_thr1 x2.2 (nI 2))) ?_
        refine jg_if_ne (x := (nI 1)) (tgt := 122) dX12_ship_93 (by decide) (fun _ => ?_) (fun q9 => absurd q9 (by decide))
        refine jg_iconst (v := nI 0) dX12_ship_122 (by decide) ?_
        obtain rfl := Option.some.inj h
        exact jg_ireturn dX12_ship_123 rfl ⟨rfl, rfl⟩
      · replace h := it_f c7 h
        refine jg_iload dX12_ship_39 rfl ?_
        refine jg_iconst (v := nI 1) dX12_ship_41 (by decide) ?_
        refine jg_sipush (v := nI 900) dX12_ship_42 (by decide) ?_
        obtain ⟨x8, e_x8, h⟩ := bd_some h
        refine rs_callS (As := [.int a4, .int (nI 1), .int (nI 900)]) ks_X12_49 dX12_ship_45 rfl (by decide) (Nat.le_of_ble_eq_true rfl) rfl (by decide) (Nat.le_of_ble_eq_true rfl) (t_X12_in hr x2.2 a4 (nI 1) (nI 900) e_x8) ?_
        refine jg_if_eq (x := x8) (tgt := 84) dX12_ship_48 (by decide) (fun c9 => ?_) (fun c9 => ?_)
        · replace h := it_t c9 h
          refine jg_iconst (v := nI 1) dX12_ship_84 (by decide) ?_
          refine jg_goto (tgt := 89) dX12_ship_85 (by decide) ?_
          refine jg_iconst (v := nI 2) dX12_ship_89 (by decide) ?_
          refine rs_call (As := [.int (nI 1), .int (nI 2)]) kv_X12_69 dX12_ship_90 hr rfl rfl (by decide) (Nat.le_of_ble_eq_true rfl) rfl (by decide) (Nat.le_of_ble_eq_true rfl) (t_X12_throwsIf hr x2.2 (nI 1) (nI 2) (o_thr1 x2.2 (nI 2))) ?_
          refine jg_if_ne (x := (nI 1)) (tgt := 122) dX12_ship_93 (by decide) (fun _ => ?_) (fun q9 => absurd q9 (by decide))
          refine jg_iconst (v := nI 0) dX12_ship_122 (by decide) ?_
          obtain rfl := Option.some.inj h
          exact jg_ireturn dX12_ship_123 rfl ⟨rfl, rfl⟩
        · replace h := it_f c9 h
          refine jg_iload dX12_ship_51 rfl ?_
          refine jg_iconst (v := nI 1) dX12_ship_53 (by decide) ?_
          refine jg_bipush (v := nI 80) dX12_ship_54 (by decide) ?_
          obtain ⟨x10, e_x10, h⟩ := bd_some h
          refine rs_callS (As := [.int a5, .int (nI 1), .int (nI 80)]) ks_X12_49 dX12_ship_56 rfl (by decide) (Nat.le_of_ble_eq_true rfl) rfl (by decide) (Nat.le_of_ble_eq_true rfl) (t_X12_in hr x2.2 a5 (nI 1) (nI 80) e_x10) ?_
          refine jg_if_eq (x := x10) (tgt := 84) dX12_ship_59 (by decide) (fun c11 => ?_) (fun c11 => ?_)
          · replace h := it_t c11 h
            refine jg_iconst (v := nI 1) dX12_ship_84 (by decide) ?_
            refine jg_goto (tgt := 89) dX12_ship_85 (by decide) ?_
            refine jg_iconst (v := nI 2) dX12_ship_89 (by decide) ?_
            refine rs_call (As := [.int (nI 1), .int (nI 2)]) kv_X12_69 dX12_ship_90 hr rfl rfl (by decide) (Nat.le_of_ble_eq_true rfl) rfl (by decide) (Nat.le_of_ble_eq_true rfl) (t_X12_throwsIf hr x2.2 (nI 1) (nI 2) (o_thr1 x2.2 (nI 2))) ?_
            refine jg_if_ne (x := (nI 1)) (tgt := 122) dX12_ship_93 (by decide) (fun _ => ?_) (fun q9 => absurd q9 (by decide))
            refine jg_iconst (v := nI 0) dX12_ship_122 (by decide) ?_
            obtain rfl := Option.some.inj h
            exact jg_ireturn dX12_ship_123 rfl ⟨rfl, rfl⟩
          · replace h := it_f c11 h
            refine jg_iload dX12_ship_62 rfl ?_
            refine jg_iconst (v := nI 1) dX12_ship_64 (by decide) ?_
            refine jg_bipush (v := nI 80) dX12_ship_65 (by decide) ?_
            obtain ⟨x12, e_x12, h⟩ := bd_some h
            refine rs_callS (As := [.int a6, .int (nI 1), .int (nI 80)]) ks_X12_49 dX12_ship_67 rfl (by decide) (Nat.le_of_ble_eq_true rfl) rfl (by decide) (Nat.le_of_ble_eq_true rfl) (t_X12_in hr x2.2 a6 (nI 1) (nI 80) e_x12) ?_
            refine jg_if_eq (x := x12) (tgt := 84) dX12_ship_70 (by decide) (fun c13 => ?_) (fun c13 => ?_)
            · replace h := it_t c13 h
              refine jg_iconst (v := nI 1) dX12_ship_84 (by decide) ?_
              refine jg_goto (tgt := 89) dX12_ship_85 (by decide) ?_
              refine jg_iconst (v := nI 2) dX12_ship_89 (by decide) ?_
              refine rs_call (As := [.int (nI 1), .int (nI 2)]) kv_X12_69 dX12_ship_90 hr rfl rfl (by decide) (Nat.le_of_ble_eq_true rfl) rfl (by decide) (Nat.le_of_ble_eq_true rfl) (t_X12_throwsIf hr x2.2 (nI 1) (nI 2) (o_thr1 x2.2 (nI 2))) ?_
              refine jg_if_ne (x := (nI 1)) (tgt := 122) dX12_ship_93 (by decide) (fun _ => ?_) (fun q9 => absurd q9 (by decide))
              refine jg_iconst (v := nI 0) dX12_ship_122 (by decide) ?_
              obtain rfl := Option.some.inj h
              exact jg_ireturn dX12_ship_123 rfl ⟨rfl, rfl⟩
            · replace h := it_f c13 h
              refine jg_iload dX12_ship_73 rfl ?_
              refine jg_iconst (v := nI 0) dX12_ship_75 (by decide) ?_
              refine jg_ldc kk_X12_110 dX12_ship_76 ?_
              rw [show (1000000 : Int32) = nI 1000000 from rfl]
              obtain ⟨x14, e_x14, h⟩ := bd_some h
              refine rs_callS (As := [.int a8, .int (nI 0), .int (nI 1000000)]) ks_X12_49 dX12_ship_78 rfl (by decide) (Nat.le_of_ble_eq_true rfl) rfl (by decide) (Nat.le_of_ble_eq_true rfl) (t_X12_in hr x2.2 a8 (nI 0) (nI 1000000) e_x14) ?_
              refine jg_if_ne (x := x14) (tgt := 88) dX12_ship_81 (by decide) (fun c15 => ?_) (fun c15 => ?_)
              · replace h := it_f c15 h
                refine jg_iconst (v := nI 0) dX12_ship_88 (by decide) ?_
                refine jg_iconst (v := nI 2) dX12_ship_89 (by decide) ?_
                refine rs_call (As := [.int (nI 0), .int (nI 2)]) kv_X12_69 dX12_ship_90 hr rfl rfl (by decide) (Nat.le_of_ble_eq_true rfl) rfl (by decide) (Nat.le_of_ble_eq_true rfl) (t_X12_throwsIf hr x2.2 (nI 0) (nI 2) (o_thr0 x2.2 (nI 2))) ?_
                refine jg_if_ne (x := (nI 0)) (tgt := 122) dX12_ship_93 (by decide) (fun q9 => absurd q9 (by decide)) (fun _ => ?_)
                refine jg_aload_n dX12_ship_96 rfl ?_
                refine jg_aload_n dX12_ship_97 rfl ?_
                refine rs_ga fl_X12_13 dX12_ship_98 hr rfl ?_
                refine jg_sipush (v := nI 1211) dX12_ship_101 (by decide) ?_
                refine rs_lwD (s := x2.2) (i := (nI 1211)) dX12_ship_104 hr (by decide) ?_
                refine jg_bipush (v := nI 80) dX12_ship_105 (by decide) ?_
                refine jg_icmp_ne (x := (gW x2.2 (nI 1211))) (y := (nI 80)) (tgt := 114) dX12_ship_107 (by decide) (fun c16 => ?_) (fun c16 => ?_)
                · replace h := it_f c16 h
                  refine jg_iconst (v := nI 0) dX12_ship_114 (by decide) ?_
                  refine jg_iconst (v := nI 3) dX12_ship_115 (by decide) ?_
                  refine rs_call (As := [.int (nI 0), .int (nI 3)]) kv_X12_69 dX12_ship_116 hr rfl rfl (by decide) (Nat.le_of_ble_eq_true rfl) rfl (by decide) (Nat.le_of_ble_eq_true rfl) (t_X12_throwsIf hr x2.2 (nI 0) (nI 3) (o_thr0 x2.2 (nI 3))) ?_
                  refine jg_if_eq (x := (nI 0)) (tgt := 124) dX12_ship_119 (by decide) (fun _ => ?_) (fun q9 => absurd q9 (by decide))
                  refine jg_aload_n dX12_ship_124 rfl ?_
                  refine rs_ga fl_X12_13 dX12_ship_125 hr rfl ?_
                  refine jg_sipush (v := nI 1211) dX12_ship_128 (by decide) ?_
                  refine rs_lwD (s := x2.2) (i := (nI 1211)) dX12_ship_131 hr (by decide) ?_
                  refine jg_istore (L' := [some (.ref r), some (.int a1), some (.int a2), some (.int a3), some (.int a4), some (.int a5), some (.int a6), some (.int a7), some (.int a8), some (.int (gW x2.2 (nI 1211)))]) dX12_ship_132 (by decide) rfl ?_
                  refine jg_aload_n dX12_ship_134 rfl ?_
                  refine rs_ga fl_X12_13 dX12_ship_135 hr rfl ?_
                  refine jg_sipush (v := nI 1211) dX12_ship_138 (by decide) ?_
                  refine jg_dup2 dX12_ship_141 rfl rfl ?_
                  refine rs_lwD (s := x2.2) (i := (nI 1211)) dX12_ship_142 hr (by decide) ?_
                  refine jg_iconst (v := nI 1) dX12_ship_143 (by decide) ?_
                  refine jg_iadd (x := (gW x2.2 (nI 1211))) (y := (nI 1)) dX12_ship_144  ?_
                  refine rs_swD (s := x2.2) (i := (nI 1211)) (x := ((gW x2.2 (nI 1211)) + (nI 1))) dX12_ship_145 hr (by decide) ?_
                  refine jg_aload_n dX12_ship_146 rfl ?_
                  refine jg_iload dX12_ship_147 rfl ?_
                  refine jg_iconst (v := nI 0) dX12_ship_149 (by decide) ?_
                  refine jg_iload_n dX12_ship_150 rfl ?_
                  obtain ⟨x17, e_x17, h⟩ := bd_some h
                  refine rs_call (As := [.int (gW x2.2 (nI 1211)), .int (nI 0), .int a1]) kv_X12_111 dX12_ship_151 hr rfl rfl (by decide) (Nat.le_of_ble_eq_true rfl) rfl (by decide) (Nat.le_of_ble_eq_true rfl) (t_X12_sets hr (pW x2.2 (nI 1211) ((gW x2.2 (nI 1211)) + (nI 1))) (gW x2.2 (nI 1211)) (nI 0) a1 e_x17) ?_
                  refine jg_aload_n dX12_ship_154 rfl ?_
                  refine jg_iload dX12_ship_155 rfl ?_
                  refine jg_iconst (v := nI 1) dX12_ship_157 (by decide) ?_
                  refine jg_iload_n dX12_ship_158 rfl ?_
                  obtain ⟨x18, e_x18, h⟩ := bd_some h
                  refine rs_call (As := [.int (gW x2.2 (nI 1211)), .int (nI 1), .int a2]) kv_X12_111 dX12_ship_159 hr rfl rfl (by decide) (Nat.le_of_ble_eq_true rfl) rfl (by decide) (Nat.le_of_ble_eq_true rfl) (t_X12_sets hr x17 (gW x2.2 (nI 1211)) (nI 1) a2 e_x18) ?_
                  refine jg_aload_n dX12_ship_162 rfl ?_
                  refine jg_iload dX12_ship_163 rfl ?_
                  refine jg_iconst (v := nI 2) dX12_ship_165 (by decide) ?_
                  refine jg_iload_n dX12_ship_166 rfl ?_
                  obtain ⟨x19, e_x19, h⟩ := bd_some h
                  refine rs_call (As := [.int (gW x2.2 (nI 1211)), .int (nI 2), .int a3]) kv_X12_111 dX12_ship_167 hr rfl rfl (by decide) (Nat.le_of_ble_eq_true rfl) rfl (by decide) (Nat.le_of_ble_eq_true rfl) (t_X12_sets hr x18 (gW x2.2 (nI 1211)) (nI 2) a3 e_x19) ?_
                  refine jg_aload_n dX12_ship_170 rfl ?_
                  refine jg_iload dX12_ship_171 rfl ?_
                  refine jg_iconst (v := nI 3) dX12_ship_173 (by decide) ?_
                  refine jg_iload dX12_ship_174 rfl ?_
                  obtain ⟨x20, e_x20, h⟩ := bd_some h
                  refine rs_call (As := [.int (gW x2.2 (nI 1211)), .int (nI 3), .int a4]) kv_X12_111 dX12_ship_176 hr rfl rfl (by decide) (Nat.le_of_ble_eq_true rfl) rfl (by decide) (Nat.le_of_ble_eq_true rfl) (t_X12_sets hr x19 (gW x2.2 (nI 1211)) (nI 3) a4 e_x20) ?_
                  refine jg_aload_n dX12_ship_179 rfl ?_
                  refine jg_iload dX12_ship_180 rfl ?_
                  refine jg_iconst (v := nI 4) dX12_ship_182 (by decide) ?_
                  refine jg_iload dX12_ship_183 rfl ?_
                  obtain ⟨x21, e_x21, h⟩ := bd_some h
                  refine rs_call (As := [.int (gW x2.2 (nI 1211)), .int (nI 4), .int a5]) kv_X12_111 dX12_ship_185 hr rfl rfl (by decide) (Nat.le_of_ble_eq_true rfl) rfl (by decide) (Nat.le_of_ble_eq_true rfl) (t_X12_sets hr x20 (gW x2.2 (nI 1211)) (nI 4) a5 e_x21) ?_
                  refine jg_aload_n dX12_ship_188 rfl ?_
                  refine jg_iload dX12_ship_189 rfl ?_
                  refine jg_iconst (v := nI 5) dX12_ship_191 (by decide) ?_
                  refine jg_iload dX12_ship_192 rfl ?_
                  obtain ⟨x22, e_x22, h⟩ := bd_some h
                  refine rs_call (As := [.int (gW x2.2 (nI 1211)), .int (nI 5), .int a6]) kv_X12_111 dX12_ship_194 hr rfl rfl (by decide) (Nat.le_of_ble_eq_true rfl) rfl (by decide) (Nat.le_of_ble_eq_true rfl) (t_X12_sets hr x21 (gW x2.2 (nI 1211)) (nI 5) a6 e_x22) ?_
                  refine jg_aload_n dX12_ship_197 rfl ?_
                  refine jg_iload dX12_ship_198 rfl ?_
                  refine jg_bipush (v := nI 6) dX12_ship_200 (by decide) ?_
                  refine jg_iload dX12_ship_202 rfl ?_
                  refine jg_if_eq (x := a7) (tgt := 211) dX12_ship_204 (by decide) (fun c23 => ?_) (fun c23 => ?_)
                  · replace h := it_t c23 h
                    refine jg_iconst (v := nI 0) dX12_ship_211 (by decide) ?_
                    obtain ⟨x24, e_x24, h⟩ := bd_some h
                    refine rs_call (As := [.int (gW x2.2 (nI 1211)), .int (nI 6), .int (nI 0)]) kv_X12_111 dX12_ship_212 hr rfl rfl (by decide) (Nat.le_of_ble_eq_true rfl) rfl (by decide) (Nat.le_of_ble_eq_true rfl) (t_X12_sets hr x22 (gW x2.2 (nI 1211)) (nI 6) (nI 0) e_x24) ?_
                    refine jg_aload_n dX12_ship_215 rfl ?_
                    refine jg_iload dX12_ship_216 rfl ?_
                    refine jg_bipush (v := nI 7) dX12_ship_218 (by decide) ?_
                    refine jg_iload dX12_ship_220 rfl ?_
                    obtain ⟨x25, e_x25, h⟩ := bd_some h
                    refine rs_call (As := [.int (gW x2.2 (nI 1211)), .int (nI 7), .int a8]) kv_X12_111 dX12_ship_222 hr rfl rfl (by decide) (Nat.le_of_ble_eq_true rfl) rfl (by decide) (Nat.le_of_ble_eq_true rfl) (t_X12_sets hr x24 (gW x2.2 (nI 1211)) (nI 7) a8 e_x25) ?_
                    refine jg_aload_n dX12_ship_225 rfl ?_
                    refine jg_iload dX12_ship_226 rfl ?_
                    refine jg_bipush (v := nI 8) dX12_ship_228 (by decide) ?_
                    refine jg_aload_n dX12_ship_230 rfl ?_
                    obtain ⟨x26, e_x26, h⟩ := bd_some h
                    refine rs_call (As := []) kv_X12_73 dX12_ship_231 hr rfl rfl (by decide) (Nat.le_of_ble_eq_true rfl) rfl (by decide) (Nat.le_of_ble_eq_true rfl) (t_X12_hour hr x25 e_x26) ?_
                    obtain ⟨x27, e_x27, h⟩ := bd_some h
                    refine rs_call (As := [.int (gW x2.2 (nI 1211)), .int (nI 8), .int x26]) kv_X12_111 dX12_ship_234 hr rfl rfl (by decide) (Nat.le_of_ble_eq_true rfl) rfl (by decide) (Nat.le_of_ble_eq_true rfl) (t_X12_sets hr x25 (gW x2.2 (nI 1211)) (nI 8) x26 e_x27) ?_
                    refine jg_aload_n dX12_ship_237 rfl ?_
                    refine jg_iload dX12_ship_238 rfl ?_
                    refine jg_bipush (v := nI 10) dX12_ship_240 (by decide) ?_
                    refine jg_iconst (v := (-1)) dX12_ship_242 (by decide) ?_
                    obtain ⟨x28, e_x28, h⟩ := bd_some h
                    refine rs_call (As := [.int (gW x2.2 (nI 1211)), .int (nI 10), .int (-1)]) kv_X12_111 dX12_ship_243 hr rfl rfl (by decide) (Nat.le_of_ble_eq_true rfl) rfl (by decide) (Nat.le_of_ble_eq_true rfl) (t_X12_sets hr x27 (gW x2.2 (nI 1211)) (nI 10) (-1) e_x28) ?_
                    refine jg_aload_n dX12_ship_246 rfl ?_
                    refine jg_iload dX12_ship_247 rfl ?_
                    refine jg_bipush (v := nI 11) dX12_ship_249 (by decide) ?_
                    refine jg_iload_n dX12_ship_251 rfl ?_
                    obtain ⟨x29, e_x29, h⟩ := bd_some h
                    refine rs_call (As := [.int (gW x2.2 (nI 1211)), .int (nI 11), .int a3]) kv_X12_111 dX12_ship_252 hr rfl rfl (by decide) (Nat.le_of_ble_eq_true rfl) rfl (by decide) (Nat.le_of_ble_eq_true rfl) (t_X12_sets hr x28 (gW x2.2 (nI 1211)) (nI 11) a3 e_x29) ?_
                    refine jg_aload_n dX12_ship_255 rfl ?_
                    refine jg_iload dX12_ship_256 rfl ?_
                    refine jg_bipush (v := nI 12) dX12_ship_258 (by decide) ?_
                    refine jg_iconst (v := (-1)) dX12_ship_260 (by decide) ?_
                    obtain ⟨x30, e_x30, h⟩ := bd_some h
                    refine rs_call (As := [.int (gW x2.2 (nI 1211)), .int (nI 12), .int (-1)]) kv_X12_111 dX12_ship_261 hr rfl rfl (by decide) (Nat.le_of_ble_eq_true rfl) rfl (by decide) (Nat.le_of_ble_eq_true rfl) (t_X12_sets hr x29 (gW x2.2 (nI 1211)) (nI 12) (-1) e_x30) ?_
                    refine jg_aload_n dX12_ship_264 rfl ?_
                    refine jg_iload dX12_ship_265 rfl ?_
                    refine jg_bipush (v := nI 13) dX12_ship_267 (by decide) ?_
                    refine jg_iconst (v := (-1)) dX12_ship_269 (by decide) ?_
                    obtain ⟨x31, e_x31, h⟩ := bd_some h
                    refine rs_call (As := [.int (gW x2.2 (nI 1211)), .int (nI 13), .int (-1)]) kv_X12_111 dX12_ship_270 hr rfl rfl (by decide) (Nat.le_of_ble_eq_true rfl) rfl (by decide) (Nat.le_of_ble_eq_true rfl) (t_X12_sets hr x30 (gW x2.2 (nI 1211)) (nI 13) (-1) e_x31) ?_
                    refine jg_aload_n dX12_ship_273 rfl ?_
                    refine jg_iload dX12_ship_274 rfl ?_
                    refine jg_bipush (v := nI 15) dX12_ship_276 (by decide) ?_
                    refine jg_iconst (v := (-1)) dX12_ship_278 (by decide) ?_
                    obtain ⟨x32, e_x32, h⟩ := bd_some h
                    refine rs_call (As := [.int (gW x2.2 (nI 1211)), .int (nI 15), .int (-1)]) kv_X12_111 dX12_ship_279 hr rfl rfl (by decide) (Nat.le_of_ble_eq_true rfl) rfl (by decide) (Nat.le_of_ble_eq_true rfl) (t_X12_sets hr x31 (gW x2.2 (nI 1211)) (nI 15) (-1) e_x32) ?_
                    refine jg_aload_n dX12_ship_282 rfl ?_
                    refine jg_iload dX12_ship_283 rfl ?_
                    refine jg_bipush (v := nI 17) dX12_ship_285 (by decide) ?_
                    refine jg_aload_n dX12_ship_287 rfl ?_
                    refine jg_aload_n dX12_ship_288 rfl ?_
                    obtain ⟨x33, e_x33, h⟩ := bd_some h
                    refine rs_call (As := []) kv_X12_77 dX12_ship_289 hr rfl rfl (by decide) (Nat.le_of_ble_eq_true rfl) rfl (by decide) (Nat.le_of_ble_eq_true rfl) (t_X12_today hr x32 e_x33) ?_
                    obtain ⟨x34, e_x34, h⟩ := bd_some h
                    refine rs_call (As := [.int x33]) kv_X12_115 dX12_ship_292 hr rfl rfl (by decide) (Nat.le_of_ble_eq_true rfl) rfl (by decide) (Nat.le_of_ble_eq_true rfl) (t_X12_actOf hr F x32 x33 e_x34) ?_
                    obtain ⟨x35, e_x35, h⟩ := bd_some h
                    refine rs_call (As := [.int (gW x2.2 (nI 1211)), .int (nI 17), .int x34]) kv_X12_111 dX12_ship_295 hr rfl rfl (by decide) (Nat.le_of_ble_eq_true rfl) rfl (by decide) (Nat.le_of_ble_eq_true rfl) (t_X12_sets hr x32 (gW x2.2 (nI 1211)) (nI 17) x34 e_x35) ?_
                    refine jg_iload dX12_ship_298 rfl ?_
                    obtain rfl := Option.some.inj h
                    exact jg_ireturn dX12_ship_300 rfl ⟨rfl, rfl⟩
                  · replace h := it_f c23 h
                    refine jg_iconst (v := nI 1) dX12_ship_207 (by decide) ?_
                    refine jg_goto (tgt := 212) dX12_ship_208 (by decide) ?_
                    obtain ⟨x36, e_x36, h⟩ := bd_some h
                    refine rs_call (As := [.int (gW x2.2 (nI 1211)), .int (nI 6), .int (nI 1)]) kv_X12_111 dX12_ship_212 hr rfl rfl (by decide) (Nat.le_of_ble_eq_true rfl) rfl (by decide) (Nat.le_of_ble_eq_true rfl) (t_X12_sets hr x22 (gW x2.2 (nI 1211)) (nI 6) (nI 1) e_x36) ?_
                    refine jg_aload_n dX12_ship_215 rfl ?_
                    refine jg_iload dX12_ship_216 rfl ?_
                    refine jg_bipush (v := nI 7) dX12_ship_218 (by decide) ?_
                    refine jg_iload dX12_ship_220 rfl ?_
                    obtain ⟨x37, e_x37, h⟩ := bd_some h
                    refine rs_call (As := [.int (gW x2.2 (nI 1211)), .int (nI 7), .int a8]) kv_X12_111 dX12_ship_222 hr rfl rfl (by decide) (Nat.le_of_ble_eq_true rfl) rfl (by decide) (Nat.le_of_ble_eq_true rfl) (t_X12_sets hr x36 (gW x2.2 (nI 1211)) (nI 7) a8 e_x37) ?_
                    refine jg_aload_n dX12_ship_225 rfl ?_
                    refine jg_iload dX12_ship_226 rfl ?_
                    refine jg_bipush (v := nI 8) dX12_ship_228 (by decide) ?_
                    refine jg_aload_n dX12_ship_230 rfl ?_
                    obtain ⟨x38, e_x38, h⟩ := bd_some h
                    refine rs_call (As := []) kv_X12_73 dX12_ship_231 hr rfl rfl (by decide) (Nat.le_of_ble_eq_true rfl) rfl (by decide) (Nat.le_of_ble_eq_true rfl) (t_X12_hour hr x37 e_x38) ?_
                    obtain ⟨x39, e_x39, h⟩ := bd_some h
                    refine rs_call (As := [.int (gW x2.2 (nI 1211)), .int (nI 8), .int x38]) kv_X12_111 dX12_ship_234 hr rfl rfl (by decide) (Nat.le_of_ble_eq_true rfl) rfl (by decide) (Nat.le_of_ble_eq_true rfl) (t_X12_sets hr x37 (gW x2.2 (nI 1211)) (nI 8) x38 e_x39) ?_
                    refine jg_aload_n dX12_ship_237 rfl ?_
                    refine jg_iload dX12_ship_238 rfl ?_
                    refine jg_bipush (v := nI 10) dX12_ship_240 (by decide) ?_
                    refine jg_iconst (v := (-1)) dX12_ship_242 (by decide) ?_
                    obtain ⟨x40, e_x40, h⟩ := bd_some h
                    refine rs_call (As := [.int (gW x2.2 (nI 1211)), .int (nI 10), .int (-1)]) kv_X12_111 dX12_ship_243 hr rfl rfl (by decide) (Nat.le_of_ble_eq_true rfl) rfl (by decide) (Nat.le_of_ble_eq_true rfl) (t_X12_sets hr x39 (gW x2.2 (nI 1211)) (nI 10) (-1) e_x40) ?_
                    refine jg_aload_n dX12_ship_246 rfl ?_
                    refine jg_iload dX12_ship_247 rfl ?_
                    refine jg_bipush (v := nI 11) dX12_ship_249 (by decide) ?_
                    refine jg_iload_n dX12_ship_251 rfl ?_
                    obtain ⟨x41, e_x41, h⟩ := bd_some h
                    refine rs_call (As := [.int (gW x2.2 (nI 1211)), .int (nI 11), .int a3]) kv_X12_111 dX12_ship_252 hr rfl rfl (by decide) (Nat.le_of_ble_eq_true rfl) rfl (by decide) (Nat.le_of_ble_eq_true rfl) (t_X12_sets hr x40 (gW x2.2 (nI 1211)) (nI 11) a3 e_x41) ?_
                    refine jg_aload_n dX12_ship_255 rfl ?_
                    refine jg_iload dX12_ship_256 rfl ?_
                    refine jg_bipush (v := nI 12) dX12_ship_258 (by decide) ?_
                    refine jg_iconst (v := (-1)) dX12_ship_260 (by decide) ?_
                    obtain ⟨x42, e_x42, h⟩ := bd_some h
                    refine rs_call (As := [.int (gW x2.2 (nI 1211)), .int (nI 12), .int (-1)]) kv_X12_111 dX12_ship_261 hr rfl rfl (by decide) (Nat.le_of_ble_eq_true rfl) rfl (by decide) (Nat.le_of_ble_eq_true rfl) (t_X12_sets hr x41 (gW x2.2 (nI 1211)) (nI 12) (-1) e_x42) ?_
                    refine jg_aload_n dX12_ship_264 rfl ?_
                    refine jg_iload dX12_ship_265 rfl ?_
                    refine jg_bipush (v := nI 13) dX12_ship_267 (by decide) ?_
                    refine jg_iconst (v := (-1)) dX12_ship_269 (by decide) ?_
                    obtain ⟨x43, e_x43, h⟩ := bd_some h
                    refine rs_call (As := [.int (gW x2.2 (nI 1211)), .int (nI 13), .int (-1)]) kv_X12_111 dX12_ship_270 hr rfl rfl (by decide) (Nat.le_of_ble_eq_true rfl) rfl (by decide) (Nat.le_of_ble_eq_true rfl) (t_X12_sets hr x42 (gW x2.2 (nI 1211)) (nI 13) (-1) e_x43) ?_
                    refine jg_aload_n dX12_ship_273 rfl ?_
                    refine jg_iload dX12_ship_274 rfl ?_
                    refine jg_bipush (v := nI 15) dX12_ship_276 (by decide) ?_
                    refine jg_iconst (v := (-1)) dX12_ship_278 (by decide) ?_
                    obtain ⟨x44, e_x44, h⟩ := bd_some h
                    refine rs_call (As := [.int (gW x2.2 (nI 1211)), .int (nI 15), .int (-1)]) kv_X12_111 dX12_ship_279 hr rfl rfl (by decide) (Nat.le_of_ble_eq_true rfl) rfl (by decide) (Nat.le_of_ble_eq_true rfl) (t_X12_sets hr x43 (gW x2.2 (nI 1211)) (nI 15) (-1) e_x44) ?_
                    refine jg_aload_n dX12_ship_282 rfl ?_
                    refine jg_iload dX12_ship_283 rfl ?_
                    refine jg_bipush (v := nI 17) dX12_ship_285 (by decide) ?_
                    refine jg_aload_n dX12_ship_287 rfl ?_
                    refine jg_aload_n dX12_ship_288 rfl ?_
                    obtain ⟨x45, e_x45, h⟩ := bd_some h
                    refine rs_call (As := []) kv_X12_77 dX12_ship_289 hr rfl rfl (by decide) (Nat.le_of_ble_eq_true rfl) rfl (by decide) (Nat.le_of_ble_eq_true rfl) (t_X12_today hr x44 e_x45) ?_
                    obtain ⟨x46, e_x46, h⟩ := bd_some h
                    refine rs_call (As := [.int x45]) kv_X12_115 dX12_ship_292 hr rfl rfl (by decide) (Nat.le_of_ble_eq_true rfl) rfl (by decide) (Nat.le_of_ble_eq_true rfl) (t_X12_actOf hr F x44 x45 e_x46) ?_
                    obtain ⟨x47, e_x47, h⟩ := bd_some h
                    refine rs_call (As := [.int (gW x2.2 (nI 1211)), .int (nI 17), .int x46]) kv_X12_111 dX12_ship_295 hr rfl rfl (by decide) (Nat.le_of_ble_eq_true rfl) rfl (by decide) (Nat.le_of_ble_eq_true rfl) (t_X12_sets hr x44 (gW x2.2 (nI 1211)) (nI 17) x46 e_x47) ?_
                    refine jg_iload dX12_ship_298 rfl ?_
                    obtain rfl := Option.some.inj h
                    exact jg_ireturn dX12_ship_300 rfl ⟨rfl, rfl⟩
                · replace h := it_t c16 h
                  refine jg_iconst (v := nI 1) dX12_ship_110 (by decide) ?_
                  refine jg_goto (tgt := 115) dX12_ship_111 (by decide) ?_
                  refine jg_iconst (v := nI 3) dX12_ship_115 (by decide) ?_
                  refine rs_call (As := [.int (nI 1), .int (nI 3)]) kv_X12_69 dX12_ship_116 hr rfl rfl (by decide) (Nat.le_of_ble_eq_true rfl) rfl (by decide) (Nat.le_of_ble_eq_true rfl) (t_X12_throwsIf hr x2.2 (nI 1) (nI 3) (o_thr1 x2.2 (nI 3))) ?_
                  refine jg_if_eq (x := (nI 1)) (tgt := 124) dX12_ship_119 (by decide) (fun q9 => absurd q9 (by decide)) (fun _ => ?_)
                  refine jg_iconst (v := nI 0) dX12_ship_122 (by decide) ?_
                  obtain rfl := Option.some.inj h
                  exact jg_ireturn dX12_ship_123 rfl ⟨rfl, rfl⟩
              · replace h := it_t c15 h
                refine jg_iconst (v := nI 1) dX12_ship_84 (by decide) ?_
                refine jg_goto (tgt := 89) dX12_ship_85 (by decide) ?_
                refine jg_iconst (v := nI 2) dX12_ship_89 (by decide) ?_
                refine rs_call (As := [.int (nI 1), .int (nI 2)]) kv_X12_69 dX12_ship_90 hr rfl rfl (by decide) (Nat.le_of_ble_eq_true rfl) rfl (by decide) (Nat.le_of_ble_eq_true rfl) (t_X12_throwsIf hr x2.2 (nI 1) (nI 2) (o_thr1 x2.2 (nI 2))) ?_
                refine jg_if_ne (x := (nI 1)) (tgt := 122) dX12_ship_93 (by decide) (fun _ => ?_) (fun q9 => absurd q9 (by decide))
                refine jg_iconst (v := nI 0) dX12_ship_122 (by decide) ?_
                obtain rfl := Option.some.inj h
                exact jg_ireturn dX12_ship_123 rfl ⟨rfl, rfl⟩
theorem dX12_noShip_0 : decode cX12_noShip 0 = .ok (.iload_n 1, 1) := by decide +kernel
theorem dX12_noShip_1 : decode cX12_noShip 1 = .ok (.iconst 0, 1) := by decide +kernel
theorem dX12_noShip_2 : decode cX12_noShip 2 = .ok (.aload_n 0, 1) := by decide +kernel
theorem dX12_noShip_3 : decode cX12_noShip 3 = .ok (.getfield 13, 3) := by decide +kernel
theorem dX12_noShip_6 : decode cX12_noShip 6 = .ok (.sipush 1211, 3) := by decide +kernel
theorem dX12_noShip_9 : decode cX12_noShip 9 = .ok (.iaload, 1) := by decide +kernel
theorem dX12_noShip_10 : decode cX12_noShip 10 = .ok (.iconst 1, 1) := by decide +kernel
theorem dX12_noShip_11 : decode cX12_noShip 11 = .ok (.isub, 1) := by decide +kernel
theorem dX12_noShip_12 : decode cX12_noShip 12 = .ok (.invokestatic 49, 3) := by decide +kernel
theorem dX12_noShip_15 : decode cX12_noShip 15 = .ok (.ifCond .ne 7, 3) := by decide +kernel
theorem dX12_noShip_18 : decode cX12_noShip 18 = .ok (.iconst 1, 1) := by decide +kernel
theorem dX12_noShip_19 : decode cX12_noShip 19 = .ok (.goto 4, 3) := by decide +kernel
theorem dX12_noShip_22 : decode cX12_noShip 22 = .ok (.iconst 0, 1) := by decide +kernel
theorem dX12_noShip_23 : decode cX12_noShip 23 = .ok (.ireturn, 1) := by decide +kernel
noncomputable def o_X12_noShip (s : rs_S) (a1 : Int32) : Option (Int32) := (o_X12_in s a1 (nI 0) ((gW s (nI 1211)) - (nI 1))).bind fun x1 => (if x1 = 0 then (some (nI 1)) else (some (nI 0)))
set_option maxHeartbeats 4000000 in
theorem t_X12_noShip {Γ : jg_G} {g : Nat → jg_C} {n r : Nat} (hr : r + 11 ≤ n) (s : rs_S) (a1 : Int32)  {x : Int32} (h : o_X12_noShip s a1 = some x) : jc Γ mX12_noShip 1 0 0 [some (.ref r), some (.int a1)] (rs_h g r s, n) (.inl (some (.int x))) (rs_h g r s, n) := by
  refine jc_of ?_
  rw [o_X12_noShip] at h
  refine jg_iload_n dX12_noShip_0 rfl ?_
  refine jg_iconst (v := nI 0) dX12_noShip_1 (by decide) ?_
  refine jg_aload_n dX12_noShip_2 rfl ?_
  refine rs_ga fl_X12_13 dX12_noShip_3 hr rfl ?_
  refine jg_sipush (v := nI 1211) dX12_noShip_6 (by decide) ?_
  refine rs_lwD (s := s) (i := (nI 1211)) dX12_noShip_9 hr (by decide) ?_
  refine jg_iconst (v := nI 1) dX12_noShip_10 (by decide) ?_
  refine jg_isub (x := (gW s (nI 1211))) (y := (nI 1)) dX12_noShip_11  ?_
  obtain ⟨x1, e_x1, h⟩ := bd_some h
  refine rs_callS (As := [.int a1, .int (nI 0), .int ((gW s (nI 1211)) - (nI 1))]) ks_X12_49 dX12_noShip_12 rfl (by decide) (Nat.le_of_ble_eq_true rfl) rfl (by decide) (Nat.le_of_ble_eq_true rfl) (t_X12_in hr s a1 (nI 0) ((gW s (nI 1211)) - (nI 1)) e_x1) ?_
  refine jg_if_ne (x := x1) (tgt := 22) dX12_noShip_15 (by decide) (fun c2 => ?_) (fun c2 => ?_)
  · replace h := it_f c2 h
    refine jg_iconst (v := nI 0) dX12_noShip_22 (by decide) ?_
    obtain rfl := Option.some.inj h
    exact jg_zreturn dX12_noShip_23 rfl (rfl) ⟨rfl, rfl⟩
  · replace h := it_t c2 h
    refine jg_iconst (v := nI 1) dX12_noShip_18 (by decide) ?_
    refine jg_goto (tgt := 23) dX12_noShip_19 (by decide) ?_
    obtain rfl := Option.some.inj h
    exact jg_zreturn dX12_noShip_23 rfl (rfl) ⟨rfl, rfl⟩
theorem dX12_noBerth_0 : decode cX12_noBerth 0 = .ok (.iload_n 1, 1) := by decide +kernel
theorem dX12_noBerth_1 : decode cX12_noBerth 1 = .ok (.iconst 0, 1) := by decide +kernel
theorem dX12_noBerth_2 : decode cX12_noBerth 2 = .ok (.aload_n 0, 1) := by decide +kernel
theorem dX12_noBerth_3 : decode cX12_noBerth 3 = .ok (.getfield 13, 3) := by decide +kernel
theorem dX12_noBerth_6 : decode cX12_noBerth 6 = .ok (.sipush 999, 3) := by decide +kernel
theorem dX12_noBerth_9 : decode cX12_noBerth 9 = .ok (.iaload, 1) := by decide +kernel
theorem dX12_noBerth_10 : decode cX12_noBerth 10 = .ok (.iconst 1, 1) := by decide +kernel
theorem dX12_noBerth_11 : decode cX12_noBerth 11 = .ok (.isub, 1) := by decide +kernel
theorem dX12_noBerth_12 : decode cX12_noBerth 12 = .ok (.invokestatic 49, 3) := by decide +kernel
theorem dX12_noBerth_15 : decode cX12_noBerth 15 = .ok (.ifCond .ne 7, 3) := by decide +kernel
theorem dX12_noBerth_18 : decode cX12_noBerth 18 = .ok (.iconst 1, 1) := by decide +kernel
theorem dX12_noBerth_19 : decode cX12_noBerth 19 = .ok (.goto 4, 3) := by decide +kernel
theorem dX12_noBerth_22 : decode cX12_noBerth 22 = .ok (.iconst 0, 1) := by decide +kernel
theorem dX12_noBerth_23 : decode cX12_noBerth 23 = .ok (.ireturn, 1) := by decide +kernel
noncomputable def o_X12_noBerth (s : rs_S) (a1 : Int32) : Option (Int32) := (o_X12_in s a1 (nI 0) ((gW s (nI 999)) - (nI 1))).bind fun x1 => (if x1 = 0 then (some (nI 1)) else (some (nI 0)))
set_option maxHeartbeats 4000000 in
theorem t_X12_noBerth {Γ : jg_G} {g : Nat → jg_C} {n r : Nat} (hr : r + 11 ≤ n) (s : rs_S) (a1 : Int32)  {x : Int32} (h : o_X12_noBerth s a1 = some x) : jc Γ mX12_noBerth 1 0 0 [some (.ref r), some (.int a1)] (rs_h g r s, n) (.inl (some (.int x))) (rs_h g r s, n) := by
  refine jc_of ?_
  rw [o_X12_noBerth] at h
  refine jg_iload_n dX12_noBerth_0 rfl ?_
  refine jg_iconst (v := nI 0) dX12_noBerth_1 (by decide) ?_
  refine jg_aload_n dX12_noBerth_2 rfl ?_
  refine rs_ga fl_X12_13 dX12_noBerth_3 hr rfl ?_
  refine jg_sipush (v := nI 999) dX12_noBerth_6 (by decide) ?_
  refine rs_lwD (s := s) (i := (nI 999)) dX12_noBerth_9 hr (by decide) ?_
  refine jg_iconst (v := nI 1) dX12_noBerth_10 (by decide) ?_
  refine jg_isub (x := (gW s (nI 999))) (y := (nI 1)) dX12_noBerth_11  ?_
  obtain ⟨x1, e_x1, h⟩ := bd_some h
  refine rs_callS (As := [.int a1, .int (nI 0), .int ((gW s (nI 999)) - (nI 1))]) ks_X12_49 dX12_noBerth_12 rfl (by decide) (Nat.le_of_ble_eq_true rfl) rfl (by decide) (Nat.le_of_ble_eq_true rfl) (t_X12_in hr s a1 (nI 0) ((gW s (nI 999)) - (nI 1)) e_x1) ?_
  refine jg_if_ne (x := x1) (tgt := 22) dX12_noBerth_15 (by decide) (fun c2 => ?_) (fun c2 => ?_)
  · replace h := it_f c2 h
    refine jg_iconst (v := nI 0) dX12_noBerth_22 (by decide) ?_
    obtain rfl := Option.some.inj h
    exact jg_zreturn dX12_noBerth_23 rfl (rfl) ⟨rfl, rfl⟩
  · replace h := it_t c2 h
    refine jg_iconst (v := nI 1) dX12_noBerth_18 (by decide) ?_
    refine jg_goto (tgt := 23) dX12_noBerth_19 (by decide) ?_
    obtain rfl := Option.some.inj h
    exact jg_zreturn dX12_noBerth_23 rfl (rfl) ⟨rfl, rfl⟩
theorem dX12_looks_0 : decode cX12_looks 0 = .ok (.iconst 0, 1) := by decide +kernel
theorem dX12_looks_1 : decode cX12_looks 1 = .ok (.istore_n 1, 1) := by decide +kernel
theorem dX12_looks_2 : decode cX12_looks 2 = .ok (.iload_n 1, 1) := by decide +kernel
theorem dX12_looks_3 : decode cX12_looks 3 = .ok (.bipush 24, 2) := by decide +kernel
theorem dX12_looks_5 : decode cX12_looks 5 = .ok (.if_icmp .ge 24, 3) := by decide +kernel
theorem dX12_looks_8 : decode cX12_looks 8 = .ok (.aload_n 0, 1) := by decide +kernel
theorem dX12_looks_9 : decode cX12_looks 9 = .ok (.getfield 20, 3) := by decide +kernel
theorem dX12_looks_12 : decode cX12_looks 12 = .ok (.iload_n 1, 1) := by decide +kernel
theorem dX12_looks_13 : decode cX12_looks 13 = .ok (.aload_n 0, 1) := by decide +kernel
theorem dX12_looks_14 : decode cX12_looks 14 = .ok (.iload_n 1, 1) := by decide +kernel
theorem dX12_looks_15 : decode cX12_looks 15 = .ok (.aload_n 0, 1) := by decide +kernel
theorem dX12_looks_16 : decode cX12_looks 16 = .ok (.invokevirtual 73, 3) := by decide +kernel
theorem dX12_looks_19 : decode cX12_looks 19 = .ok (.invokevirtual 80, 3) := by decide +kernel
theorem dX12_looks_22 : decode cX12_looks 22 = .ok (.iastore, 1) := by decide +kernel
theorem dX12_looks_23 : decode cX12_looks 23 = .ok (.iinc 1 1, 3) := by decide +kernel
theorem dX12_looks_26 : decode cX12_looks 26 = .ok (.goto (-24), 3) := by decide +kernel
theorem dX12_looks_29 : decode cX12_looks 29 = .ok (.return_, 1) := by decide +kernel
noncomputable def o_X12_looks_2 (F : Nat)   : Nat → Int32 → rs_S → Option (rs_S)
  | 0, _, _ => none
  | f + 1, l1, s => if (nI 24) ≤ l1 then (some s) else ((o_X12_hour s).bind fun x2 => ((o_X12_knownOf F s l1 x2).bind fun x3 => (if iL l1 24 then (o_X12_looks_2 F f (l1 + nI 1) (pR s 2 l1 x3)) else none)))
set_option maxHeartbeats 4000000 in
theorem t_X12_looks_2 {Γ : jg_G} {g : Nat → jg_C} {n r : Nat} (hr : r + 11 ≤ n) (F : Nat)    (Q : jg_Q) {x : rs_S} (K1 : jg Γ mX12_looks 1 0 0 29 [none, none] [] (rs_h g r x, n) Q)  : ∀ (f : Nat) (l1 : Int32) (s : rs_S), o_X12_looks_2 F f l1 s = some x → jg Γ mX12_looks 1 0 0 2 [some (.ref r), some (.int l1)] [] (rs_h g r s, n) Q := by
  intro f
  induction f with
  | zero => intro l1 s h; rw [o_X12_looks_2] at h; cases h
  | succ f ih =>
   intro l1 s h
   rw [o_X12_looks_2] at h
   refine jg_iload_n dX12_looks_2 rfl ?_
   refine jg_bipush (v := nI 24) dX12_looks_3 (by decide) ?_
   refine jg_icmp_ge (x := l1) (y := (nI 24)) (tgt := 29) dX12_looks_5 (by decide) (fun c1 => ?_) (fun c1 => ?_)
   · replace h := it_t c1 h
     refine jg_fg (L' := [none, none]) (by repeat (first | exact trivial | refine ⟨rfl, ?_⟩ | show jg_le _ _)) ?_
     obtain rfl := Option.some.inj h
     exact K1
   · replace h := it_f c1 h
     refine jg_aload_n dX12_looks_8 rfl ?_
     refine rs_ga fl_X12_20 dX12_looks_9 hr rfl ?_
     refine jg_iload_n dX12_looks_12 rfl ?_
     refine jg_aload_n dX12_looks_13 rfl ?_
     refine jg_iload_n dX12_looks_14 rfl ?_
     refine jg_aload_n dX12_looks_15 rfl ?_
     obtain ⟨x2, e_x2, h⟩ := bd_some h
     refine rs_call (As := []) kv_X12_73 dX12_looks_16 hr rfl rfl (by decide) (Nat.le_of_ble_eq_true rfl) rfl (by decide) (Nat.le_of_ble_eq_true rfl) (t_X12_hour hr s e_x2) ?_
     obtain ⟨x3, e_x3, h⟩ := bd_some h
     refine rs_call (As := [.int l1, .int x2]) kv_X12_80 dX12_looks_19 hr rfl rfl (by decide) (Nat.le_of_ble_eq_true rfl) rfl (by decide) (Nat.le_of_ble_eq_true rfl) (t_X12_knownOf hr F s l1 x2 e_x3) ?_
     obtain ⟨q4, h⟩ := gd_some h
     refine rs_stD (s := s) (i := l1) (x := x3) (j := 1) dX12_looks_22 hr (by decide) rfl q4 ?_
     refine jg_iinc (x := l1) (v := l1 + nI 1) (L' := [some (.ref r), some (.int (l1 + nI 1))]) dX12_looks_23 rfl (ic_k _ (by decide)) (by decide) rfl ?_
     refine jg_goto (tgt := 2) dX12_looks_26 (by decide) ?_
     refine jg_fg (L' := [some (.ref r), some (.int (l1 + nI 1))]) (by repeat (first | exact trivial | refine ⟨rfl, ?_⟩ | show jg_le _ _)) ?_
     exact ih (l1 + nI 1) (pR s 2 l1 x3) h
noncomputable def o_X12_looks (F : Nat) (s : rs_S) : Option (rs_S) := (o_X12_looks_2 F F (nI 0) s).bind fun x5 => (some x5)
set_option maxHeartbeats 4000000 in
theorem t_X12_looks {Γ : jg_G} {g : Nat → jg_C} {n r : Nat} (hr : r + 11 ≤ n) (F : Nat) (s : rs_S)  {x : rs_S} (h : o_X12_looks F s = some x) : jc Γ mX12_looks 1 0 0 [some (.ref r), none] (rs_h g r s, n) (.inl none) (rs_h g r x, n) := by
  refine jc_of ?_
  rw [o_X12_looks] at h
  refine jg_iconst (v := nI 0) dX12_looks_0 (by decide) ?_
  refine jg_istore_n (L' := [some (.ref r), some (.int (nI 0))]) dX12_looks_1 (by decide) rfl ?_
  obtain ⟨x5, e_x5, h⟩ := bd_some h
  refine jg_fg (L' := [some (.ref r), some (.int (nI 0))]) (by repeat (first | exact trivial | refine ⟨rfl, ?_⟩ | show jg_le _ _)) ?_
  refine t_X12_looks_2 hr F  _ (x := x5) ?_ F (nI 0) s e_x5
  obtain rfl := Option.some.inj h
  exact jg_return dX12_looks_29 rfl ⟨rfl, rfl⟩
theorem dX12_of_0 : decode cX12_of 0 = .ok (.aload_n 0, 1) := by decide +kernel
theorem dX12_of_1 : decode cX12_of 1 = .ok (.getfield 13, 3) := by decide +kernel
theorem dX12_of_4 : decode cX12_of 4 = .ok (.iload_n 1, 1) := by decide +kernel
theorem dX12_of_5 : decode cX12_of 5 = .ok (.iload_n 2, 1) := by decide +kernel
theorem dX12_of_6 : decode cX12_of 6 = .ok (.invokestatic 104, 3) := by decide +kernel
theorem dX12_of_9 : decode cX12_of 9 = .ok (.iaload, 1) := by decide +kernel
theorem dX12_of_10 : decode cX12_of 10 = .ok (.ireturn, 1) := by decide +kernel
noncomputable def o_X12_of (s : rs_S) (a1 : Int32) (a2 : Int32) : Option (Int32) := (o_X12_shipAt s a1 a2).bind fun x1 => (if iL x1 22216 then (some (gW s x1)) else none)
set_option maxHeartbeats 4000000 in
theorem t_X12_of {Γ : jg_G} {g : Nat → jg_C} {n r : Nat} (hr : r + 11 ≤ n) (s : rs_S) (a1 : Int32) (a2 : Int32)  {x : Int32} (h : o_X12_of s a1 a2 = some x) : jc Γ mX12_of 1 0 0 [some (.ref r), some (.int a1), some (.int a2)] (rs_h g r s, n) (.inl (some (.int x))) (rs_h g r s, n) := by
  refine jc_of ?_
  rw [o_X12_of] at h
  refine jg_aload_n dX12_of_0 rfl ?_
  refine rs_ga fl_X12_13 dX12_of_1 hr rfl ?_
  refine jg_iload_n dX12_of_4 rfl ?_
  refine jg_iload_n dX12_of_5 rfl ?_
  obtain ⟨x1, e_x1, h⟩ := bd_some h
  refine rs_callS (As := [.int a1, .int a2]) ks_X12_104 dX12_of_6 rfl (by decide) (Nat.le_of_ble_eq_true rfl) rfl (by decide) (Nat.le_of_ble_eq_true rfl) (t_X12_shipAt hr s a1 a2 e_x1) ?_
  obtain ⟨q2, h⟩ := gd_some h
  refine rs_lwD (s := s) (i := x1) dX12_of_9 hr q2 ?_
  obtain rfl := Option.some.inj h
  exact jg_ireturn dX12_of_10 rfl ⟨rfl, rfl⟩
theorem dX12_berthOf_0 : decode cX12_berthOf 0 = .ok (.aload_n 0, 1) := by decide +kernel
theorem dX12_berthOf_1 : decode cX12_berthOf 1 = .ok (.getfield 13, 3) := by decide +kernel
theorem dX12_berthOf_4 : decode cX12_berthOf 4 = .ok (.iload_n 1, 1) := by decide +kernel
theorem dX12_berthOf_5 : decode cX12_berthOf 5 = .ok (.iload_n 2, 1) := by decide +kernel
theorem dX12_berthOf_6 : decode cX12_berthOf 6 = .ok (.invokestatic 100, 3) := by decide +kernel
theorem dX12_berthOf_9 : decode cX12_berthOf 9 = .ok (.iaload, 1) := by decide +kernel
theorem dX12_berthOf_10 : decode cX12_berthOf 10 = .ok (.ireturn, 1) := by decide +kernel
noncomputable def o_X12_berthOf (s : rs_S) (a1 : Int32) (a2 : Int32) : Option (Int32) := (o_X12_berthAt s a1 a2).bind fun x1 => (if iL x1 22216 then (some (gW s x1)) else none)
set_option maxHeartbeats 4000000 in
theorem t_X12_berthOf {Γ : jg_G} {g : Nat → jg_C} {n r : Nat} (hr : r + 11 ≤ n) (s : rs_S) (a1 : Int32) (a2 : Int32)  {x : Int32} (h : o_X12_berthOf s a1 a2 = some x) : jc Γ mX12_berthOf 1 0 0 [some (.ref r), some (.int a1), some (.int a2)] (rs_h g r s, n) (.inl (some (.int x))) (rs_h g r s, n) := by
  refine jc_of ?_
  rw [o_X12_berthOf] at h
  refine jg_aload_n dX12_berthOf_0 rfl ?_
  refine rs_ga fl_X12_13 dX12_berthOf_1 hr rfl ?_
  refine jg_iload_n dX12_berthOf_4 rfl ?_
  refine jg_iload_n dX12_berthOf_5 rfl ?_
  obtain ⟨x1, e_x1, h⟩ := bd_some h
  refine rs_callS (As := [.int a1, .int a2]) ks_X12_100 dX12_berthOf_6 rfl (by decide) (Nat.le_of_ble_eq_true rfl) rfl (by decide) (Nat.le_of_ble_eq_true rfl) (t_X12_berthAt hr s a1 a2 e_x1) ?_
  obtain ⟨q2, h⟩ := gd_some h
  refine rs_lwD (s := s) (i := x1) dX12_berthOf_9 hr q2 ?_
  obtain rfl := Option.some.inj h
  exact jg_ireturn dX12_berthOf_10 rfl ⟨rfl, rfl⟩
theorem dX12_linesOf_0 : decode cX12_linesOf 0 = .ok (.iload_n 1, 1) := by decide +kernel
theorem dX12_linesOf_1 : decode cX12_linesOf 1 = .ok (.ifCond .ge 7, 3) := by decide +kernel
theorem dX12_linesOf_4 : decode cX12_linesOf 4 = .ok (.iconst 0, 1) := by decide +kernel
theorem dX12_linesOf_5 : decode cX12_linesOf 5 = .ok (.goto 14, 3) := by decide +kernel
theorem dX12_linesOf_8 : decode cX12_linesOf 8 = .ok (.aload_n 0, 1) := by decide +kernel
theorem dX12_linesOf_9 : decode cX12_linesOf 9 = .ok (.getfield 13, 3) := by decide +kernel
theorem dX12_linesOf_12 : decode cX12_linesOf 12 = .ok (.iload_n 1, 1) := by decide +kernel
theorem dX12_linesOf_13 : decode cX12_linesOf 13 = .ok (.invokestatic 242, 3) := by decide +kernel
theorem dX12_linesOf_16 : decode cX12_linesOf 16 = .ok (.iconst 1, 1) := by decide +kernel
theorem dX12_linesOf_17 : decode cX12_linesOf 17 = .ok (.iadd, 1) := by decide +kernel
theorem dX12_linesOf_18 : decode cX12_linesOf 18 = .ok (.iaload, 1) := by decide +kernel
theorem dX12_linesOf_19 : decode cX12_linesOf 19 = .ok (.ireturn, 1) := by decide +kernel
noncomputable def o_X12_linesOf (s : rs_S) (a1 : Int32) : Option (Int32) := if 0 ≤ a1 then ((o_X12_actAt s a1).bind fun x2 => (if iL (x2 + (nI 1)) 22216 then (some (gW s (x2 + (nI 1)))) else none)) else (some (nI 0))
set_option maxHeartbeats 4000000 in
theorem t_X12_linesOf {Γ : jg_G} {g : Nat → jg_C} {n r : Nat} (hr : r + 11 ≤ n) (s : rs_S) (a1 : Int32)  {x : Int32} (h : o_X12_linesOf s a1 = some x) : jc Γ mX12_linesOf 1 0 0 [some (.ref r), some (.int a1)] (rs_h g r s, n) (.inl (some (.int x))) (rs_h g r s, n) := by
  refine jc_of ?_
  rw [o_X12_linesOf] at h
  refine jg_iload_n dX12_linesOf_0 rfl ?_
  refine jg_if_ge (x := a1) (tgt := 8) dX12_linesOf_1 (by decide) (fun c1 => ?_) (fun c1 => ?_)
  · replace h := it_t c1 h
    refine jg_aload_n dX12_linesOf_8 rfl ?_
    refine rs_ga fl_X12_13 dX12_linesOf_9 hr rfl ?_
    refine jg_iload_n dX12_linesOf_12 rfl ?_
    obtain ⟨x2, e_x2, h⟩ := bd_some h
    refine rs_callS (As := [.int a1]) ks_X12_242 dX12_linesOf_13 rfl (by decide) (Nat.le_of_ble_eq_true rfl) rfl (by decide) (Nat.le_of_ble_eq_true rfl) (t_X12_actAt hr s a1 e_x2) ?_
    refine jg_iconst (v := nI 1) dX12_linesOf_16 (by decide) ?_
    refine jg_iadd (x := x2) (y := (nI 1)) dX12_linesOf_17  ?_
    obtain ⟨q3, h⟩ := gd_some h
    refine rs_lwD (s := s) (i := (x2 + (nI 1))) dX12_linesOf_18 hr q3 ?_
    obtain rfl := Option.some.inj h
    exact jg_ireturn dX12_linesOf_19 rfl ⟨rfl, rfl⟩
  · replace h := it_f c1 h
    refine jg_iconst (v := nI 0) dX12_linesOf_4 (by decide) ?_
    refine jg_goto (tgt := 19) dX12_linesOf_5 (by decide) ?_
    obtain rfl := Option.some.inj h
    exact jg_ireturn dX12_linesOf_19 rfl ⟨rfl, rfl⟩
theorem dX12_lastOf_0 : decode cX12_lastOf 0 = .ok (.aload_n 0, 1) := by decide +kernel
theorem dX12_lastOf_1 : decode cX12_lastOf 1 = .ok (.aload_n 0, 1) := by decide +kernel
theorem dX12_lastOf_2 : decode cX12_lastOf 2 = .ok (.invokevirtual 77, 3) := by decide +kernel
theorem dX12_lastOf_5 : decode cX12_lastOf 5 = .ok (.invokevirtual 115, 3) := by decide +kernel
theorem dX12_lastOf_8 : decode cX12_lastOf 8 = .ok (.istore_n 3, 1) := by decide +kernel
theorem dX12_lastOf_9 : decode cX12_lastOf 9 = .ok (.iload_n 2, 1) := by decide +kernel
theorem dX12_lastOf_10 : decode cX12_lastOf 10 = .ok (.istore 4, 2) := by decide +kernel
theorem dX12_lastOf_12 : decode cX12_lastOf 12 = .ok (.iconst 0, 1) := by decide +kernel
theorem dX12_lastOf_13 : decode cX12_lastOf 13 = .ok (.istore 5, 2) := by decide +kernel
theorem dX12_lastOf_15 : decode cX12_lastOf 15 = .ok (.iload 5, 2) := by decide +kernel
theorem dX12_lastOf_17 : decode cX12_lastOf 17 = .ok (.aload_n 0, 1) := by decide +kernel
theorem dX12_lastOf_18 : decode cX12_lastOf 18 = .ok (.iload_n 3, 1) := by decide +kernel
theorem dX12_lastOf_19 : decode cX12_lastOf 19 = .ok (.invokevirtual 356, 3) := by decide +kernel
theorem dX12_lastOf_22 : decode cX12_lastOf 22 = .ok (.if_icmp .ge 49, 3) := by decide +kernel
theorem dX12_lastOf_25 : decode cX12_lastOf 25 = .ok (.aload_n 0, 1) := by decide +kernel
theorem dX12_lastOf_26 : decode cX12_lastOf 26 = .ok (.getfield 13, 3) := by decide +kernel
theorem dX12_lastOf_29 : decode cX12_lastOf 29 = .ok (.iload_n 3, 1) := by decide +kernel
theorem dX12_lastOf_30 : decode cX12_lastOf 30 = .ok (.invokestatic 242, 3) := by decide +kernel
theorem dX12_lastOf_33 : decode cX12_lastOf 33 = .ok (.iconst 2, 1) := by decide +kernel
theorem dX12_lastOf_34 : decode cX12_lastOf 34 = .ok (.iadd, 1) := by decide +kernel
theorem dX12_lastOf_35 : decode cX12_lastOf 35 = .ok (.iconst 4, 1) := by decide +kernel
theorem dX12_lastOf_36 : decode cX12_lastOf 36 = .ok (.iload 5, 2) := by decide +kernel
theorem dX12_lastOf_38 : decode cX12_lastOf 38 = .ok (.imul, 1) := by decide +kernel
theorem dX12_lastOf_39 : decode cX12_lastOf 39 = .ok (.iadd, 1) := by decide +kernel
theorem dX12_lastOf_40 : decode cX12_lastOf 40 = .ok (.iaload, 1) := by decide +kernel
theorem dX12_lastOf_41 : decode cX12_lastOf 41 = .ok (.iload_n 1, 1) := by decide +kernel
theorem dX12_lastOf_42 : decode cX12_lastOf 42 = .ok (.if_icmp .ne 23, 3) := by decide +kernel
theorem dX12_lastOf_45 : decode cX12_lastOf 45 = .ok (.aload_n 0, 1) := by decide +kernel
theorem dX12_lastOf_46 : decode cX12_lastOf 46 = .ok (.getfield 13, 3) := by decide +kernel
theorem dX12_lastOf_49 : decode cX12_lastOf 49 = .ok (.iload_n 3, 1) := by decide +kernel
theorem dX12_lastOf_50 : decode cX12_lastOf 50 = .ok (.invokestatic 242, 3) := by decide +kernel
theorem dX12_lastOf_53 : decode cX12_lastOf 53 = .ok (.iconst 2, 1) := by decide +kernel
theorem dX12_lastOf_54 : decode cX12_lastOf 54 = .ok (.iadd, 1) := by decide +kernel
theorem dX12_lastOf_55 : decode cX12_lastOf 55 = .ok (.iconst 4, 1) := by decide +kernel
theorem dX12_lastOf_56 : decode cX12_lastOf 56 = .ok (.iload 5, 2) := by decide +kernel
theorem dX12_lastOf_58 : decode cX12_lastOf 58 = .ok (.imul, 1) := by decide +kernel
theorem dX12_lastOf_59 : decode cX12_lastOf 59 = .ok (.iadd, 1) := by decide +kernel
theorem dX12_lastOf_60 : decode cX12_lastOf 60 = .ok (.iconst 1, 1) := by decide +kernel
theorem dX12_lastOf_61 : decode cX12_lastOf 61 = .ok (.iadd, 1) := by decide +kernel
theorem dX12_lastOf_62 : decode cX12_lastOf 62 = .ok (.iaload, 1) := by decide +kernel
theorem dX12_lastOf_63 : decode cX12_lastOf 63 = .ok (.istore 4, 2) := by decide +kernel
theorem dX12_lastOf_65 : decode cX12_lastOf 65 = .ok (.iinc 5 1, 3) := by decide +kernel
theorem dX12_lastOf_68 : decode cX12_lastOf 68 = .ok (.goto (-53), 3) := by decide +kernel
theorem dX12_lastOf_71 : decode cX12_lastOf 71 = .ok (.iload 4, 2) := by decide +kernel
theorem dX12_lastOf_73 : decode cX12_lastOf 73 = .ok (.ireturn, 1) := by decide +kernel
noncomputable def o_X12_lastOf_15 (F : Nat) (l1 : Int32) (l3 : Int32) (s : rs_S) : Nat → Int32 → Int32 → Option (Int32)
  | 0, _, _ => none
  | f + 1, l4, l5 => (o_X12_linesOf s l3).bind fun x3 => (if x3 ≤ l5 then (some l4) else ((o_X12_actAt s l3).bind fun x5 => (if iL ((x5 + (nI 2)) + ((nI 4) * l5)) 22216 then (if (gW s ((x5 + (nI 2)) + ((nI 4) * l5))) = l1 then ((o_X12_actAt s l3).bind fun x8 => (if iL (((x8 + (nI 2)) + ((nI 4) * l5)) + (nI 1)) 22216 then (o_X12_lastOf_15 F l1 l3 s f (gW s (((x8 + (nI 2)) + ((nI 4) * l5)) + (nI 1))) (l5 + nI 1)) else none)) else (o_X12_lastOf_15 F l1 l3 s f l4 (l5 + nI 1))) else none)))
set_option maxHeartbeats 4000000 in
theorem t_X12_lastOf_15 {Γ : jg_G} {g : Nat → jg_C} {n r : Nat} (hr : r + 11 ≤ n) (F : Nat) (l1 : Int32) (l3 : Int32) (s : rs_S)  (Q : jg_Q) {x : Int32} (K1 : jg Γ mX12_lastOf 2 0 0 71 [none, none, none, none, some (.int x), none] [] (rs_h g r s, n) Q)  : ∀ (f : Nat) (l4 : Int32) (l5 : Int32), o_X12_lastOf_15 F l1 l3 s f l4 l5 = some x → jg Γ mX12_lastOf 2 0 0 15 [some (.ref r), some (.int l1), none, some (.int l3), some (.int l4), some (.int l5)] [] (rs_h g r s, n) Q := by
  intro f
  induction f with
  | zero => intro l4 l5 h; rw [o_X12_lastOf_15] at h; cases h
  | succ f ih =>
   intro l4 l5 h
   rw [o_X12_lastOf_15] at h
   refine jg_iload dX12_lastOf_15 rfl ?_
   refine jg_aload_n dX12_lastOf_17 rfl ?_
   refine jg_iload_n dX12_lastOf_18 rfl ?_
   obtain ⟨x3, e_x3, h⟩ := bd_some h
   refine rs_call (As := [.int l3]) kv_X12_356 dX12_lastOf_19 hr rfl rfl (by decide) (Nat.le_of_ble_eq_true rfl) rfl (by decide) (Nat.le_of_ble_eq_true rfl) (t_X12_linesOf hr s l3 e_x3) ?_
   refine jg_icmp_ge (x := l5) (y := x3) (tgt := 71) dX12_lastOf_22 (by decide) (fun c4 => ?_) (fun c4 => ?_)
   · replace h := it_t c4 h
     refine jg_fg (L' := [none, none, none, none, some (.int l4), none]) (by repeat (first | exact trivial | refine ⟨rfl, ?_⟩ | show jg_le _ _)) ?_
     obtain rfl := Option.some.inj h
     exact K1
   · replace h := it_f c4 h
     refine jg_aload_n dX12_lastOf_25 rfl ?_
     refine rs_ga fl_X12_13 dX12_lastOf_26 hr rfl ?_
     refine jg_iload_n dX12_lastOf_29 rfl ?_
     obtain ⟨x5, e_x5, h⟩ := bd_some h
     refine rs_callS (As := [.int l3]) ks_X12_242 dX12_lastOf_30 rfl (by decide) (Nat.le_of_ble_eq_true rfl) rfl (by decide) (Nat.le_of_ble_eq_true rfl) (t_X12_actAt hr s l3 e_x5) ?_
     refine jg_iconst (v := nI 2) dX12_lastOf_33 (by decide) ?_
     refine jg_iadd (x := x5) (y := (nI 2)) dX12_lastOf_34  ?_
     refine jg_iconst (v := nI 4) dX12_lastOf_35 (by decide) ?_
     refine jg_iload dX12_lastOf_36 rfl ?_
     refine jg_imul (x := (nI 4)) (y := l5) dX12_lastOf_38  ?_
     refine jg_iadd (x := (x5 + (nI 2))) (y := ((nI 4) * l5)) dX12_lastOf_39  ?_
     obtain ⟨q6, h⟩ := gd_some h
     refine rs_lwD (s := s) (i := ((x5 + (nI 2)) + ((nI 4) * l5))) dX12_lastOf_40 hr q6 ?_
     refine jg_iload_n dX12_lastOf_41 rfl ?_
     refine jg_icmp_ne (x := (gW s ((x5 + (nI 2)) + ((nI 4) * l5)))) (y := l1) (tgt := 65) dX12_lastOf_42 (by decide) (fun c7 => ?_) (fun c7 => ?_)
     · replace h := it_f c7 h
       refine jg_iinc (x := l5) (v := l5 + nI 1) (L' := [some (.ref r), some (.int l1), none, some (.int l3), some (.int l4), some (.int (l5 + nI 1))]) dX12_lastOf_65 rfl (ic_k _ (by decide)) (by decide) rfl ?_
       refine jg_goto (tgt := 15) dX12_lastOf_68 (by decide) ?_
       refine jg_fg (L' := [some (.ref r), some (.int l1), none, some (.int l3), some (.int l4), some (.int (l5 + nI 1))]) (by repeat (first | exact trivial | refine ⟨rfl, ?_⟩ | show jg_le _ _)) ?_
       exact ih l4 (l5 + nI 1) h
     · replace h := it_t c7 h
       refine jg_aload_n dX12_lastOf_45 rfl ?_
       refine rs_ga fl_X12_13 dX12_lastOf_46 hr rfl ?_
       refine jg_iload_n dX12_lastOf_49 rfl ?_
       obtain ⟨x8, e_x8, h⟩ := bd_some h
       refine rs_callS (As := [.int l3]) ks_X12_242 dX12_lastOf_50 rfl (by decide) (Nat.le_of_ble_eq_true rfl) rfl (by decide) (Nat.le_of_ble_eq_true rfl) (t_X12_actAt hr s l3 e_x8) ?_
       refine jg_iconst (v := nI 2) dX12_lastOf_53 (by decide) ?_
       refine jg_iadd (x := x8) (y := (nI 2)) dX12_lastOf_54  ?_
       refine jg_iconst (v := nI 4) dX12_lastOf_55 (by decide) ?_
       refine jg_iload dX12_lastOf_56 rfl ?_
       refine jg_imul (x := (nI 4)) (y := l5) dX12_lastOf_58  ?_
       refine jg_iadd (x := (x8 + (nI 2))) (y := ((nI 4) * l5)) dX12_lastOf_59  ?_
       refine jg_iconst (v := nI 1) dX12_lastOf_60 (by decide) ?_
       refine jg_iadd (x := ((x8 + (nI 2)) + ((nI 4) * l5))) (y := (nI 1)) dX12_lastOf_61  ?_
       obtain ⟨q9, h⟩ := gd_some h
       refine rs_lwD (s := s) (i := (((x8 + (nI 2)) + ((nI 4) * l5)) + (nI 1))) dX12_lastOf_62 hr q9 ?_
       refine jg_istore (L' := [some (.ref r), some (.int l1), none, some (.int l3), some (.int (gW s (((x8 + (nI 2)) + ((nI 4) * l5)) + (nI 1)))), some (.int l5)]) dX12_lastOf_63 (by decide) rfl ?_
       refine jg_iinc (x := l5) (v := l5 + nI 1) (L' := [some (.ref r), some (.int l1), none, some (.int l3), some (.int (gW s (((x8 + (nI 2)) + ((nI 4) * l5)) + (nI 1)))), some (.int (l5 + nI 1))]) dX12_lastOf_65 rfl (ic_k _ (by decide)) (by decide) rfl ?_
       refine jg_goto (tgt := 15) dX12_lastOf_68 (by decide) ?_
       refine jg_fg (L' := [some (.ref r), some (.int l1), none, some (.int l3), some (.int (gW s (((x8 + (nI 2)) + ((nI 4) * l5)) + (nI 1)))), some (.int (l5 + nI 1))]) (by repeat (first | exact trivial | refine ⟨rfl, ?_⟩ | show jg_le _ _)) ?_
       exact ih (gW s (((x8 + (nI 2)) + ((nI 4) * l5)) + (nI 1))) (l5 + nI 1) h
noncomputable def o_X12_lastOf (F : Nat) (s : rs_S) (a1 : Int32) (a2 : Int32) : Option (Int32) := (o_X12_today s).bind fun x1 => ((o_X12_actOf F s x1).bind fun x2 => ((o_X12_lastOf_15 F a1 x2 s F a2 (nI 0)).bind fun x10 => (some x10)))
set_option maxHeartbeats 4000000 in
theorem t_X12_lastOf {Γ : jg_G} {g : Nat → jg_C} {n r : Nat} (hr : r + 11 ≤ n) (F : Nat) (s : rs_S) (a1 : Int32) (a2 : Int32)  {x : Int32} (h : o_X12_lastOf F s a1 a2 = some x) : jc Γ mX12_lastOf 2 0 0 [some (.ref r), some (.int a1), some (.int a2), none, none, none] (rs_h g r s, n) (.inl (some (.int x))) (rs_h g r s, n) := by
  refine jc_of ?_
  rw [o_X12_lastOf] at h
  refine jg_aload_n dX12_lastOf_0 rfl ?_
  refine jg_aload_n dX12_lastOf_1 rfl ?_
  obtain ⟨x1, e_x1, h⟩ := bd_some h
  refine rs_call (As := []) kv_X12_77 dX12_lastOf_2 hr rfl rfl (by decide) (Nat.le_of_ble_eq_true rfl) rfl (by decide) (Nat.le_of_ble_eq_true rfl) (t_X12_today hr s e_x1) ?_
  obtain ⟨x2, e_x2, h⟩ := bd_some h
  refine rs_call (As := [.int x1]) kv_X12_115 dX12_lastOf_5 hr rfl rfl (by decide) (Nat.le_of_ble_eq_true rfl) rfl (by decide) (Nat.le_of_ble_eq_true rfl) (t_X12_actOf hr F s x1 e_x2) ?_
  refine jg_istore_n (L' := [some (.ref r), some (.int a1), some (.int a2), some (.int x2), none, none]) dX12_lastOf_8 (by decide) rfl ?_
  refine jg_iload_n dX12_lastOf_9 rfl ?_
  refine jg_istore (L' := [some (.ref r), some (.int a1), some (.int a2), some (.int x2), some (.int a2), none]) dX12_lastOf_10 (by decide) rfl ?_
  refine jg_iconst (v := nI 0) dX12_lastOf_12 (by decide) ?_
  refine jg_istore (L' := [some (.ref r), some (.int a1), some (.int a2), some (.int x2), some (.int a2), some (.int (nI 0))]) dX12_lastOf_13 (by decide) rfl ?_
  obtain ⟨x10, e_x10, h⟩ := bd_some h
  refine jg_fg (L' := [some (.ref r), some (.int a1), none, some (.int x2), some (.int a2), some (.int (nI 0))]) (by repeat (first | exact trivial | refine ⟨rfl, ?_⟩ | show jg_le _ _)) ?_
  refine t_X12_lastOf_15 hr F a1 x2 s  _ (x := x10) ?_ F a2 (nI 0) e_x10
  refine jg_iload dX12_lastOf_71 rfl ?_
  obtain rfl := Option.some.inj h
  exact jg_ireturn dX12_lastOf_73 rfl ⟨rfl, rfl⟩
