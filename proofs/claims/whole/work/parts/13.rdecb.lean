theorem dX12_clearance_0 : decode cX12_clearance 0 = .ok (.aload_n 0, 1) := by decide +kernel
theorem dX12_clearance_1 : decode cX12_clearance 1 = .ok (.iconst 5, 1) := by decide +kernel
theorem dX12_clearance_2 : decode cX12_clearance 2 = .ok (.iconst 5, 1) := by decide +kernel
theorem dX12_clearance_3 : decode cX12_clearance 3 = .ok (.invokevirtual 147, 3) := by decide +kernel
theorem dX12_clearance_6 : decode cX12_clearance 6 = .ok (.ireturn, 1) := by decide +kernel
noncomputable def o_X12_clearance (F : Nat) (s : rs_S) : Option (Int32) := (o_X12_lastOf F s (nI 5) (nI 5)).bind fun x1 => (some x1)
set_option maxHeartbeats 4000000 in
theorem t_X12_clearance {Γ : jg_G} {g : Nat → jg_C} {n r : Nat} (hr : r + 11 ≤ n) (F : Nat) (s : rs_S)  {x : Int32} (h : o_X12_clearance F s = some x) : jc Γ mX12_clearance 3 0 0 [some (.ref r)] (rs_h g r s, n) (.inl (some (.int x))) (rs_h g r s, n) := by
  refine jc_of ?_
  rw [o_X12_clearance] at h
  refine jg_aload_n dX12_clearance_0 rfl ?_
  refine jg_iconst (v := nI 5) dX12_clearance_1 (by decide) ?_
  refine jg_iconst (v := nI 5) dX12_clearance_2 (by decide) ?_
  obtain ⟨x1, e_x1, h⟩ := bd_some h
  refine rs_call (As := [.int (nI 5), .int (nI 5)]) kv_X12_147 dX12_clearance_3 hr rfl rfl (by decide) (Nat.le_of_ble_eq_true rfl) rfl (by decide) (Nat.le_of_ble_eq_true rfl) (t_X12_lastOf hr F s (nI 5) (nI 5) e_x1) ?_
  obtain rfl := Option.some.inj h
  exact jg_ireturn dX12_clearance_6 rfl ⟨rfl, rfl⟩
theorem dX12_hourAt_0 : decode cX12_hourAt 0 = .ok (.iload_n 0, 1) := by decide +kernel
theorem dX12_hourAt_1 : decode cX12_hourAt 1 = .ok (.iload_n 3, 1) := by decide +kernel
theorem dX12_hourAt_2 : decode cX12_hourAt 2 = .ok (.ifCond .eq 9, 3) := by decide +kernel
theorem dX12_hourAt_5 : decode cX12_hourAt 5 = .ok (.iload_n 2, 1) := by decide +kernel
theorem dX12_hourAt_6 : decode cX12_hourAt 6 = .ok (.iload_n 1, 1) := by decide +kernel
theorem dX12_hourAt_7 : decode cX12_hourAt 7 = .ok (.isub, 1) := by decide +kernel
theorem dX12_hourAt_8 : decode cX12_hourAt 8 = .ok (.goto 4, 3) := by decide +kernel
theorem dX12_hourAt_11 : decode cX12_hourAt 11 = .ok (.iload_n 1, 1) := by decide +kernel
theorem dX12_hourAt_12 : decode cX12_hourAt 12 = .ok (.bipush 6, 2) := by decide +kernel
theorem dX12_hourAt_14 : decode cX12_hourAt 14 = .ok (.idiv, 1) := by decide +kernel
theorem dX12_hourAt_15 : decode cX12_hourAt 15 = .ok (.iadd, 1) := by decide +kernel
theorem dX12_hourAt_16 : decode cX12_hourAt 16 = .ok (.ireturn, 1) := by decide +kernel
noncomputable def o_X12_hourAt (s : rs_S) (a1 : Int32) (a2 : Int32) (a3 : Int32) (a4 : Int32) : Option (Int32) := if a4 = 0 then (some (a1 + (a2 / (nI 6)))) else (some (a1 + ((a3 - a2) / (nI 6))))
set_option maxHeartbeats 4000000 in
theorem t_X12_hourAt {Γ : jg_G} {g : Nat → jg_C} {n r : Nat} (hr : r + 11 ≤ n) (s : rs_S) (a1 : Int32) (a2 : Int32) (a3 : Int32) (a4 : Int32)  {x : Int32} (h : o_X12_hourAt s a1 a2 a3 a4 = some x) : jc Γ mX12_hourAt 0 0 0 [some (.int a1), some (.int a2), some (.int a3), some (.int a4)] (rs_h g r s, n) (.inl (some (.int x))) (rs_h g r s, n) := by
  refine jc_of ?_
  rw [o_X12_hourAt] at h
  refine jg_iload_n dX12_hourAt_0 rfl ?_
  refine jg_iload_n dX12_hourAt_1 rfl ?_
  refine jg_if_eq (x := a4) (tgt := 11) dX12_hourAt_2 (by decide) (fun c1 => ?_) (fun c1 => ?_)
  · replace h := it_t c1 h
    refine jg_iload_n dX12_hourAt_11 rfl ?_
    refine jg_bipush (v := nI 6) dX12_hourAt_12 (by decide) ?_
    refine jg_idiv (x := a2) (y := (nI 6)) dX12_hourAt_14 (by decide) ?_
    refine jg_iadd (x := a1) (y := (a2 / (nI 6))) dX12_hourAt_15  ?_
    obtain rfl := Option.some.inj h
    exact jg_ireturn dX12_hourAt_16 rfl ⟨rfl, rfl⟩
  · replace h := it_f c1 h
    refine jg_iload_n dX12_hourAt_5 rfl ?_
    refine jg_iload_n dX12_hourAt_6 rfl ?_
    refine jg_isub (x := a3) (y := a2) dX12_hourAt_7  ?_
    refine jg_goto (tgt := 12) dX12_hourAt_8 (by decide) ?_
    refine jg_bipush (v := nI 6) dX12_hourAt_12 (by decide) ?_
    refine jg_idiv (x := (a3 - a2)) (y := (nI 6)) dX12_hourAt_14 (by decide) ?_
    refine jg_iadd (x := a1) (y := ((a3 - a2) / (nI 6))) dX12_hourAt_15  ?_
    obtain rfl := Option.some.inj h
    exact jg_ireturn dX12_hourAt_16 rfl ⟨rfl, rfl⟩
theorem dX12_tideOf_0 : decode cX12_tideOf 0 = .ok (.aload_n 0, 1) := by decide +kernel
theorem dX12_tideOf_1 : decode cX12_tideOf 1 = .ok (.getfield 13, 3) := by decide +kernel
theorem dX12_tideOf_4 : decode cX12_tideOf 4 = .ok (.bipush 73, 2) := by decide +kernel
theorem dX12_tideOf_6 : decode cX12_tideOf 6 = .ok (.iload_n 1, 1) := by decide +kernel
theorem dX12_tideOf_7 : decode cX12_tideOf 7 = .ok (.bipush 25, 2) := by decide +kernel
theorem dX12_tideOf_9 : decode cX12_tideOf 9 = .ok (.irem, 1) := by decide +kernel
theorem dX12_tideOf_10 : decode cX12_tideOf 10 = .ok (.iadd, 1) := by decide +kernel
theorem dX12_tideOf_11 : decode cX12_tideOf 11 = .ok (.iaload, 1) := by decide +kernel
theorem dX12_tideOf_12 : decode cX12_tideOf 12 = .ok (.ireturn, 1) := by decide +kernel
noncomputable def o_X12_tideOf (s : rs_S) (a1 : Int32) : Option (Int32) := if iL ((nI 73) + (irm a1 (nI 25))) 22216 then (some (gW s ((nI 73) + (irm a1 (nI 25))))) else none
set_option maxHeartbeats 4000000 in
theorem t_X12_tideOf {Γ : jg_G} {g : Nat → jg_C} {n r : Nat} (hr : r + 11 ≤ n) (s : rs_S) (a1 : Int32)  {x : Int32} (h : o_X12_tideOf s a1 = some x) : jc Γ mX12_tideOf 0 0 0 [some (.ref r), some (.int a1)] (rs_h g r s, n) (.inl (some (.int x))) (rs_h g r s, n) := by
  refine jc_of ?_
  rw [o_X12_tideOf] at h
  refine jg_aload_n dX12_tideOf_0 rfl ?_
  refine rs_ga fl_X12_13 dX12_tideOf_1 hr rfl ?_
  refine jg_bipush (v := nI 73) dX12_tideOf_4 (by decide) ?_
  refine jg_iload_n dX12_tideOf_6 rfl ?_
  refine jg_bipush (v := nI 25) dX12_tideOf_7 (by decide) ?_
  refine jg_iremR (x := a1) (y := (nI 25)) dX12_tideOf_9 (by decide) ?_
  refine jg_iadd (x := (nI 73)) (y := (irm a1 (nI 25))) dX12_tideOf_10  ?_
  obtain ⟨q1, h⟩ := gd_some h
  refine rs_lwD (s := s) (i := ((nI 73) + (irm a1 (nI 25)))) dX12_tideOf_11 hr q1 ?_
  obtain rfl := Option.some.inj h
  exact jg_ireturn dX12_tideOf_12 rfl ⟨rfl, rfl⟩
theorem dX12_isSafe_0 : decode cX12_isSafe 0 = .ok (.iload_n 1, 1) := by decide +kernel
theorem dX12_isSafe_1 : decode cX12_isSafe 1 = .ok (.aload_n 0, 1) := by decide +kernel
theorem dX12_isSafe_2 : decode cX12_isSafe 2 = .ok (.invokevirtual 118, 3) := by decide +kernel
theorem dX12_isSafe_5 : decode cX12_isSafe 5 = .ok (.iadd, 1) := by decide +kernel
theorem dX12_isSafe_6 : decode cX12_isSafe 6 = .ok (.istore 5, 2) := by decide +kernel
theorem dX12_isSafe_8 : decode cX12_isSafe 8 = .ok (.iconst 1, 1) := by decide +kernel
theorem dX12_isSafe_9 : decode cX12_isSafe 9 = .ok (.istore 6, 2) := by decide +kernel
theorem dX12_isSafe_11 : decode cX12_isSafe 11 = .ok (.iconst 0, 1) := by decide +kernel
theorem dX12_isSafe_12 : decode cX12_isSafe 12 = .ok (.istore 7, 2) := by decide +kernel
theorem dX12_isSafe_14 : decode cX12_isSafe 14 = .ok (.iload 7, 2) := by decide +kernel
theorem dX12_isSafe_16 : decode cX12_isSafe 16 = .ok (.iload_n 2, 1) := by decide +kernel
theorem dX12_isSafe_17 : decode cX12_isSafe 17 = .ok (.if_icmp .gt 47, 3) := by decide +kernel
theorem dX12_isSafe_20 : decode cX12_isSafe 20 = .ok (.iload 6, 2) := by decide +kernel
theorem dX12_isSafe_22 : decode cX12_isSafe 22 = .ok (.ifCond .eq 33, 3) := by decide +kernel
theorem dX12_isSafe_25 : decode cX12_isSafe 25 = .ok (.aload_n 0, 1) := by decide +kernel
theorem dX12_isSafe_26 : decode cX12_isSafe 26 = .ok (.getfield 20, 3) := by decide +kernel
theorem dX12_isSafe_29 : decode cX12_isSafe 29 = .ok (.iload 7, 2) := by decide +kernel
theorem dX12_isSafe_31 : decode cX12_isSafe 31 = .ok (.iaload, 1) := by decide +kernel
theorem dX12_isSafe_32 : decode cX12_isSafe 32 = .ok (.aload_n 0, 1) := by decide +kernel
theorem dX12_isSafe_33 : decode cX12_isSafe 33 = .ok (.iload_n 3, 1) := by decide +kernel
theorem dX12_isSafe_34 : decode cX12_isSafe 34 = .ok (.iload 7, 2) := by decide +kernel
theorem dX12_isSafe_36 : decode cX12_isSafe 36 = .ok (.iload_n 2, 1) := by decide +kernel
theorem dX12_isSafe_37 : decode cX12_isSafe 37 = .ok (.iload 4, 2) := by decide +kernel
theorem dX12_isSafe_39 : decode cX12_isSafe 39 = .ok (.invokestatic 121, 3) := by decide +kernel
theorem dX12_isSafe_42 : decode cX12_isSafe 42 = .ok (.invokevirtual 125, 3) := by decide +kernel
theorem dX12_isSafe_45 : decode cX12_isSafe 45 = .ok (.iadd, 1) := by decide +kernel
theorem dX12_isSafe_46 : decode cX12_isSafe 46 = .ok (.iload 5, 2) := by decide +kernel
theorem dX12_isSafe_48 : decode cX12_isSafe 48 = .ok (.if_icmp .lt 7, 3) := by decide +kernel
theorem dX12_isSafe_51 : decode cX12_isSafe 51 = .ok (.iconst 1, 1) := by decide +kernel
theorem dX12_isSafe_52 : decode cX12_isSafe 52 = .ok (.goto 4, 3) := by decide +kernel
theorem dX12_isSafe_55 : decode cX12_isSafe 55 = .ok (.iconst 0, 1) := by decide +kernel
theorem dX12_isSafe_56 : decode cX12_isSafe 56 = .ok (.istore 6, 2) := by decide +kernel
theorem dX12_isSafe_58 : decode cX12_isSafe 58 = .ok (.iinc 7 1, 3) := by decide +kernel
theorem dX12_isSafe_61 : decode cX12_isSafe 61 = .ok (.goto (-47), 3) := by decide +kernel
theorem dX12_isSafe_64 : decode cX12_isSafe 64 = .ok (.iload 6, 2) := by decide +kernel
theorem dX12_isSafe_66 : decode cX12_isSafe 66 = .ok (.ireturn, 1) := by decide +kernel
noncomputable def o_X12_isSafe_14 (F : Nat) (l2 : Int32) (l3 : Int32) (l4 : Int32) (l5 : Int32) (s : rs_S) : Nat → Int32 → Int32 → Option (Int32)
  | 0, _, _ => none
  | f + 1, l6, l7 => if l2 < l7 then (some l6) else (if l6 = 0 then (o_X12_isSafe_14 F l2 l3 l4 l5 s f (nI 0) (l7 + nI 1)) else (if iL l7 24 then ((o_X12_hourAt s l3 l7 l2 l4).bind fun x5 => ((o_X12_tideOf s x5).bind fun x6 => (if ((gR s 2 l7) + x6) < l5 then (o_X12_isSafe_14 F l2 l3 l4 l5 s f (nI 0) (l7 + nI 1)) else (o_X12_isSafe_14 F l2 l3 l4 l5 s f (nI 1) (l7 + nI 1))))) else none))
set_option maxHeartbeats 4000000 in
theorem t_X12_isSafe_14 {Γ : jg_G} {g : Nat → jg_C} {n r : Nat} (hr : r + 11 ≤ n) (F : Nat) (l2 : Int32) (l3 : Int32) (l4 : Int32) (l5 : Int32) (s : rs_S)  (Q : jg_Q) {x : Int32} (K1 : jg Γ mX12_isSafe 4 0 0 64 [none, none, none, none, none, none, some (.int x), none] [] (rs_h g r s, n) Q)  : ∀ (f : Nat) (l6 : Int32) (l7 : Int32), o_X12_isSafe_14 F l2 l3 l4 l5 s f l6 l7 = some x → jg Γ mX12_isSafe 4 0 0 14 [some (.ref r), none, some (.int l2), some (.int l3), some (.int l4), some (.int l5), some (.int l6), some (.int l7)] [] (rs_h g r s, n) Q := by
  intro f
  induction f with
  | zero => intro l6 l7 h; rw [o_X12_isSafe_14] at h; cases h
  | succ f ih =>
   intro l6 l7 h
   rw [o_X12_isSafe_14] at h
   refine jg_iload dX12_isSafe_14 rfl ?_
   refine jg_iload_n dX12_isSafe_16 rfl ?_
   refine jg_icmp_gt (x := l7) (y := l2) (tgt := 64) dX12_isSafe_17 (by decide) (fun c2 => ?_) (fun c2 => ?_)
   · replace h := it_t c2 h
     refine jg_fg (L' := [none, none, none, none, none, none, some (.int l6), none]) (by repeat (first | exact trivial | refine ⟨rfl, ?_⟩ | show jg_le _ _)) ?_
     obtain rfl := Option.some.inj h
     exact K1
   · replace h := it_f c2 h
     refine jg_iload dX12_isSafe_20 rfl ?_
     refine jg_if_eq (x := l6) (tgt := 55) dX12_isSafe_22 (by decide) (fun c3 => ?_) (fun c3 => ?_)
     · replace h := it_t c3 h
       refine jg_iconst (v := nI 0) dX12_isSafe_55 (by decide) ?_
       refine jg_istore (L' := [some (.ref r), none, some (.int l2), some (.int l3), some (.int l4), some (.int l5), some (.int (nI 0)), some (.int l7)]) dX12_isSafe_56 (by decide) rfl ?_
       refine jg_iinc (x := l7) (v := l7 + nI 1) (L' := [some (.ref r), none, some (.int l2), some (.int l3), some (.int l4), some (.int l5), some (.int (nI 0)), some (.int (l7 + nI 1))]) dX12_isSafe_58 rfl (ic_k _ (by decide)) (by decide) rfl ?_
       refine jg_goto (tgt := 14) dX12_isSafe_61 (by decide) ?_
       refine jg_fg (L' := [some (.ref r), none, some (.int l2), some (.int l3), some (.int l4), some (.int l5), some (.int (nI 0)), some (.int (l7 + nI 1))]) (by repeat (first | exact trivial | refine ⟨rfl, ?_⟩ | show jg_le _ _)) ?_
       exact ih (nI 0) (l7 + nI 1) h
     · replace h := it_f c3 h
       refine jg_aload_n dX12_isSafe_25 rfl ?_
       refine rs_ga fl_X12_20 dX12_isSafe_26 hr rfl ?_
       refine jg_iload dX12_isSafe_29 rfl ?_
       obtain ⟨q4, h⟩ := gd_some h
       refine rs_ldD (s := s) (i := l7) (j := 1) dX12_isSafe_31 hr (by decide) rfl q4 ?_
       refine jg_aload_n dX12_isSafe_32 rfl ?_
       refine jg_iload_n dX12_isSafe_33 rfl ?_
       refine jg_iload dX12_isSafe_34 rfl ?_
       refine jg_iload_n dX12_isSafe_36 rfl ?_
       refine jg_iload dX12_isSafe_37 rfl ?_
       obtain ⟨x5, e_x5, h⟩ := bd_some h
       refine rs_callS (As := [.int l3, .int l7, .int l2, .int l4]) ks_X12_121 dX12_isSafe_39 rfl (by decide) (Nat.le_of_ble_eq_true rfl) rfl (by decide) (Nat.le_of_ble_eq_true rfl) (t_X12_hourAt hr s l3 l7 l2 l4 e_x5) ?_
       obtain ⟨x6, e_x6, h⟩ := bd_some h
       refine rs_call (As := [.int x5]) kv_X12_125 dX12_isSafe_42 hr rfl rfl (by decide) (Nat.le_of_ble_eq_true rfl) rfl (by decide) (Nat.le_of_ble_eq_true rfl) (t_X12_tideOf hr s x5 e_x6) ?_
       refine jg_iadd (x := (gR s 2 l7)) (y := x6) dX12_isSafe_45  ?_
       refine jg_iload dX12_isSafe_46 rfl ?_
       refine jg_icmp_lt (x := ((gR s 2 l7) + x6)) (y := l5) (tgt := 55) dX12_isSafe_48 (by decide) (fun c7 => ?_) (fun c7 => ?_)
       · replace h := it_t c7 h
         refine jg_iconst (v := nI 0) dX12_isSafe_55 (by decide) ?_
         refine jg_istore (L' := [some (.ref r), none, some (.int l2), some (.int l3), some (.int l4), some (.int l5), some (.int (nI 0)), some (.int l7)]) dX12_isSafe_56 (by decide) rfl ?_
         refine jg_iinc (x := l7) (v := l7 + nI 1) (L' := [some (.ref r), none, some (.int l2), some (.int l3), some (.int l4), some (.int l5), some (.int (nI 0)), some (.int (l7 + nI 1))]) dX12_isSafe_58 rfl (ic_k _ (by decide)) (by decide) rfl ?_
         refine jg_goto (tgt := 14) dX12_isSafe_61 (by decide) ?_
         refine jg_fg (L' := [some (.ref r), none, some (.int l2), some (.int l3), some (.int l4), some (.int l5), some (.int (nI 0)), some (.int (l7 + nI 1))]) (by repeat (first | exact trivial | refine ⟨rfl, ?_⟩ | show jg_le _ _)) ?_
         exact ih (nI 0) (l7 + nI 1) h
       · replace h := it_f c7 h
         refine jg_iconst (v := nI 1) dX12_isSafe_51 (by decide) ?_
         refine jg_goto (tgt := 56) dX12_isSafe_52 (by decide) ?_
         refine jg_istore (L' := [some (.ref r), none, some (.int l2), some (.int l3), some (.int l4), some (.int l5), some (.int (nI 1)), some (.int l7)]) dX12_isSafe_56 (by decide) rfl ?_
         refine jg_iinc (x := l7) (v := l7 + nI 1) (L' := [some (.ref r), none, some (.int l2), some (.int l3), some (.int l4), some (.int l5), some (.int (nI 1)), some (.int (l7 + nI 1))]) dX12_isSafe_58 rfl (ic_k _ (by decide)) (by decide) rfl ?_
         refine jg_goto (tgt := 14) dX12_isSafe_61 (by decide) ?_
         refine jg_fg (L' := [some (.ref r), none, some (.int l2), some (.int l3), some (.int l4), some (.int l5), some (.int (nI 1)), some (.int (l7 + nI 1))]) (by repeat (first | exact trivial | refine ⟨rfl, ?_⟩ | show jg_le _ _)) ?_
         exact ih (nI 1) (l7 + nI 1) h
noncomputable def o_X12_isSafe (F : Nat) (s : rs_S) (a1 : Int32) (a2 : Int32) (a3 : Int32) (a4 : Int32) : Option (Int32) := (o_X12_clearance F s).bind fun x1 => ((o_X12_isSafe_14 F a2 a3 a4 (a1 + x1) s F (nI 1) (nI 0)).bind fun x8 => (if zb x8 then some x8 else none))
set_option maxHeartbeats 4000000 in
theorem t_X12_isSafe {Γ : jg_G} {g : Nat → jg_C} {n r : Nat} (hr : r + 11 ≤ n) (F : Nat) (s : rs_S) (a1 : Int32) (a2 : Int32) (a3 : Int32) (a4 : Int32)  {x : Int32} (h : o_X12_isSafe F s a1 a2 a3 a4 = some x) : jc Γ mX12_isSafe 4 0 0 [some (.ref r), some (.int a1), some (.int a2), some (.int a3), some (.int a4), none, none, none] (rs_h g r s, n) (.inl (some (.int x))) (rs_h g r s, n) := by
  refine jc_of ?_
  rw [o_X12_isSafe] at h
  refine jg_iload_n dX12_isSafe_0 rfl ?_
  refine jg_aload_n dX12_isSafe_1 rfl ?_
  obtain ⟨x1, e_x1, h⟩ := bd_some h
  refine rs_call (As := []) kv_X12_118 dX12_isSafe_2 hr rfl rfl (by decide) (Nat.le_of_ble_eq_true rfl) rfl (by decide) (Nat.le_of_ble_eq_true rfl) (t_X12_clearance hr F s e_x1) ?_
  refine jg_iadd (x := a1) (y := x1) dX12_isSafe_5  ?_
  refine jg_istore (L' := [some (.ref r), some (.int a1), some (.int a2), some (.int a3), some (.int a4), some (.int (a1 + x1)), none, none]) dX12_isSafe_6 (by decide) rfl ?_
  refine jg_iconst (v := nI 1) dX12_isSafe_8 (by decide) ?_
  refine jg_istore (L' := [some (.ref r), some (.int a1), some (.int a2), some (.int a3), some (.int a4), some (.int (a1 + x1)), some (.int (nI 1)), none]) dX12_isSafe_9 (by decide) rfl ?_
  refine jg_iconst (v := nI 0) dX12_isSafe_11 (by decide) ?_
  refine jg_istore (L' := [some (.ref r), some (.int a1), some (.int a2), some (.int a3), some (.int a4), some (.int (a1 + x1)), some (.int (nI 1)), some (.int (nI 0))]) dX12_isSafe_12 (by decide) rfl ?_
  obtain ⟨x8, e_x8, h⟩ := bd_some h
  refine jg_fg (L' := [some (.ref r), none, some (.int a2), some (.int a3), some (.int a4), some (.int (a1 + x1)), some (.int (nI 1)), some (.int (nI 0))]) (by repeat (first | exact trivial | refine ⟨rfl, ?_⟩ | show jg_le _ _)) ?_
  refine t_X12_isSafe_14 hr F a2 a3 a4 (a1 + x1) s  _ (x := x8) ?_ F (nI 1) (nI 0) e_x8
  refine jg_iload dX12_isSafe_64 rfl ?_
  obtain ⟨q9, h⟩ := gd_some h
  obtain rfl := Option.some.inj h
  exact jg_zreturn dX12_isSafe_66 rfl (zb_nar q9) ⟨rfl, rfl⟩
theorem dX12_window_0 : decode cX12_window 0 = .ok (.aload_n 0, 1) := by decide +kernel
theorem dX12_window_1 : decode cX12_window 1 = .ok (.iconst 0, 1) := by decide +kernel
theorem dX12_window_2 : decode cX12_window 2 = .ok (.putfield 3, 3) := by decide +kernel
theorem dX12_window_5 : decode cX12_window 5 = .ok (.aload_n 0, 1) := by decide +kernel
theorem dX12_window_6 : decode cX12_window 6 = .ok (.aload_n 0, 1) := by decide +kernel
theorem dX12_window_7 : decode cX12_window 7 = .ok (.iload_n 1, 1) := by decide +kernel
theorem dX12_window_8 : decode cX12_window 8 = .ok (.invokevirtual 128, 3) := by decide +kernel
theorem dX12_window_11 : decode cX12_window 11 = .ok (.ifCond .ne 11, 3) := by decide +kernel
theorem dX12_window_14 : decode cX12_window 14 = .ok (.aload_n 0, 1) := by decide +kernel
theorem dX12_window_15 : decode cX12_window 15 = .ok (.iload_n 2, 1) := by decide +kernel
theorem dX12_window_16 : decode cX12_window 16 = .ok (.invokevirtual 131, 3) := by decide +kernel
theorem dX12_window_19 : decode cX12_window 19 = .ok (.ifCond .eq 7, 3) := by decide +kernel
theorem dX12_window_22 : decode cX12_window 22 = .ok (.iconst 1, 1) := by decide +kernel
theorem dX12_window_23 : decode cX12_window 23 = .ok (.goto 4, 3) := by decide +kernel
theorem dX12_window_26 : decode cX12_window 26 = .ok (.iconst 0, 1) := by decide +kernel
theorem dX12_window_27 : decode cX12_window 27 = .ok (.iconst 1, 1) := by decide +kernel
theorem dX12_window_28 : decode cX12_window 28 = .ok (.invokevirtual 69, 3) := by decide +kernel
theorem dX12_window_31 : decode cX12_window 31 = .ok (.ifCond .eq 5, 3) := by decide +kernel
theorem dX12_window_34 : decode cX12_window 34 = .ok (.iconst 0, 1) := by decide +kernel
theorem dX12_window_35 : decode cX12_window 35 = .ok (.ireturn, 1) := by decide +kernel
theorem dX12_window_36 : decode cX12_window 36 = .ok (.aload_n 0, 1) := by decide +kernel
theorem dX12_window_37 : decode cX12_window 37 = .ok (.invokevirtual 134, 3) := by decide +kernel
theorem dX12_window_40 : decode cX12_window 40 = .ok (.aload_n 0, 1) := by decide +kernel
theorem dX12_window_41 : decode cX12_window 41 = .ok (.invokevirtual 73, 3) := by decide +kernel
theorem dX12_window_44 : decode cX12_window 44 = .ok (.iconst 1, 1) := by decide +kernel
theorem dX12_window_45 : decode cX12_window 45 = .ok (.iadd, 1) := by decide +kernel
theorem dX12_window_46 : decode cX12_window 46 = .ok (.istore 4, 2) := by decide +kernel
theorem dX12_window_48 : decode cX12_window 48 = .ok (.iload 4, 2) := by decide +kernel
theorem dX12_window_50 : decode cX12_window 50 = .ok (.aload_n 0, 1) := by decide +kernel
theorem dX12_window_51 : decode cX12_window 51 = .ok (.invokevirtual 73, 3) := by decide +kernel
theorem dX12_window_54 : decode cX12_window 54 = .ok (.bipush 50, 2) := by decide +kernel
theorem dX12_window_56 : decode cX12_window 56 = .ok (.iadd, 1) := by decide +kernel
theorem dX12_window_57 : decode cX12_window 57 = .ok (.if_icmp .gt 42, 3) := by decide +kernel
theorem dX12_window_60 : decode cX12_window 60 = .ok (.aload_n 0, 1) := by decide +kernel
theorem dX12_window_61 : decode cX12_window 61 = .ok (.aload_n 0, 1) := by decide +kernel
theorem dX12_window_62 : decode cX12_window 62 = .ok (.iload_n 1, 1) := by decide +kernel
theorem dX12_window_63 : decode cX12_window 63 = .ok (.iload_n 3, 1) := by decide +kernel
theorem dX12_window_64 : decode cX12_window 64 = .ok (.ifCond .eq 7, 3) := by decide +kernel
theorem dX12_window_67 : decode cX12_window 67 = .ok (.iconst 5, 1) := by decide +kernel
theorem dX12_window_68 : decode cX12_window 68 = .ok (.goto 4, 3) := by decide +kernel
theorem dX12_window_71 : decode cX12_window 71 = .ok (.iconst 4, 1) := by decide +kernel
theorem dX12_window_72 : decode cX12_window 72 = .ok (.invokevirtual 137, 3) := by decide +kernel
theorem dX12_window_75 : decode cX12_window 75 = .ok (.aload_n 0, 1) := by decide +kernel
theorem dX12_window_76 : decode cX12_window 76 = .ok (.iload_n 2, 1) := by decide +kernel
theorem dX12_window_77 : decode cX12_window 77 = .ok (.iconst 0, 1) := by decide +kernel
theorem dX12_window_78 : decode cX12_window 78 = .ok (.invokevirtual 140, 3) := by decide +kernel
theorem dX12_window_81 : decode cX12_window 81 = .ok (.iload 4, 2) := by decide +kernel
theorem dX12_window_83 : decode cX12_window 83 = .ok (.iload_n 3, 1) := by decide +kernel
theorem dX12_window_84 : decode cX12_window 84 = .ok (.invokevirtual 143, 3) := by decide +kernel
theorem dX12_window_87 : decode cX12_window 87 = .ok (.ifCond .eq 6, 3) := by decide +kernel
theorem dX12_window_90 : decode cX12_window 90 = .ok (.iload 4, 2) := by decide +kernel
theorem dX12_window_92 : decode cX12_window 92 = .ok (.ireturn, 1) := by decide +kernel
theorem dX12_window_93 : decode cX12_window 93 = .ok (.iinc 4 1, 3) := by decide +kernel
theorem dX12_window_96 : decode cX12_window 96 = .ok (.goto (-48), 3) := by decide +kernel
theorem dX12_window_99 : decode cX12_window 99 = .ok (.iconst (-1), 1) := by decide +kernel
theorem dX12_window_100 : decode cX12_window 100 = .ok (.ireturn, 1) := by decide +kernel
noncomputable def o_X12_window_48 (F : Nat) (l1 : Int32) (l2 : Int32) (l3 : Int32) (s : rs_S) : Nat → Int32 → Option ((Unit) ⊕ (Int32 × rs_S))
  | 0, _ => none
  | f + 1, l4 => (o_X12_hour s).bind fun x7 => (if (x7 + (nI 50)) < l4 then (some (.inl ())) else (if l3 = 0 then ((o_X12_of s l1 (nI 4)).bind fun x10 => ((o_X12_berthOf s l2 (nI 0)).bind fun x11 => ((o_X12_isSafe F s x10 x11 l4 l3).bind fun x12 => (if x12 = 0 then (o_X12_window_48 F l1 l2 l3 s f (l4 + nI 1)) else (some (.inr (l4, s))))))) else ((o_X12_of s l1 (nI 5)).bind fun x14 => ((o_X12_berthOf s l2 (nI 0)).bind fun x15 => ((o_X12_isSafe F s x14 x15 l4 l3).bind fun x16 => (if x16 = 0 then (o_X12_window_48 F l1 l2 l3 s f (l4 + nI 1)) else (some (.inr (l4, s)))))))))
set_option maxHeartbeats 4000000 in
theorem t_X12_window_48 {Γ : jg_G} {g : Nat → jg_C} {n r : Nat} (hr : r + 11 ≤ n) (F : Nat) (l1 : Int32) (l2 : Int32) (l3 : Int32) (s : rs_S)  (Q : jg_Q) {x : (Unit) ⊕ (Int32 × rs_S)} (K1 : ∀ y, x = .inl y → jg Γ mX12_window 5 0 0 99 [none, none, none, none, none] [] (rs_h g r s, n) Q) (K2 : ∀ z, x = .inr z → Q (.inl (some (.int z.1))) (rs_h g r z.2, n)) : ∀ (f : Nat) (l4 : Int32), o_X12_window_48 F l1 l2 l3 s f l4 = some x → jg Γ mX12_window 5 0 0 48 [some (.ref r), some (.int l1), some (.int l2), some (.int l3), some (.int l4)] [] (rs_h g r s, n) Q := by
  intro f
  induction f with
  | zero => intro l4 h; rw [o_X12_window_48] at h; cases h
  | succ f ih =>
   intro l4 h
   rw [o_X12_window_48] at h
   refine jg_iload dX12_window_48 rfl ?_
   refine jg_aload_n dX12_window_50 rfl ?_
   obtain ⟨x7, e_x7, h⟩ := bd_some h
   refine rs_call (As := []) kv_X12_73 dX12_window_51 hr rfl rfl (by decide) (Nat.le_of_ble_eq_true rfl) rfl (by decide) (Nat.le_of_ble_eq_true rfl) (t_X12_hour hr s e_x7) ?_
   refine jg_bipush (v := nI 50) dX12_window_54 (by decide) ?_
   refine jg_iadd (x := x7) (y := (nI 50)) dX12_window_56  ?_
   refine jg_icmp_gt (x := l4) (y := (x7 + (nI 50))) (tgt := 99) dX12_window_57 (by decide) (fun c8 => ?_) (fun c8 => ?_)
   · replace h := it_t c8 h
     refine jg_fg (L' := [none, none, none, none, none]) (by repeat (first | exact trivial | refine ⟨rfl, ?_⟩ | show jg_le _ _)) ?_
     obtain rfl := Option.some.inj h
     exact K1 _ rfl
   · replace h := it_f c8 h
     refine jg_aload_n dX12_window_60 rfl ?_
     refine jg_aload_n dX12_window_61 rfl ?_
     refine jg_iload_n dX12_window_62 rfl ?_
     refine jg_iload_n dX12_window_63 rfl ?_
     refine jg_if_eq (x := l3) (tgt := 71) dX12_window_64 (by decide) (fun c9 => ?_) (fun c9 => ?_)
     · replace h := it_t c9 h
       refine jg_iconst (v := nI 4) dX12_window_71 (by decide) ?_
       obtain ⟨x10, e_x10, h⟩ := bd_some h
       refine rs_call (As := [.int l1, .int (nI 4)]) kv_X12_137 dX12_window_72 hr rfl rfl (by decide) (Nat.le_of_ble_eq_true rfl) rfl (by decide) (Nat.le_of_ble_eq_true rfl) (t_X12_of hr s l1 (nI 4) e_x10) ?_
       refine jg_aload_n dX12_window_75 rfl ?_
       refine jg_iload_n dX12_window_76 rfl ?_
       refine jg_iconst (v := nI 0) dX12_window_77 (by decide) ?_
       obtain ⟨x11, e_x11, h⟩ := bd_some h
       refine rs_call (As := [.int l2, .int (nI 0)]) kv_X12_140 dX12_window_78 hr rfl rfl (by decide) (Nat.le_of_ble_eq_true rfl) rfl (by decide) (Nat.le_of_ble_eq_true rfl) (t_X12_berthOf hr s l2 (nI 0) e_x11) ?_
       refine jg_iload dX12_window_81 rfl ?_
       refine jg_iload_n dX12_window_83 rfl ?_
       obtain ⟨x12, e_x12, h⟩ := bd_some h
       refine rs_call (As := [.int x10, .int x11, .int l4, .int l3]) kv_X12_143 dX12_window_84 hr rfl rfl (by decide) (Nat.le_of_ble_eq_true rfl) rfl (by decide) (Nat.le_of_ble_eq_true rfl) (t_X12_isSafe hr F s x10 x11 l4 l3 e_x12) ?_
       refine jg_if_eq (x := x12) (tgt := 93) dX12_window_87 (by decide) (fun c13 => ?_) (fun c13 => ?_)
       · replace h := it_t c13 h
         refine jg_iinc (x := l4) (v := l4 + nI 1) (L' := [some (.ref r), some (.int l1), some (.int l2), some (.int l3), some (.int (l4 + nI 1))]) dX12_window_93 rfl (ic_k _ (by decide)) (by decide) rfl ?_
         refine jg_goto (tgt := 48) dX12_window_96 (by decide) ?_
         refine jg_fg (L' := [some (.ref r), some (.int l1), some (.int l2), some (.int l3), some (.int (l4 + nI 1))]) (by repeat (first | exact trivial | refine ⟨rfl, ?_⟩ | show jg_le _ _)) ?_
         exact ih (l4 + nI 1) h
       · replace h := it_f c13 h
         refine jg_iload dX12_window_90 rfl ?_
         obtain rfl := Option.some.inj h
         exact jg_ireturn dX12_window_92 rfl (K2 _ rfl)
     · replace h := it_f c9 h
       refine jg_iconst (v := nI 5) dX12_window_67 (by decide) ?_
       refine jg_goto (tgt := 72) dX12_window_68 (by decide) ?_
       obtain ⟨x14, e_x14, h⟩ := bd_some h
       refine rs_call (As := [.int l1, .int (nI 5)]) kv_X12_137 dX12_window_72 hr rfl rfl (by decide) (Nat.le_of_ble_eq_true rfl) rfl (by decide) (Nat.le_of_ble_eq_true rfl) (t_X12_of hr s l1 (nI 5) e_x14) ?_
       refine jg_aload_n dX12_window_75 rfl ?_
       refine jg_iload_n dX12_window_76 rfl ?_
       refine jg_iconst (v := nI 0) dX12_window_77 (by decide) ?_
       obtain ⟨x15, e_x15, h⟩ := bd_some h
       refine rs_call (As := [.int l2, .int (nI 0)]) kv_X12_140 dX12_window_78 hr rfl rfl (by decide) (Nat.le_of_ble_eq_true rfl) rfl (by decide) (Nat.le_of_ble_eq_true rfl) (t_X12_berthOf hr s l2 (nI 0) e_x15) ?_
       refine jg_iload dX12_window_81 rfl ?_
       refine jg_iload_n dX12_window_83 rfl ?_
       obtain ⟨x16, e_x16, h⟩ := bd_some h
       refine rs_call (As := [.int x14, .int x15, .int l4, .int l3]) kv_X12_143 dX12_window_84 hr rfl rfl (by decide) (Nat.le_of_ble_eq_true rfl) rfl (by decide) (Nat.le_of_ble_eq_true rfl) (t_X12_isSafe hr F s x14 x15 l4 l3 e_x16) ?_
       refine jg_if_eq (x := x16) (tgt := 93) dX12_window_87 (by decide) (fun c17 => ?_) (fun c17 => ?_)
       · replace h := it_t c17 h
         refine jg_iinc (x := l4) (v := l4 + nI 1) (L' := [some (.ref r), some (.int l1), some (.int l2), some (.int l3), some (.int (l4 + nI 1))]) dX12_window_93 rfl (ic_k _ (by decide)) (by decide) rfl ?_
         refine jg_goto (tgt := 48) dX12_window_96 (by decide) ?_
         refine jg_fg (L' := [some (.ref r), some (.int l1), some (.int l2), some (.int l3), some (.int (l4 + nI 1))]) (by repeat (first | exact trivial | refine ⟨rfl, ?_⟩ | show jg_le _ _)) ?_
         exact ih (l4 + nI 1) h
       · replace h := it_f c17 h
         refine jg_iload dX12_window_90 rfl ?_
         obtain rfl := Option.some.inj h
         exact jg_ireturn dX12_window_92 rfl (K2 _ rfl)
noncomputable def o_X12_window (F : Nat) (s : rs_S) (a1 : Int32) (a2 : Int32) (a3 : Int32) : Option (Int32 × rs_S) := (o_X12_noShip (pN s 0 (nI 0)) a1).bind fun x1 => (if x1 = 0 then ((o_X12_noBerth (pN s 0 (nI 0)) a2).bind fun x3 => (if x3 = 0 then ((o_X12_looks F (pN s 0 (nI 0))).bind fun x5 => ((o_X12_hour x5).bind fun x6 => ((o_X12_window_48 F a1 a2 a3 x5 F (x6 + (nI 1))).bind fun x18 => (Sum.elim (fun y19 => some ((-1), x5)) (fun z20 => some z20) x18)))) else (some (nI 0, pN (pN s 0 (nI 0)) 0 (nI 1))))) else (some (nI 0, pN (pN s 0 (nI 0)) 0 (nI 1))))
set_option maxHeartbeats 4000000 in
theorem t_X12_window {Γ : jg_G} {g : Nat → jg_C} {n r : Nat} (hr : r + 11 ≤ n) (F : Nat) (s : rs_S) (a1 : Int32) (a2 : Int32) (a3 : Int32)  {x : Int32 × rs_S} (h : o_X12_window F s a1 a2 a3 = some x) : jc Γ mX12_window 5 0 0 [some (.ref r), some (.int a1), some (.int a2), some (.int a3), none] (rs_h g r s, n) (.inl (some (.int x.1))) (rs_h g r x.2, n) := by
  refine jc_of ?_
  rw [o_X12_window] at h
  refine jg_aload_n dX12_window_0 rfl ?_
  refine jg_iconst (v := nI 0) dX12_window_1 (by decide) ?_
  refine rs_putD (s := s) (k := 0) (x := (nI 0)) fl_X12_3 dX12_window_2 hr (by decide) (rfl) rfl rfl ?_
  refine jg_aload_n dX12_window_5 rfl ?_
  refine jg_aload_n dX12_window_6 rfl ?_
  refine jg_iload_n dX12_window_7 rfl ?_
  obtain ⟨x1, e_x1, h⟩ := bd_some h
  refine rs_call (As := [.int a1]) kv_X12_128 dX12_window_8 hr rfl rfl (by decide) (Nat.le_of_ble_eq_true rfl) rfl (by decide) (Nat.le_of_ble_eq_true rfl) (t_X12_noShip hr (pN s 0 (nI 0)) a1 e_x1) ?_
  refine jg_if_ne (x := x1) (tgt := 22) dX12_window_11 (by decide) (fun c2 => ?_) (fun c2 => ?_)
  · replace h := it_f c2 h
    refine jg_iconst (v := nI 1) dX12_window_22 (by decide) ?_
    refine jg_goto (tgt := 27) dX12_window_23 (by decide) ?_
    refine jg_iconst (v := nI 1) dX12_window_27 (by decide) ?_
    refine rs_call (As := [.int (nI 1), .int (nI 1)]) kv_X12_69 dX12_window_28 hr rfl rfl (by decide) (Nat.le_of_ble_eq_true rfl) rfl (by decide) (Nat.le_of_ble_eq_true rfl) (t_X12_throwsIf hr (pN s 0 (nI 0)) (nI 1) (nI 1) (o_thr1 (pN s 0 (nI 0)) (nI 1))) ?_
    refine jg_if_eq (x := (nI 1)) (tgt := 36) dX12_window_31 (by decide) (fun q9 => absurd q9 (by decide)) (fun _ => ?_)
    refine jg_iconst (v := nI 0) dX12_window_34 (by decide) ?_
    obtain rfl := Option.some.inj h
    exact jg_ireturn dX12_window_35 rfl ⟨rfl, rfl⟩
  · replace h := it_t c2 h
    refine jg_aload_n dX12_window_14 rfl ?_
    refine jg_iload_n dX12_window_15 rfl ?_
    obtain ⟨x3, e_x3, h⟩ := bd_some h
    refine rs_call (As := [.int a2]) kv_X12_131 dX12_window_16 hr rfl rfl (by decide) (Nat.le_of_ble_eq_true rfl) rfl (by decide) (Nat.le_of_ble_eq_true rfl) (t_X12_noBerth hr (pN s 0 (nI 0)) a2 e_x3) ?_
    refine jg_if_eq (x := x3) (tgt := 26) dX12_window_19 (by decide) (fun c4 => ?_) (fun c4 => ?_)
    · replace h := it_t c4 h
      refine jg_iconst (v := nI 0) dX12_window_26 (by decide) ?_
      refine jg_iconst (v := nI 1) dX12_window_27 (by decide) ?_
      refine rs_call (As := [.int (nI 0), .int (nI 1)]) kv_X12_69 dX12_window_28 hr rfl rfl (by decide) (Nat.le_of_ble_eq_true rfl) rfl (by decide) (Nat.le_of_ble_eq_true rfl) (t_X12_throwsIf hr (pN s 0 (nI 0)) (nI 0) (nI 1) (o_thr0 (pN s 0 (nI 0)) (nI 1))) ?_
      refine jg_if_eq (x := (nI 0)) (tgt := 36) dX12_window_31 (by decide) (fun _ => ?_) (fun q9 => absurd q9 (by decide))
      refine jg_aload_n dX12_window_36 rfl ?_
      obtain ⟨x5, e_x5, h⟩ := bd_some h
      refine rs_call (As := []) kv_X12_134 dX12_window_37 hr rfl rfl (by decide) (Nat.le_of_ble_eq_true rfl) rfl (by decide) (Nat.le_of_ble_eq_true rfl) (t_X12_looks hr F (pN s 0 (nI 0)) e_x5) ?_
      refine jg_aload_n dX12_window_40 rfl ?_
      obtain ⟨x6, e_x6, h⟩ := bd_some h
      refine rs_call (As := []) kv_X12_73 dX12_window_41 hr rfl rfl (by decide) (Nat.le_of_ble_eq_true rfl) rfl (by decide) (Nat.le_of_ble_eq_true rfl) (t_X12_hour hr x5 e_x6) ?_
      refine jg_iconst (v := nI 1) dX12_window_44 (by decide) ?_
      refine jg_iadd (x := x6) (y := (nI 1)) dX12_window_45  ?_
      refine jg_istore (L' := [some (.ref r), some (.int a1), some (.int a2), some (.int a3), some (.int (x6 + (nI 1)))]) dX12_window_46 (by decide) rfl ?_
      obtain ⟨x18, e_x18, h⟩ := bd_some h
      refine jg_fg (L' := [some (.ref r), some (.int a1), some (.int a2), some (.int a3), some (.int (x6 + (nI 1)))]) (by repeat (first | exact trivial | refine ⟨rfl, ?_⟩ | show jg_le _ _)) ?_
      refine t_X12_window_48 hr F a1 a2 a3 x5  _ (x := x18) ?_ ?_ F (x6 + (nI 1)) e_x18
      · intro y19 ey; subst ey; replace h := se_l h
        refine jg_iconst (v := (-1)) dX12_window_99 (by decide) ?_
        obtain rfl := Option.some.inj h
        exact jg_ireturn dX12_window_100 rfl ⟨rfl, rfl⟩
      · intro z20 ez; subst ez; replace h := se_r h
        obtain rfl := Option.some.inj h
        exact ⟨rfl, rfl⟩
    · replace h := it_f c4 h
      refine jg_iconst (v := nI 1) dX12_window_22 (by decide) ?_
      refine jg_goto (tgt := 27) dX12_window_23 (by decide) ?_
      refine jg_iconst (v := nI 1) dX12_window_27 (by decide) ?_
      refine rs_call (As := [.int (nI 1), .int (nI 1)]) kv_X12_69 dX12_window_28 hr rfl rfl (by decide) (Nat.le_of_ble_eq_true rfl) rfl (by decide) (Nat.le_of_ble_eq_true rfl) (t_X12_throwsIf hr (pN s 0 (nI 0)) (nI 1) (nI 1) (o_thr1 (pN s 0 (nI 0)) (nI 1))) ?_
      refine jg_if_eq (x := (nI 1)) (tgt := 36) dX12_window_31 (by decide) (fun q9 => absurd q9 (by decide)) (fun _ => ?_)
      refine jg_iconst (v := nI 0) dX12_window_34 (by decide) ?_
      obtain rfl := Option.some.inj h
      exact jg_ireturn dX12_window_35 rfl ⟨rfl, rfl⟩
theorem dX12_freePilots_0 : decode cX12_freePilots 0 = .ok (.iconst 0, 1) := by decide +kernel
theorem dX12_freePilots_1 : decode cX12_freePilots 1 = .ok (.istore_n 1, 1) := by decide +kernel
theorem dX12_freePilots_2 : decode cX12_freePilots 2 = .ok (.iconst 0, 1) := by decide +kernel
theorem dX12_freePilots_3 : decode cX12_freePilots 3 = .ok (.istore_n 2, 1) := by decide +kernel
theorem dX12_freePilots_4 : decode cX12_freePilots 4 = .ok (.iload_n 2, 1) := by decide +kernel
theorem dX12_freePilots_5 : decode cX12_freePilots 5 = .ok (.bipush 8, 2) := by decide +kernel
theorem dX12_freePilots_7 : decode cX12_freePilots 7 = .ok (.if_icmp .ge 22, 3) := by decide +kernel
theorem dX12_freePilots_10 : decode cX12_freePilots 10 = .ok (.iload_n 1, 1) := by decide +kernel
theorem dX12_freePilots_11 : decode cX12_freePilots 11 = .ok (.aload_n 0, 1) := by decide +kernel
theorem dX12_freePilots_12 : decode cX12_freePilots 12 = .ok (.getfield 13, 3) := by decide +kernel
theorem dX12_freePilots_15 : decode cX12_freePilots 15 = .ok (.sipush 1082, 3) := by decide +kernel
theorem dX12_freePilots_18 : decode cX12_freePilots 18 = .ok (.iload_n 2, 1) := by decide +kernel
theorem dX12_freePilots_19 : decode cX12_freePilots 19 = .ok (.iadd, 1) := by decide +kernel
theorem dX12_freePilots_20 : decode cX12_freePilots 20 = .ok (.iaload, 1) := by decide +kernel
theorem dX12_freePilots_21 : decode cX12_freePilots 21 = .ok (.iadd, 1) := by decide +kernel
theorem dX12_freePilots_22 : decode cX12_freePilots 22 = .ok (.istore_n 1, 1) := by decide +kernel
theorem dX12_freePilots_23 : decode cX12_freePilots 23 = .ok (.iinc 2 1, 3) := by decide +kernel
theorem dX12_freePilots_26 : decode cX12_freePilots 26 = .ok (.goto (-22), 3) := by decide +kernel
theorem dX12_freePilots_29 : decode cX12_freePilots 29 = .ok (.iconst 0, 1) := by decide +kernel
theorem dX12_freePilots_30 : decode cX12_freePilots 30 = .ok (.aload_n 0, 1) := by decide +kernel
theorem dX12_freePilots_31 : decode cX12_freePilots 31 = .ok (.getfield 13, 3) := by decide +kernel
theorem dX12_freePilots_34 : decode cX12_freePilots 34 = .ok (.sipush 1080, 3) := by decide +kernel
theorem dX12_freePilots_37 : decode cX12_freePilots 37 = .ok (.iaload, 1) := by decide +kernel
theorem dX12_freePilots_38 : decode cX12_freePilots 38 = .ok (.iload_n 1, 1) := by decide +kernel
theorem dX12_freePilots_39 : decode cX12_freePilots 39 = .ok (.isub, 1) := by decide +kernel
theorem dX12_freePilots_40 : decode cX12_freePilots 40 = .ok (.invokestatic 88, 3) := by decide +kernel
theorem dX12_freePilots_43 : decode cX12_freePilots 43 = .ok (.ireturn, 1) := by decide +kernel
noncomputable def o_X12_freePilots_4 (F : Nat)  (s : rs_S) : Nat → Int32 → Int32 → Option (Int32)
  | 0, _, _ => none
  | f + 1, l1, l2 => if (nI 8) ≤ l2 then (some l1) else (if iL ((nI 1082) + l2) 22216 then (o_X12_freePilots_4 F s f (l1 + (gW s ((nI 1082) + l2))) (l2 + nI 1)) else none)
set_option maxHeartbeats 4000000 in
theorem t_X12_freePilots_4 {Γ : jg_G} {g : Nat → jg_C} {n r : Nat} (hr : r + 11 ≤ n) (F : Nat)  (s : rs_S)  (Q : jg_Q) {x : Int32} (K1 : jg Γ mX12_freePilots 1 0 0 29 [some (.ref r), some (.int x), none] [] (rs_h g r s, n) Q)  : ∀ (f : Nat) (l1 : Int32) (l2 : Int32), o_X12_freePilots_4 F s f l1 l2 = some x → jg Γ mX12_freePilots 1 0 0 4 [some (.ref r), some (.int l1), some (.int l2)] [] (rs_h g r s, n) Q := by
  intro f
  induction f with
  | zero => intro l1 l2 h; rw [o_X12_freePilots_4] at h; cases h
  | succ f ih =>
   intro l1 l2 h
   rw [o_X12_freePilots_4] at h
   refine jg_iload_n dX12_freePilots_4 rfl ?_
   refine jg_bipush (v := nI 8) dX12_freePilots_5 (by decide) ?_
   refine jg_icmp_ge (x := l2) (y := (nI 8)) (tgt := 29) dX12_freePilots_7 (by decide) (fun c1 => ?_) (fun c1 => ?_)
   · replace h := it_t c1 h
     refine jg_fg (L' := [some (.ref r), some (.int l1), none]) (by repeat (first | exact trivial | refine ⟨rfl, ?_⟩ | show jg_le _ _)) ?_
     obtain rfl := Option.some.inj h
     exact K1
   · replace h := it_f c1 h
     refine jg_iload_n dX12_freePilots_10 rfl ?_
     refine jg_aload_n dX12_freePilots_11 rfl ?_
     refine rs_ga fl_X12_13 dX12_freePilots_12 hr rfl ?_
     refine jg_sipush (v := nI 1082) dX12_freePilots_15 (by decide) ?_
     refine jg_iload_n dX12_freePilots_18 rfl ?_
     refine jg_iadd (x := (nI 1082)) (y := l2) dX12_freePilots_19  ?_
     obtain ⟨q2, h⟩ := gd_some h
     refine rs_lwD (s := s) (i := ((nI 1082) + l2)) dX12_freePilots_20 hr q2 ?_
     refine jg_iadd (x := l1) (y := (gW s ((nI 1082) + l2))) dX12_freePilots_21  ?_
     refine jg_istore_n (L' := [some (.ref r), some (.int (l1 + (gW s ((nI 1082) + l2)))), some (.int l2)]) dX12_freePilots_22 (by decide) rfl ?_
     refine jg_iinc (x := l2) (v := l2 + nI 1) (L' := [some (.ref r), some (.int (l1 + (gW s ((nI 1082) + l2)))), some (.int (l2 + nI 1))]) dX12_freePilots_23 rfl (ic_k _ (by decide)) (by decide) rfl ?_
     refine jg_goto (tgt := 4) dX12_freePilots_26 (by decide) ?_
     refine jg_fg (L' := [some (.ref r), some (.int (l1 + (gW s ((nI 1082) + l2)))), some (.int (l2 + nI 1))]) (by repeat (first | exact trivial | refine ⟨rfl, ?_⟩ | show jg_le _ _)) ?_
     exact ih (l1 + (gW s ((nI 1082) + l2))) (l2 + nI 1) h
noncomputable def o_X12_freePilots (F : Nat) (s : rs_S) : Option (Int32) := (o_X12_freePilots_4 F s F (nI 0) (nI 0)).bind fun x3 => (some (mxi (nI 0) ((gW s (nI 1080)) - x3)))
set_option maxHeartbeats 4000000 in
theorem t_X12_freePilots {Γ : jg_G} {g : Nat → jg_C} {n r : Nat} (hr : r + 11 ≤ n) (F : Nat) (s : rs_S)  {x : Int32} (h : o_X12_freePilots F s = some x) : jc Γ mX12_freePilots 1 0 0 [some (.ref r), none, none] (rs_h g r s, n) (.inl (some (.int x))) (rs_h g r s, n) := by
  refine jc_of ?_
  rw [o_X12_freePilots] at h
  refine jg_iconst (v := nI 0) dX12_freePilots_0 (by decide) ?_
  refine jg_istore_n (L' := [some (.ref r), some (.int (nI 0)), none]) dX12_freePilots_1 (by decide) rfl ?_
  refine jg_iconst (v := nI 0) dX12_freePilots_2 (by decide) ?_
  refine jg_istore_n (L' := [some (.ref r), some (.int (nI 0)), some (.int (nI 0))]) dX12_freePilots_3 (by decide) rfl ?_
  obtain ⟨x3, e_x3, h⟩ := bd_some h
  refine jg_fg (L' := [some (.ref r), some (.int (nI 0)), some (.int (nI 0))]) (by repeat (first | exact trivial | refine ⟨rfl, ?_⟩ | show jg_le _ _)) ?_
  refine t_X12_freePilots_4 hr F s  _ (x := x3) ?_ F (nI 0) (nI 0) e_x3
  refine jg_iconst (v := nI 0) dX12_freePilots_29 (by decide) ?_
  refine jg_aload_n dX12_freePilots_30 rfl ?_
  refine rs_ga fl_X12_13 dX12_freePilots_31 hr rfl ?_
  refine jg_sipush (v := nI 1080) dX12_freePilots_34 (by decide) ?_
  refine rs_lwD (s := s) (i := (nI 1080)) dX12_freePilots_37 hr (by decide) ?_
  refine jg_iload_n dX12_freePilots_38 rfl ?_
  refine jg_isub (x := (gW s (nI 1080))) (y := x3) dX12_freePilots_39  ?_
  refine jg_mmax (x := (nI 0)) (y := ((gW s (nI 1080)) - x3)) km_X12_88 jw_max.1 jw_max.2 dX12_freePilots_40 (by decide) (Nat.le_of_ble_eq_true rfl) ?_
  obtain rfl := Option.some.inj h
  exact jg_ireturn dX12_freePilots_43 rfl ⟨rfl, rfl⟩
theorem dX12_touches_0 : decode cX12_touches 0 = .ok (.iconst 0, 1) := by decide +kernel
theorem dX12_touches_1 : decode cX12_touches 1 = .ok (.istore 5, 2) := by decide +kernel
theorem dX12_touches_3 : decode cX12_touches 3 = .ok (.iconst 0, 1) := by decide +kernel
theorem dX12_touches_4 : decode cX12_touches 4 = .ok (.istore 6, 2) := by decide +kernel
theorem dX12_touches_6 : decode cX12_touches 6 = .ok (.iload 6, 2) := by decide +kernel
theorem dX12_touches_8 : decode cX12_touches 8 = .ok (.iload_n 3, 1) := by decide +kernel
theorem dX12_touches_9 : decode cX12_touches 9 = .ok (.if_icmp .gt 51, 3) := by decide +kernel
theorem dX12_touches_12 : decode cX12_touches 12 = .ok (.iload 5, 2) := by decide +kernel
theorem dX12_touches_14 : decode cX12_touches 14 = .ok (.ifCond .ne 33, 3) := by decide +kernel
theorem dX12_touches_17 : decode cX12_touches 17 = .ok (.aload_n 0, 1) := by decide +kernel
theorem dX12_touches_18 : decode cX12_touches 18 = .ok (.getfield 13, 3) := by decide +kernel
theorem dX12_touches_21 : decode cX12_touches 21 = .ok (.iconst 1, 1) := by decide +kernel
theorem dX12_touches_22 : decode cX12_touches 22 = .ok (.iload 6, 2) := by decide +kernel
theorem dX12_touches_24 : decode cX12_touches 24 = .ok (.iadd, 1) := by decide +kernel
theorem dX12_touches_25 : decode cX12_touches 25 = .ok (.iaload, 1) := by decide +kernel
theorem dX12_touches_26 : decode cX12_touches 26 = .ok (.aload_n 0, 1) := by decide +kernel
theorem dX12_touches_27 : decode cX12_touches 27 = .ok (.aload_n 0, 1) := by decide +kernel
theorem dX12_touches_28 : decode cX12_touches 28 = .ok (.invokevirtual 73, 3) := by decide +kernel
theorem dX12_touches_31 : decode cX12_touches 31 = .ok (.iload 6, 2) := by decide +kernel
theorem dX12_touches_33 : decode cX12_touches 33 = .ok (.iload_n 3, 1) := by decide +kernel
theorem dX12_touches_34 : decode cX12_touches 34 = .ok (.iload 4, 2) := by decide +kernel
theorem dX12_touches_36 : decode cX12_touches 36 = .ok (.invokestatic 121, 3) := by decide +kernel
theorem dX12_touches_39 : decode cX12_touches 39 = .ok (.invokevirtual 125, 3) := by decide +kernel
theorem dX12_touches_42 : decode cX12_touches 42 = .ok (.iadd, 1) := by decide +kernel
theorem dX12_touches_43 : decode cX12_touches 43 = .ok (.iload_n 2, 1) := by decide +kernel
theorem dX12_touches_44 : decode cX12_touches 44 = .ok (.if_icmp .ge 7, 3) := by decide +kernel
theorem dX12_touches_47 : decode cX12_touches 47 = .ok (.iconst 1, 1) := by decide +kernel
theorem dX12_touches_48 : decode cX12_touches 48 = .ok (.goto 4, 3) := by decide +kernel
theorem dX12_touches_51 : decode cX12_touches 51 = .ok (.iconst 0, 1) := by decide +kernel
theorem dX12_touches_52 : decode cX12_touches 52 = .ok (.istore 5, 2) := by decide +kernel
theorem dX12_touches_54 : decode cX12_touches 54 = .ok (.iinc 6 1, 3) := by decide +kernel
theorem dX12_touches_57 : decode cX12_touches 57 = .ok (.goto (-51), 3) := by decide +kernel
theorem dX12_touches_60 : decode cX12_touches 60 = .ok (.iload 5, 2) := by decide +kernel
theorem dX12_touches_62 : decode cX12_touches 62 = .ok (.ifCond .ne 4, 3) := by decide +kernel
theorem dX12_touches_65 : decode cX12_touches 65 = .ok (.return_, 1) := by decide +kernel
theorem dX12_touches_66 : decode cX12_touches 66 = .ok (.aload_n 0, 1) := by decide +kernel
theorem dX12_touches_67 : decode cX12_touches 67 = .ok (.getfield 13, 3) := by decide +kernel
theorem dX12_touches_70 : decode cX12_touches 70 = .ok (.iload_n 1, 1) := by decide +kernel
theorem dX12_touches_71 : decode cX12_touches 71 = .ok (.bipush 16, 2) := by decide +kernel
theorem dX12_touches_73 : decode cX12_touches 73 = .ok (.invokestatic 104, 3) := by decide +kernel
theorem dX12_touches_76 : decode cX12_touches 76 = .ok (.dup2, 1) := by decide +kernel
theorem dX12_touches_77 : decode cX12_touches 77 = .ok (.iaload, 1) := by decide +kernel
theorem dX12_touches_78 : decode cX12_touches 78 = .ok (.iconst 1, 1) := by decide +kernel
theorem dX12_touches_79 : decode cX12_touches 79 = .ok (.iadd, 1) := by decide +kernel
theorem dX12_touches_80 : decode cX12_touches 80 = .ok (.iastore, 1) := by decide +kernel
theorem dX12_touches_81 : decode cX12_touches 81 = .ok (.aload_n 0, 1) := by decide +kernel
theorem dX12_touches_82 : decode cX12_touches 82 = .ok (.getfield 13, 3) := by decide +kernel
theorem dX12_touches_85 : decode cX12_touches 85 = .ok (.sipush 2655, 3) := by decide +kernel
theorem dX12_touches_88 : decode cX12_touches 88 = .ok (.dup2, 1) := by decide +kernel
theorem dX12_touches_89 : decode cX12_touches 89 = .ok (.iaload, 1) := by decide +kernel
theorem dX12_touches_90 : decode cX12_touches 90 = .ok (.iconst 1, 1) := by decide +kernel
theorem dX12_touches_91 : decode cX12_touches 91 = .ok (.iadd, 1) := by decide +kernel
theorem dX12_touches_92 : decode cX12_touches 92 = .ok (.iastore, 1) := by decide +kernel
theorem dX12_touches_93 : decode cX12_touches 93 = .ok (.return_, 1) := by decide +kernel
noncomputable def o_X12_touches_6 (F : Nat) (l1 : Int32) (l2 : Int32) (l3 : Int32) (l4 : Int32) (s : rs_S) : Nat → Int32 → Int32 → Option (Int32)
  | 0, _, _ => none
  | f + 1, l5, l6 => if l3 < l6 then (some l5) else (if l5 = 0 then (if iL ((nI 1) + l6) 22216 then ((o_X12_hour s).bind fun x4 => ((o_X12_hourAt s x4 l6 l3 l4).bind fun x5 => ((o_X12_tideOf s x5).bind fun x6 => (if l2 ≤ ((gW s ((nI 1) + l6)) + x6) then (o_X12_touches_6 F l1 l2 l3 l4 s f (nI 0) (l6 + nI 1)) else (o_X12_touches_6 F l1 l2 l3 l4 s f (nI 1) (l6 + nI 1)))))) else none) else (o_X12_touches_6 F l1 l2 l3 l4 s f (nI 1) (l6 + nI 1)))
set_option maxHeartbeats 4000000 in
theorem t_X12_touches_6 {Γ : jg_G} {g : Nat → jg_C} {n r : Nat} (hr : r + 11 ≤ n) (F : Nat) (l1 : Int32) (l2 : Int32) (l3 : Int32) (l4 : Int32) (s : rs_S)  (Q : jg_Q) {x : Int32} (K1 : jg Γ mX12_touches 1 0 0 60 [some (.ref r), some (.int l1), none, none, none, some (.int x), none] [] (rs_h g r s, n) Q)  : ∀ (f : Nat) (l5 : Int32) (l6 : Int32), o_X12_touches_6 F l1 l2 l3 l4 s f l5 l6 = some x → jg Γ mX12_touches 1 0 0 6 [some (.ref r), some (.int l1), some (.int l2), some (.int l3), some (.int l4), some (.int l5), some (.int l6)] [] (rs_h g r s, n) Q := by
  intro f
  induction f with
  | zero => intro l5 l6 h; rw [o_X12_touches_6] at h; cases h
  | succ f ih =>
   intro l5 l6 h
   rw [o_X12_touches_6] at h
   refine jg_iload dX12_touches_6 rfl ?_
   refine jg_iload_n dX12_touches_8 rfl ?_
   refine jg_icmp_gt (x := l6) (y := l3) (tgt := 60) dX12_touches_9 (by decide) (fun c1 => ?_) (fun c1 => ?_)
   · replace h := it_t c1 h
     refine jg_fg (L' := [some (.ref r), some (.int l1), none, none, none, some (.int l5), none]) (by repeat (first | exact trivial | refine ⟨rfl, ?_⟩ | show jg_le _ _)) ?_
     obtain rfl := Option.some.inj h
     exact K1
   · replace h := it_f c1 h
     refine jg_iload dX12_touches_12 rfl ?_
     refine jg_if_ne (x := l5) (tgt := 47) dX12_touches_14 (by decide) (fun c2 => ?_) (fun c2 => ?_)
     · replace h := it_f c2 h
       refine jg_iconst (v := nI 1) dX12_touches_47 (by decide) ?_
       refine jg_goto (tgt := 52) dX12_touches_48 (by decide) ?_
       refine jg_istore (L' := [some (.ref r), some (.int l1), some (.int l2), some (.int l3), some (.int l4), some (.int (nI 1)), some (.int l6)]) dX12_touches_52 (by decide) rfl ?_
       refine jg_iinc (x := l6) (v := l6 + nI 1) (L' := [some (.ref r), some (.int l1), some (.int l2), some (.int l3), some (.int l4), some (.int (nI 1)), some (.int (l6 + nI 1))]) dX12_touches_54 rfl (ic_k _ (by decide)) (by decide) rfl ?_
       refine jg_goto (tgt := 6) dX12_touches_57 (by decide) ?_
       refine jg_fg (L' := [some (.ref r), some (.int l1), some (.int l2), some (.int l3), some (.int l4), some (.int (nI 1)), some (.int (l6 + nI 1))]) (by repeat (first | exact trivial | refine ⟨rfl, ?_⟩ | show jg_le _ _)) ?_
       exact ih (nI 1) (l6 + nI 1) h
     · replace h := it_t c2 h
       refine jg_aload_n dX12_touches_17 rfl ?_
       refine rs_ga fl_X12_13 dX12_touches_18 hr rfl ?_
       refine jg_iconst (v := nI 1) dX12_touches_21 (by decide) ?_
       refine jg_iload dX12_touches_22 rfl ?_
       refine jg_iadd (x := (nI 1)) (y := l6) dX12_touches_24  ?_
       obtain ⟨q3, h⟩ := gd_some h
       refine rs_lwD (s := s) (i := ((nI 1) + l6)) dX12_touches_25 hr q3 ?_
       refine jg_aload_n dX12_touches_26 rfl ?_
       refine jg_aload_n dX12_touches_27 rfl ?_
       obtain ⟨x4, e_x4, h⟩ := bd_some h
       refine rs_call (As := []) kv_X12_73 dX12_touches_28 hr rfl rfl (by decide) (Nat.le_of_ble_eq_true rfl) rfl (by decide) (Nat.le_of_ble_eq_true rfl) (t_X12_hour hr s e_x4) ?_
       refine jg_iload dX12_touches_31 rfl ?_
       refine jg_iload_n dX12_touches_33 rfl ?_
       refine jg_iload dX12_touches_34 rfl ?_
       obtain ⟨x5, e_x5, h⟩ := bd_some h
       refine rs_callS (As := [.int x4, .int l6, .int l3, .int l4]) ks_X12_121 dX12_touches_36 rfl (by decide) (Nat.le_of_ble_eq_true rfl) rfl (by decide) (Nat.le_of_ble_eq_true rfl) (t_X12_hourAt hr s x4 l6 l3 l4 e_x5) ?_
       obtain ⟨x6, e_x6, h⟩ := bd_some h
       refine rs_call (As := [.int x5]) kv_X12_125 dX12_touches_39 hr rfl rfl (by decide) (Nat.le_of_ble_eq_true rfl) rfl (by decide) (Nat.le_of_ble_eq_true rfl) (t_X12_tideOf hr s x5 e_x6) ?_
       refine jg_iadd (x := (gW s ((nI 1) + l6))) (y := x6) dX12_touches_42  ?_
       refine jg_iload_n dX12_touches_43 rfl ?_
       refine jg_icmp_ge (x := ((gW s ((nI 1) + l6)) + x6)) (y := l2) (tgt := 51) dX12_touches_44 (by decide) (fun c7 => ?_) (fun c7 => ?_)
       · replace h := it_t c7 h
         refine jg_iconst (v := nI 0) dX12_touches_51 (by decide) ?_
         refine jg_istore (L' := [some (.ref r), some (.int l1), some (.int l2), some (.int l3), some (.int l4), some (.int (nI 0)), some (.int l6)]) dX12_touches_52 (by decide) rfl ?_
         refine jg_iinc (x := l6) (v := l6 + nI 1) (L' := [some (.ref r), some (.int l1), some (.int l2), some (.int l3), some (.int l4), some (.int (nI 0)), some (.int (l6 + nI 1))]) dX12_touches_54 rfl (ic_k _ (by decide)) (by decide) rfl ?_
         refine jg_goto (tgt := 6) dX12_touches_57 (by decide) ?_
         refine jg_fg (L' := [some (.ref r), some (.int l1), some (.int l2), some (.int l3), some (.int l4), some (.int (nI 0)), some (.int (l6 + nI 1))]) (by repeat (first | exact trivial | refine ⟨rfl, ?_⟩ | show jg_le _ _)) ?_
         exact ih (nI 0) (l6 + nI 1) h
       · replace h := it_f c7 h
         refine jg_iconst (v := nI 1) dX12_touches_47 (by decide) ?_
         refine jg_goto (tgt := 52) dX12_touches_48 (by decide) ?_
         refine jg_istore (L' := [some (.ref r), some (.int l1), some (.int l2), some (.int l3), some (.int l4), some (.int (nI 1)), some (.int l6)]) dX12_touches_52 (by decide) rfl ?_
         refine jg_iinc (x := l6) (v := l6 + nI 1) (L' := [some (.ref r), some (.int l1), some (.int l2), some (.int l3), some (.int l4), some (.int (nI 1)), some (.int (l6 + nI 1))]) dX12_touches_54 rfl (ic_k _ (by decide)) (by decide) rfl ?_
         refine jg_goto (tgt := 6) dX12_touches_57 (by decide) ?_
         refine jg_fg (L' := [some (.ref r), some (.int l1), some (.int l2), some (.int l3), some (.int l4), some (.int (nI 1)), some (.int (l6 + nI 1))]) (by repeat (first | exact trivial | refine ⟨rfl, ?_⟩ | show jg_le _ _)) ?_
         exact ih (nI 1) (l6 + nI 1) h
noncomputable def o_X12_touches (F : Nat) (s : rs_S) (a1 : Int32) (a2 : Int32) (a3 : Int32) (a4 : Int32) : Option (rs_S) := (o_X12_touches_6 F a1 a2 a3 a4 s F (nI 0) (nI 0)).bind fun x8 => (if x8 = 0 then (some s) else ((o_X12_shipAt s a1 (nI 16)).bind fun x10 => (if iL x10 22216 then (some (pW (pW s x10 ((gW s x10) + (nI 1))) (nI 2655) ((gW (pW s x10 ((gW s x10) + (nI 1))) (nI 2655)) + (nI 1)))) else none)))
set_option maxHeartbeats 4000000 in
theorem t_X12_touches {Γ : jg_G} {g : Nat → jg_C} {n r : Nat} (hr : r + 11 ≤ n) (F : Nat) (s : rs_S) (a1 : Int32) (a2 : Int32) (a3 : Int32) (a4 : Int32)  {x : rs_S} (h : o_X12_touches F s a1 a2 a3 a4 = some x) : jc Γ mX12_touches 1 0 0 [some (.ref r), some (.int a1), some (.int a2), some (.int a3), some (.int a4), none, none] (rs_h g r s, n) (.inl none) (rs_h g r x, n) := by
  refine jc_of ?_
  rw [o_X12_touches] at h
  refine jg_iconst (v := nI 0) dX12_touches_0 (by decide) ?_
  refine jg_istore (L' := [some (.ref r), some (.int a1), some (.int a2), some (.int a3), some (.int a4), some (.int (nI 0)), none]) dX12_touches_1 (by decide) rfl ?_
  refine jg_iconst (v := nI 0) dX12_touches_3 (by decide) ?_
  refine jg_istore (L' := [some (.ref r), some (.int a1), some (.int a2), some (.int a3), some (.int a4), some (.int (nI 0)), some (.int (nI 0))]) dX12_touches_4 (by decide) rfl ?_
  obtain ⟨x8, e_x8, h⟩ := bd_some h
  refine jg_fg (L' := [some (.ref r), some (.int a1), some (.int a2), some (.int a3), some (.int a4), some (.int (nI 0)), some (.int (nI 0))]) (by repeat (first | exact trivial | refine ⟨rfl, ?_⟩ | show jg_le _ _)) ?_
  refine t_X12_touches_6 hr F a1 a2 a3 a4 s  _ (x := x8) ?_ F (nI 0) (nI 0) e_x8
  refine jg_iload dX12_touches_60 rfl ?_
  refine jg_if_ne (x := x8) (tgt := 66) dX12_touches_62 (by decide) (fun c9 => ?_) (fun c9 => ?_)
  · replace h := it_f c9 h
    refine jg_aload_n dX12_touches_66 rfl ?_
    refine rs_ga fl_X12_13 dX12_touches_67 hr rfl ?_
    refine jg_iload_n dX12_touches_70 rfl ?_
    refine jg_bipush (v := nI 16) dX12_touches_71 (by decide) ?_
    obtain ⟨x10, e_x10, h⟩ := bd_some h
    refine rs_callS (As := [.int a1, .int (nI 16)]) ks_X12_104 dX12_touches_73 rfl (by decide) (Nat.le_of_ble_eq_true rfl) rfl (by decide) (Nat.le_of_ble_eq_true rfl) (t_X12_shipAt hr s a1 (nI 16) e_x10) ?_
    refine jg_dup2 dX12_touches_76 rfl rfl ?_
    obtain ⟨q11, h⟩ := gd_some h
    refine rs_lwD (s := s) (i := x10) dX12_touches_77 hr q11 ?_
    refine jg_iconst (v := nI 1) dX12_touches_78 (by decide) ?_
    refine jg_iadd (x := (gW s x10)) (y := (nI 1)) dX12_touches_79  ?_
    refine rs_swD (s := s) (i := x10) (x := ((gW s x10) + (nI 1))) dX12_touches_80 hr q11 ?_
    refine jg_aload_n dX12_touches_81 rfl ?_
    refine rs_ga fl_X12_13 dX12_touches_82 hr rfl ?_
    refine jg_sipush (v := nI 2655) dX12_touches_85 (by decide) ?_
    refine jg_dup2 dX12_touches_88 rfl rfl ?_
    refine rs_lwD (s := (pW s x10 ((gW s x10) + (nI 1)))) (i := (nI 2655)) dX12_touches_89 hr (by decide) ?_
    refine jg_iconst (v := nI 1) dX12_touches_90 (by decide) ?_
    refine jg_iadd (x := (gW (pW s x10 ((gW s x10) + (nI 1))) (nI 2655))) (y := (nI 1)) dX12_touches_91  ?_
    refine rs_swD (s := (pW s x10 ((gW s x10) + (nI 1)))) (i := (nI 2655)) (x := ((gW (pW s x10 ((gW s x10) + (nI 1))) (nI 2655)) + (nI 1))) dX12_touches_92 hr (by decide) ?_
    obtain rfl := Option.some.inj h
    exact jg_return dX12_touches_93 rfl ⟨rfl, rfl⟩
  · replace h := it_t c9 h
    obtain rfl := Option.some.inj h
    exact jg_return dX12_touches_65 rfl ⟨rfl, rfl⟩
theorem dX12_pilots_0 : decode cX12_pilots 0 = .ok (.aload_n 0, 1) := by decide +kernel
theorem dX12_pilots_1 : decode cX12_pilots 1 = .ok (.getfield 13, 3) := by decide +kernel
theorem dX12_pilots_4 : decode cX12_pilots 4 = .ok (.sipush 1082, 3) := by decide +kernel
theorem dX12_pilots_7 : decode cX12_pilots 7 = .ok (.aload_n 0, 1) := by decide +kernel
theorem dX12_pilots_8 : decode cX12_pilots 8 = .ok (.invokevirtual 73, 3) := by decide +kernel
theorem dX12_pilots_11 : decode cX12_pilots 11 = .ok (.iload_n 1, 1) := by decide +kernel
theorem dX12_pilots_12 : decode cX12_pilots 12 = .ok (.bipush 6, 2) := by decide +kernel
theorem dX12_pilots_14 : decode cX12_pilots 14 = .ok (.idiv, 1) := by decide +kernel
theorem dX12_pilots_15 : decode cX12_pilots 15 = .ok (.iadd, 1) := by decide +kernel
theorem dX12_pilots_16 : decode cX12_pilots 16 = .ok (.bipush 8, 2) := by decide +kernel
theorem dX12_pilots_18 : decode cX12_pilots 18 = .ok (.irem, 1) := by decide +kernel
theorem dX12_pilots_19 : decode cX12_pilots 19 = .ok (.iadd, 1) := by decide +kernel
theorem dX12_pilots_20 : decode cX12_pilots 20 = .ok (.dup2, 1) := by decide +kernel
theorem dX12_pilots_21 : decode cX12_pilots 21 = .ok (.iaload, 1) := by decide +kernel
theorem dX12_pilots_22 : decode cX12_pilots 22 = .ok (.iconst 1, 1) := by decide +kernel
theorem dX12_pilots_23 : decode cX12_pilots 23 = .ok (.iadd, 1) := by decide +kernel
theorem dX12_pilots_24 : decode cX12_pilots 24 = .ok (.iastore, 1) := by decide +kernel
theorem dX12_pilots_25 : decode cX12_pilots 25 = .ok (.return_, 1) := by decide +kernel
noncomputable def o_X12_pilots (s : rs_S) (a1 : Int32) : Option (rs_S) := (o_X12_hour s).bind fun x1 => (if iL ((nI 1082) + (irm (x1 + (a1 / (nI 6))) (nI 8))) 22216 then (some (pW s ((nI 1082) + (irm (x1 + (a1 / (nI 6))) (nI 8))) ((gW s ((nI 1082) + (irm (x1 + (a1 / (nI 6))) (nI 8)))) + (nI 1)))) else none)
set_option maxHeartbeats 4000000 in
theorem t_X12_pilots {Γ : jg_G} {g : Nat → jg_C} {n r : Nat} (hr : r + 11 ≤ n) (s : rs_S) (a1 : Int32)  {x : rs_S} (h : o_X12_pilots s a1 = some x) : jc Γ mX12_pilots 1 0 0 [some (.ref r), some (.int a1)] (rs_h g r s, n) (.inl none) (rs_h g r x, n) := by
  refine jc_of ?_
  rw [o_X12_pilots] at h
  refine jg_aload_n dX12_pilots_0 rfl ?_
  refine rs_ga fl_X12_13 dX12_pilots_1 hr rfl ?_
  refine jg_sipush (v := nI 1082) dX12_pilots_4 (by decide) ?_
  refine jg_aload_n dX12_pilots_7 rfl ?_
  obtain ⟨x1, e_x1, h⟩ := bd_some h
  refine rs_call (As := []) kv_X12_73 dX12_pilots_8 hr rfl rfl (by decide) (Nat.le_of_ble_eq_true rfl) rfl (by decide) (Nat.le_of_ble_eq_true rfl) (t_X12_hour hr s e_x1) ?_
  refine jg_iload_n dX12_pilots_11 rfl ?_
  refine jg_bipush (v := nI 6) dX12_pilots_12 (by decide) ?_
  refine jg_idiv (x := a1) (y := (nI 6)) dX12_pilots_14 (by decide) ?_
  refine jg_iadd (x := x1) (y := (a1 / (nI 6))) dX12_pilots_15  ?_
  refine jg_bipush (v := nI 8) dX12_pilots_16 (by decide) ?_
  refine jg_iremR (x := (x1 + (a1 / (nI 6)))) (y := (nI 8)) dX12_pilots_18 (by decide) ?_
  refine jg_iadd (x := (nI 1082)) (y := (irm (x1 + (a1 / (nI 6))) (nI 8))) dX12_pilots_19  ?_
  refine jg_dup2 dX12_pilots_20 rfl rfl ?_
  obtain ⟨q2, h⟩ := gd_some h
  refine rs_lwD (s := s) (i := ((nI 1082) + (irm (x1 + (a1 / (nI 6))) (nI 8)))) dX12_pilots_21 hr q2 ?_
  refine jg_iconst (v := nI 1) dX12_pilots_22 (by decide) ?_
  refine jg_iadd (x := (gW s ((nI 1082) + (irm (x1 + (a1 / (nI 6))) (nI 8))))) (y := (nI 1)) dX12_pilots_23  ?_
  refine rs_swD (s := s) (i := ((nI 1082) + (irm (x1 + (a1 / (nI 6))) (nI 8)))) (x := ((gW s ((nI 1082) + (irm (x1 + (a1 / (nI 6))) (nI 8)))) + (nI 1))) dX12_pilots_24 hr q2 ?_
  obtain rfl := Option.some.inj h
  exact jg_return dX12_pilots_25 rfl ⟨rfl, rfl⟩
theorem dX12_looksAtShip_0 : decode cX12_looksAtShip 0 = .ok (.aload_n 0, 1) := by decide +kernel
theorem dX12_looksAtShip_1 : decode cX12_looksAtShip 1 = .ok (.aload_n 0, 1) := by decide +kernel
theorem dX12_looksAtShip_2 : decode cX12_looksAtShip 2 = .ok (.iload_n 1, 1) := by decide +kernel
theorem dX12_looksAtShip_3 : decode cX12_looksAtShip 3 = .ok (.iconst 1, 1) := by decide +kernel
theorem dX12_looksAtShip_4 : decode cX12_looksAtShip 4 = .ok (.invokevirtual 137, 3) := by decide +kernel
theorem dX12_looksAtShip_7 : decode cX12_looksAtShip 7 = .ok (.putfield 359, 3) := by decide +kernel
theorem dX12_looksAtShip_10 : decode cX12_looksAtShip 10 = .ok (.aload_n 0, 1) := by decide +kernel
theorem dX12_looksAtShip_11 : decode cX12_looksAtShip 11 = .ok (.aload_n 0, 1) := by decide +kernel
theorem dX12_looksAtShip_12 : decode cX12_looksAtShip 12 = .ok (.iload_n 1, 1) := by decide +kernel
theorem dX12_looksAtShip_13 : decode cX12_looksAtShip 13 = .ok (.bipush 6, 2) := by decide +kernel
theorem dX12_looksAtShip_15 : decode cX12_looksAtShip 15 = .ok (.invokevirtual 137, 3) := by decide +kernel
theorem dX12_looksAtShip_18 : decode cX12_looksAtShip 18 = .ok (.iconst 1, 1) := by decide +kernel
theorem dX12_looksAtShip_19 : decode cX12_looksAtShip 19 = .ok (.if_icmp .ne 7, 3) := by decide +kernel
theorem dX12_looksAtShip_22 : decode cX12_looksAtShip 22 = .ok (.iconst 1, 1) := by decide +kernel
theorem dX12_looksAtShip_23 : decode cX12_looksAtShip 23 = .ok (.goto 4, 3) := by decide +kernel
theorem dX12_looksAtShip_26 : decode cX12_looksAtShip 26 = .ok (.iconst 0, 1) := by decide +kernel
theorem dX12_looksAtShip_27 : decode cX12_looksAtShip 27 = .ok (.putfield 361, 3) := by decide +kernel
theorem dX12_looksAtShip_30 : decode cX12_looksAtShip 30 = .ok (.aload_n 0, 1) := by decide +kernel
theorem dX12_looksAtShip_31 : decode cX12_looksAtShip 31 = .ok (.getfield 40, 3) := by decide +kernel
theorem dX12_looksAtShip_34 : decode cX12_looksAtShip 34 = .ok (.iconst 0, 1) := by decide +kernel
theorem dX12_looksAtShip_35 : decode cX12_looksAtShip 35 = .ok (.aload_n 0, 1) := by decide +kernel
theorem dX12_looksAtShip_36 : decode cX12_looksAtShip 36 = .ok (.iload_n 1, 1) := by decide +kernel
theorem dX12_looksAtShip_37 : decode cX12_looksAtShip 37 = .ok (.iconst 2, 1) := by decide +kernel
theorem dX12_looksAtShip_38 : decode cX12_looksAtShip 38 = .ok (.invokevirtual 137, 3) := by decide +kernel
theorem dX12_looksAtShip_41 : decode cX12_looksAtShip 41 = .ok (.iastore, 1) := by decide +kernel
theorem dX12_looksAtShip_42 : decode cX12_looksAtShip 42 = .ok (.aload_n 0, 1) := by decide +kernel
theorem dX12_looksAtShip_43 : decode cX12_looksAtShip 43 = .ok (.getfield 40, 3) := by decide +kernel
theorem dX12_looksAtShip_46 : decode cX12_looksAtShip 46 = .ok (.iconst 1, 1) := by decide +kernel
theorem dX12_looksAtShip_47 : decode cX12_looksAtShip 47 = .ok (.aload_n 0, 1) := by decide +kernel
theorem dX12_looksAtShip_48 : decode cX12_looksAtShip 48 = .ok (.iload_n 1, 1) := by decide +kernel
theorem dX12_looksAtShip_49 : decode cX12_looksAtShip 49 = .ok (.iconst 3, 1) := by decide +kernel
theorem dX12_looksAtShip_50 : decode cX12_looksAtShip 50 = .ok (.invokevirtual 137, 3) := by decide +kernel
theorem dX12_looksAtShip_53 : decode cX12_looksAtShip 53 = .ok (.iastore, 1) := by decide +kernel
theorem dX12_looksAtShip_54 : decode cX12_looksAtShip 54 = .ok (.aload_n 0, 1) := by decide +kernel
theorem dX12_looksAtShip_55 : decode cX12_looksAtShip 55 = .ok (.getfield 40, 3) := by decide +kernel
theorem dX12_looksAtShip_58 : decode cX12_looksAtShip 58 = .ok (.iconst 2, 1) := by decide +kernel
theorem dX12_looksAtShip_59 : decode cX12_looksAtShip 59 = .ok (.iload_n 2, 1) := by decide +kernel
theorem dX12_looksAtShip_60 : decode cX12_looksAtShip 60 = .ok (.iastore, 1) := by decide +kernel
theorem dX12_looksAtShip_61 : decode cX12_looksAtShip 61 = .ok (.aload_n 0, 1) := by decide +kernel
theorem dX12_looksAtShip_62 : decode cX12_looksAtShip 62 = .ok (.getfield 40, 3) := by decide +kernel
theorem dX12_looksAtShip_65 : decode cX12_looksAtShip 65 = .ok (.iconst 3, 1) := by decide +kernel
theorem dX12_looksAtShip_66 : decode cX12_looksAtShip 66 = .ok (.iconst 0, 1) := by decide +kernel
theorem dX12_looksAtShip_67 : decode cX12_looksAtShip 67 = .ok (.iastore, 1) := by decide +kernel
theorem dX12_looksAtShip_68 : decode cX12_looksAtShip 68 = .ok (.aload_n 0, 1) := by decide +kernel
theorem dX12_looksAtShip_69 : decode cX12_looksAtShip 69 = .ok (.getfield 40, 3) := by decide +kernel
theorem dX12_looksAtShip_72 : decode cX12_looksAtShip 72 = .ok (.iconst 4, 1) := by decide +kernel
theorem dX12_looksAtShip_73 : decode cX12_looksAtShip 73 = .ok (.iconst 0, 1) := by decide +kernel
theorem dX12_looksAtShip_74 : decode cX12_looksAtShip 74 = .ok (.iastore, 1) := by decide +kernel
theorem dX12_looksAtShip_75 : decode cX12_looksAtShip 75 = .ok (.return_, 1) := by decide +kernel
noncomputable def o_X12_looksAtShip (s : rs_S) (a1 : Int32) (a2 : Int32) : Option (rs_S) := (o_X12_of s a1 (nI 1)).bind fun x1 => ((o_X12_of (pN s 18 x1) a1 (nI 6)).bind fun x2 => (if x2 = (nI 1) then ((o_X12_of (pN (pN s 18 x1) 19 (nI 1)) a1 (nI 2)).bind fun x6 => ((o_X12_of (pR (pN (pN s 18 x1) 19 (nI 1)) 7 (nI 0) x6) a1 (nI 3)).bind fun x7 => (some (pR (pR (pR (pR (pR (pN (pN s 18 x1) 19 (nI 1)) 7 (nI 0) x6) 7 (nI 1) x7) 7 (nI 2) a2) 7 (nI 3) (nI 0)) 7 (nI 4) (nI 0))))) else ((o_X12_of (pN (pN s 18 x1) 19 (nI 0)) a1 (nI 2)).bind fun x4 => ((o_X12_of (pR (pN (pN s 18 x1) 19 (nI 0)) 7 (nI 0) x4) a1 (nI 3)).bind fun x5 => (some (pR (pR (pR (pR (pR (pN (pN s 18 x1) 19 (nI 0)) 7 (nI 0) x4) 7 (nI 1) x5) 7 (nI 2) a2) 7 (nI 3) (nI 0)) 7 (nI 4) (nI 0)))))))
set_option maxHeartbeats 4000000 in
theorem t_X12_looksAtShip {Γ : jg_G} {g : Nat → jg_C} {n r : Nat} (hr : r + 11 ≤ n) (s : rs_S) (a1 : Int32) (a2 : Int32)  {x : rs_S} (h : o_X12_looksAtShip s a1 a2 = some x) : jc Γ mX12_looksAtShip 2 0 0 [some (.ref r), some (.int a1), some (.int a2)] (rs_h g r s, n) (.inl none) (rs_h g r x, n) := by
  refine jc_of ?_
  rw [o_X12_looksAtShip] at h
  refine jg_aload_n dX12_looksAtShip_0 rfl ?_
  refine jg_aload_n dX12_looksAtShip_1 rfl ?_
  refine jg_iload_n dX12_looksAtShip_2 rfl ?_
  refine jg_iconst (v := nI 1) dX12_looksAtShip_3 (by decide) ?_
  obtain ⟨x1, e_x1, h⟩ := bd_some h
  refine rs_call (As := [.int a1, .int (nI 1)]) kv_X12_137 dX12_looksAtShip_4 hr rfl rfl (by decide) (Nat.le_of_ble_eq_true rfl) rfl (by decide) (Nat.le_of_ble_eq_true rfl) (t_X12_of hr s a1 (nI 1) e_x1) ?_
  refine rs_putD (s := s) (k := 18) (x := x1) fl_X12_359 dX12_looksAtShip_7 hr (by decide) (rfl) rfl rfl ?_
  refine jg_aload_n dX12_looksAtShip_10 rfl ?_
  refine jg_aload_n dX12_looksAtShip_11 rfl ?_
  refine jg_iload_n dX12_looksAtShip_12 rfl ?_
  refine jg_bipush (v := nI 6) dX12_looksAtShip_13 (by decide) ?_
  obtain ⟨x2, e_x2, h⟩ := bd_some h
  refine rs_call (As := [.int a1, .int (nI 6)]) kv_X12_137 dX12_looksAtShip_15 hr rfl rfl (by decide) (Nat.le_of_ble_eq_true rfl) rfl (by decide) (Nat.le_of_ble_eq_true rfl) (t_X12_of hr (pN s 18 x1) a1 (nI 6) e_x2) ?_
  refine jg_iconst (v := nI 1) dX12_looksAtShip_18 (by decide) ?_
  refine jg_icmp_ne (x := x2) (y := (nI 1)) (tgt := 26) dX12_looksAtShip_19 (by decide) (fun c3 => ?_) (fun c3 => ?_)
  · replace h := it_f c3 h
    refine jg_iconst (v := nI 0) dX12_looksAtShip_26 (by decide) ?_
    refine rs_putD (s := (pN s 18 x1)) (k := 19) (x := (nI 0)) fl_X12_361 dX12_looksAtShip_27 hr (by decide) (rfl) rfl rfl ?_
    refine jg_aload_n dX12_looksAtShip_30 rfl ?_
    refine rs_ga fl_X12_40 dX12_looksAtShip_31 hr rfl ?_
    refine jg_iconst (v := nI 0) dX12_looksAtShip_34 (by decide) ?_
    refine jg_aload_n dX12_looksAtShip_35 rfl ?_
    refine jg_iload_n dX12_looksAtShip_36 rfl ?_
    refine jg_iconst (v := nI 2) dX12_looksAtShip_37 (by decide) ?_
    obtain ⟨x4, e_x4, h⟩ := bd_some h
    refine rs_call (As := [.int a1, .int (nI 2)]) kv_X12_137 dX12_looksAtShip_38 hr rfl rfl (by decide) (Nat.le_of_ble_eq_true rfl) rfl (by decide) (Nat.le_of_ble_eq_true rfl) (t_X12_of hr (pN (pN s 18 x1) 19 (nI 0)) a1 (nI 2) e_x4) ?_
    refine rs_stD (s := (pN (pN s 18 x1) 19 (nI 0))) (i := (nI 0)) (x := x4) (j := 6) dX12_looksAtShip_41 hr (by decide) rfl (by decide) ?_
    refine jg_aload_n dX12_looksAtShip_42 rfl ?_
    refine rs_ga fl_X12_40 dX12_looksAtShip_43 hr rfl ?_
    refine jg_iconst (v := nI 1) dX12_looksAtShip_46 (by decide) ?_
    refine jg_aload_n dX12_looksAtShip_47 rfl ?_
    refine jg_iload_n dX12_looksAtShip_48 rfl ?_
    refine jg_iconst (v := nI 3) dX12_looksAtShip_49 (by decide) ?_
    obtain ⟨x5, e_x5, h⟩ := bd_some h
    refine rs_call (As := [.int a1, .int (nI 3)]) kv_X12_137 dX12_looksAtShip_50 hr rfl rfl (by decide) (Nat.le_of_ble_eq_true rfl) rfl (by decide) (Nat.le_of_ble_eq_true rfl) (t_X12_of hr (pR (pN (pN s 18 x1) 19 (nI 0)) 7 (nI 0) x4) a1 (nI 3) e_x5) ?_
    refine rs_stD (s := (pR (pN (pN s 18 x1) 19 (nI 0)) 7 (nI 0) x4)) (i := (nI 1)) (x := x5) (j := 6) dX12_looksAtShip_53 hr (by decide) rfl (by decide) ?_
    refine jg_aload_n dX12_looksAtShip_54 rfl ?_
    refine rs_ga fl_X12_40 dX12_looksAtShip_55 hr rfl ?_
    refine jg_iconst (v := nI 2) dX12_looksAtShip_58 (by decide) ?_
    refine jg_iload_n dX12_looksAtShip_59 rfl ?_
    refine rs_stD (s := (pR (pR (pN (pN s 18 x1) 19 (nI 0)) 7 (nI 0) x4) 7 (nI 1) x5)) (i := (nI 2)) (x := a2) (j := 6) dX12_looksAtShip_60 hr (by decide) rfl (by decide) ?_
    refine jg_aload_n dX12_looksAtShip_61 rfl ?_
    refine rs_ga fl_X12_40 dX12_looksAtShip_62 hr rfl ?_
    refine jg_iconst (v := nI 3) dX12_looksAtShip_65 (by decide) ?_
    refine jg_iconst (v := nI 0) dX12_looksAtShip_66 (by decide) ?_
    refine rs_stD (s := (pR (pR (pR (pN (pN s 18 x1) 19 (nI 0)) 7 (nI 0) x4) 7 (nI 1) x5) 7 (nI 2) a2)) (i := (nI 3)) (x := (nI 0)) (j := 6) dX12_looksAtShip_67 hr (by decide) rfl (by decide) ?_
    refine jg_aload_n dX12_looksAtShip_68 rfl ?_
    refine rs_ga fl_X12_40 dX12_looksAtShip_69 hr rfl ?_
    refine jg_iconst (v := nI 4) dX12_looksAtShip_72 (by decide) ?_
    refine jg_iconst (v := nI 0) dX12_looksAtShip_73 (by decide) ?_
    refine rs_stD (s := (pR (pR (pR (pR (pN (pN s 18 x1) 19 (nI 0)) 7 (nI 0) x4) 7 (nI 1) x5) 7 (nI 2) a2) 7 (nI 3) (nI 0))) (i := (nI 4)) (x := (nI 0)) (j := 6) dX12_looksAtShip_74 hr (by decide) rfl (by decide) ?_
    obtain rfl := Option.some.inj h
    exact jg_return dX12_looksAtShip_75 rfl ⟨rfl, rfl⟩
  · replace h := it_t c3 h
    refine jg_iconst (v := nI 1) dX12_looksAtShip_22 (by decide) ?_
    refine jg_goto (tgt := 27) dX12_looksAtShip_23 (by decide) ?_
    refine rs_putD (s := (pN s 18 x1)) (k := 19) (x := (nI 1)) fl_X12_361 dX12_looksAtShip_27 hr (by decide) (rfl) rfl rfl ?_
    refine jg_aload_n dX12_looksAtShip_30 rfl ?_
    refine rs_ga fl_X12_40 dX12_looksAtShip_31 hr rfl ?_
    refine jg_iconst (v := nI 0) dX12_looksAtShip_34 (by decide) ?_
    refine jg_aload_n dX12_looksAtShip_35 rfl ?_
    refine jg_iload_n dX12_looksAtShip_36 rfl ?_
    refine jg_iconst (v := nI 2) dX12_looksAtShip_37 (by decide) ?_
    obtain ⟨x6, e_x6, h⟩ := bd_some h
    refine rs_call (As := [.int a1, .int (nI 2)]) kv_X12_137 dX12_looksAtShip_38 hr rfl rfl (by decide) (Nat.le_of_ble_eq_true rfl) rfl (by decide) (Nat.le_of_ble_eq_true rfl) (t_X12_of hr (pN (pN s 18 x1) 19 (nI 1)) a1 (nI 2) e_x6) ?_
    refine rs_stD (s := (pN (pN s 18 x1) 19 (nI 1))) (i := (nI 0)) (x := x6) (j := 6) dX12_looksAtShip_41 hr (by decide) rfl (by decide) ?_
    refine jg_aload_n dX12_looksAtShip_42 rfl ?_
    refine rs_ga fl_X12_40 dX12_looksAtShip_43 hr rfl ?_
    refine jg_iconst (v := nI 1) dX12_looksAtShip_46 (by decide) ?_
    refine jg_aload_n dX12_looksAtShip_47 rfl ?_
    refine jg_iload_n dX12_looksAtShip_48 rfl ?_
    refine jg_iconst (v := nI 3) dX12_looksAtShip_49 (by decide) ?_
    obtain ⟨x7, e_x7, h⟩ := bd_some h
    refine rs_call (As := [.int a1, .int (nI 3)]) kv_X12_137 dX12_looksAtShip_50 hr rfl rfl (by decide) (Nat.le_of_ble_eq_true rfl) rfl (by decide) (Nat.le_of_ble_eq_true rfl) (t_X12_of hr (pR (pN (pN s 18 x1) 19 (nI 1)) 7 (nI 0) x6) a1 (nI 3) e_x7) ?_
    refine rs_stD (s := (pR (pN (pN s 18 x1) 19 (nI 1)) 7 (nI 0) x6)) (i := (nI 1)) (x := x7) (j := 6) dX12_looksAtShip_53 hr (by decide) rfl (by decide) ?_
    refine jg_aload_n dX12_looksAtShip_54 rfl ?_
    refine rs_ga fl_X12_40 dX12_looksAtShip_55 hr rfl ?_
    refine jg_iconst (v := nI 2) dX12_looksAtShip_58 (by decide) ?_
    refine jg_iload_n dX12_looksAtShip_59 rfl ?_
    refine rs_stD (s := (pR (pR (pN (pN s 18 x1) 19 (nI 1)) 7 (nI 0) x6) 7 (nI 1) x7)) (i := (nI 2)) (x := a2) (j := 6) dX12_looksAtShip_60 hr (by decide) rfl (by decide) ?_
    refine jg_aload_n dX12_looksAtShip_61 rfl ?_
    refine rs_ga fl_X12_40 dX12_looksAtShip_62 hr rfl ?_
    refine jg_iconst (v := nI 3) dX12_looksAtShip_65 (by decide) ?_
    refine jg_iconst (v := nI 0) dX12_looksAtShip_66 (by decide) ?_
    refine rs_stD (s := (pR (pR (pR (pN (pN s 18 x1) 19 (nI 1)) 7 (nI 0) x6) 7 (nI 1) x7) 7 (nI 2) a2)) (i := (nI 3)) (x := (nI 0)) (j := 6) dX12_looksAtShip_67 hr (by decide) rfl (by decide) ?_
    refine jg_aload_n dX12_looksAtShip_68 rfl ?_
    refine rs_ga fl_X12_40 dX12_looksAtShip_69 hr rfl ?_
    refine jg_iconst (v := nI 4) dX12_looksAtShip_72 (by decide) ?_
    refine jg_iconst (v := nI 0) dX12_looksAtShip_73 (by decide) ?_
    refine rs_stD (s := (pR (pR (pR (pR (pN (pN s 18 x1) 19 (nI 1)) 7 (nI 0) x6) 7 (nI 1) x7) 7 (nI 2) a2) 7 (nI 3) (nI 0))) (i := (nI 4)) (x := (nI 0)) (j := 6) dX12_looksAtShip_74 hr (by decide) rfl (by decide) ?_
    obtain rfl := Option.some.inj h
    exact jg_return dX12_looksAtShip_75 rfl ⟨rfl, rfl⟩
theorem dX12_holds_0 : decode cX12_holds 0 = .ok (.iload_n 1, 1) := by decide +kernel
theorem dX12_holds_1 : decode cX12_holds 1 = .ok (.invokestatic 242, 3) := by decide +kernel
theorem dX12_holds_4 : decode cX12_holds 4 = .ok (.iconst 2, 1) := by decide +kernel
theorem dX12_holds_5 : decode cX12_holds 5 = .ok (.iadd, 1) := by decide +kernel
theorem dX12_holds_6 : decode cX12_holds 6 = .ok (.iconst 4, 1) := by decide +kernel
theorem dX12_holds_7 : decode cX12_holds 7 = .ok (.iload_n 2, 1) := by decide +kernel
theorem dX12_holds_8 : decode cX12_holds 8 = .ok (.imul, 1) := by decide +kernel
theorem dX12_holds_9 : decode cX12_holds 9 = .ok (.iadd, 1) := by decide +kernel
theorem dX12_holds_10 : decode cX12_holds 10 = .ok (.istore_n 3, 1) := by decide +kernel
theorem dX12_holds_11 : decode cX12_holds 11 = .ok (.iconst 0, 1) := by decide +kernel
theorem dX12_holds_12 : decode cX12_holds 12 = .ok (.istore 4, 2) := by decide +kernel
theorem dX12_holds_14 : decode cX12_holds 14 = .ok (.aload_n 0, 1) := by decide +kernel
theorem dX12_holds_15 : decode cX12_holds 15 = .ok (.getfield 13, 3) := by decide +kernel
theorem dX12_holds_18 : decode cX12_holds 18 = .ok (.iload_n 3, 1) := by decide +kernel
theorem dX12_holds_19 : decode cX12_holds 19 = .ok (.iconst 2, 1) := by decide +kernel
theorem dX12_holds_20 : decode cX12_holds 20 = .ok (.iadd, 1) := by decide +kernel
theorem dX12_holds_21 : decode cX12_holds 21 = .ok (.iaload, 1) := by decide +kernel
theorem dX12_holds_22 : decode cX12_holds 22 = .ok (.istore 5, 2) := by decide +kernel
theorem dX12_holds_24 : decode cX12_holds 24 = .ok (.iload 5, 2) := by decide +kernel
theorem dX12_holds_26 : decode cX12_holds 26 = .ok (.aload_n 0, 1) := by decide +kernel
theorem dX12_holds_27 : decode cX12_holds 27 = .ok (.getfield 13, 3) := by decide +kernel
theorem dX12_holds_30 : decode cX12_holds 30 = .ok (.iload_n 3, 1) := by decide +kernel
theorem dX12_holds_31 : decode cX12_holds 31 = .ok (.iconst 3, 1) := by decide +kernel
theorem dX12_holds_32 : decode cX12_holds 32 = .ok (.iadd, 1) := by decide +kernel
theorem dX12_holds_33 : decode cX12_holds 33 = .ok (.iaload, 1) := by decide +kernel
theorem dX12_holds_34 : decode cX12_holds 34 = .ok (.if_icmp .ge 282, 3) := by decide +kernel
theorem dX12_holds_37 : decode cX12_holds 37 = .ok (.aload_n 0, 1) := by decide +kernel
theorem dX12_holds_38 : decode cX12_holds 38 = .ok (.getfield 13, 3) := by decide +kernel
theorem dX12_holds_41 : decode cX12_holds 41 = .ok (.iload_n 1, 1) := by decide +kernel
theorem dX12_holds_42 : decode cX12_holds 42 = .ok (.invokestatic 242, 3) := by decide +kernel
theorem dX12_holds_45 : decode cX12_holds 45 = .ok (.bipush 82, 2) := by decide +kernel
theorem dX12_holds_47 : decode cX12_holds 47 = .ok (.iadd, 1) := by decide +kernel
theorem dX12_holds_48 : decode cX12_holds 48 = .ok (.iconst 2, 1) := by decide +kernel
theorem dX12_holds_49 : decode cX12_holds 49 = .ok (.iload 5, 2) := by decide +kernel
theorem dX12_holds_51 : decode cX12_holds 51 = .ok (.imul, 1) := by decide +kernel
theorem dX12_holds_52 : decode cX12_holds 52 = .ok (.iadd, 1) := by decide +kernel
theorem dX12_holds_53 : decode cX12_holds 53 = .ok (.iaload, 1) := by decide +kernel
theorem dX12_holds_54 : decode cX12_holds 54 = .ok (.istore 6, 2) := by decide +kernel
theorem dX12_holds_56 : decode cX12_holds 56 = .ok (.aload_n 0, 1) := by decide +kernel
theorem dX12_holds_57 : decode cX12_holds 57 = .ok (.getfield 13, 3) := by decide +kernel
theorem dX12_holds_60 : decode cX12_holds 60 = .ok (.iload_n 1, 1) := by decide +kernel
theorem dX12_holds_61 : decode cX12_holds 61 = .ok (.invokestatic 242, 3) := by decide +kernel
theorem dX12_holds_64 : decode cX12_holds 64 = .ok (.bipush 82, 2) := by decide +kernel
theorem dX12_holds_66 : decode cX12_holds 66 = .ok (.iadd, 1) := by decide +kernel
theorem dX12_holds_67 : decode cX12_holds 67 = .ok (.iconst 2, 1) := by decide +kernel
theorem dX12_holds_68 : decode cX12_holds 68 = .ok (.iload 5, 2) := by decide +kernel
theorem dX12_holds_70 : decode cX12_holds 70 = .ok (.imul, 1) := by decide +kernel
theorem dX12_holds_71 : decode cX12_holds 71 = .ok (.iadd, 1) := by decide +kernel
theorem dX12_holds_72 : decode cX12_holds 72 = .ok (.iconst 1, 1) := by decide +kernel
theorem dX12_holds_73 : decode cX12_holds 73 = .ok (.iadd, 1) := by decide +kernel
theorem dX12_holds_74 : decode cX12_holds 74 = .ok (.iaload, 1) := by decide +kernel
theorem dX12_holds_75 : decode cX12_holds 75 = .ok (.istore 7, 2) := by decide +kernel
theorem dX12_holds_77 : decode cX12_holds 77 = .ok (.iload 6, 2) := by decide +kernel
theorem dX12_holds_79 : decode cX12_holds 79 = .ok (.sipush 300, 3) := by decide +kernel
theorem dX12_holds_82 : decode cX12_holds 82 = .ok (.if_icmp .ne 32, 3) := by decide +kernel
theorem dX12_holds_85 : decode cX12_holds 85 = .ok (.aload_n 0, 1) := by decide +kernel
theorem dX12_holds_86 : decode cX12_holds 86 = .ok (.getfield 36, 3) := by decide +kernel
theorem dX12_holds_89 : decode cX12_holds 89 = .ok (.iload 4, 2) := by decide +kernel
theorem dX12_holds_91 : decode cX12_holds 91 = .ok (.iconst 1, 1) := by decide +kernel
theorem dX12_holds_92 : decode cX12_holds 92 = .ok (.isub, 1) := by decide +kernel
theorem dX12_holds_93 : decode cX12_holds 93 = .ok (.aload_n 0, 1) := by decide +kernel
theorem dX12_holds_94 : decode cX12_holds 94 = .ok (.getfield 36, 3) := by decide +kernel
theorem dX12_holds_97 : decode cX12_holds 97 = .ok (.iload 4, 2) := by decide +kernel
theorem dX12_holds_99 : decode cX12_holds 99 = .ok (.iconst 1, 1) := by decide +kernel
theorem dX12_holds_100 : decode cX12_holds 100 = .ok (.isub, 1) := by decide +kernel
theorem dX12_holds_101 : decode cX12_holds 101 = .ok (.baload, 1) := by decide +kernel
theorem dX12_holds_102 : decode cX12_holds 102 = .ok (.ifCond .ne 7, 3) := by decide +kernel
theorem dX12_holds_105 : decode cX12_holds 105 = .ok (.iconst 1, 1) := by decide +kernel
theorem dX12_holds_106 : decode cX12_holds 106 = .ok (.goto 4, 3) := by decide +kernel
theorem dX12_holds_109 : decode cX12_holds 109 = .ok (.iconst 0, 1) := by decide +kernel
theorem dX12_holds_110 : decode cX12_holds 110 = .ok (.bastore, 1) := by decide +kernel
theorem dX12_holds_111 : decode cX12_holds 111 = .ok (.goto 199, 3) := by decide +kernel
theorem dX12_holds_114 : decode cX12_holds 114 = .ok (.iload 6, 2) := by decide +kernel
theorem dX12_holds_116 : decode cX12_holds 116 = .ok (.sipush 301, 3) := by decide +kernel
theorem dX12_holds_119 : decode cX12_holds 119 = .ok (.if_icmp .eq 11, 3) := by decide +kernel
theorem dX12_holds_122 : decode cX12_holds 122 = .ok (.iload 6, 2) := by decide +kernel
theorem dX12_holds_124 : decode cX12_holds 124 = .ok (.sipush 302, 3) := by decide +kernel
theorem dX12_holds_127 : decode cX12_holds 127 = .ok (.if_icmp .ne 83, 3) := by decide +kernel
theorem dX12_holds_130 : decode cX12_holds 130 = .ok (.iinc 4 (-1), 3) := by decide +kernel
theorem dX12_holds_133 : decode cX12_holds 133 = .ok (.aload_n 0, 1) := by decide +kernel
theorem dX12_holds_134 : decode cX12_holds 134 = .ok (.getfield 36, 3) := by decide +kernel
theorem dX12_holds_137 : decode cX12_holds 137 = .ok (.iload 4, 2) := by decide +kernel
theorem dX12_holds_139 : decode cX12_holds 139 = .ok (.iconst 1, 1) := by decide +kernel
theorem dX12_holds_140 : decode cX12_holds 140 = .ok (.isub, 1) := by decide +kernel
theorem dX12_holds_141 : decode cX12_holds 141 = .ok (.iload 6, 2) := by decide +kernel
theorem dX12_holds_143 : decode cX12_holds 143 = .ok (.sipush 301, 3) := by decide +kernel
theorem dX12_holds_146 : decode cX12_holds 146 = .ok (.if_icmp .ne 33, 3) := by decide +kernel
theorem dX12_holds_149 : decode cX12_holds 149 = .ok (.aload_n 0, 1) := by decide +kernel
theorem dX12_holds_150 : decode cX12_holds 150 = .ok (.getfield 36, 3) := by decide +kernel
theorem dX12_holds_153 : decode cX12_holds 153 = .ok (.iload 4, 2) := by decide +kernel
theorem dX12_holds_155 : decode cX12_holds 155 = .ok (.iconst 1, 1) := by decide +kernel
theorem dX12_holds_156 : decode cX12_holds 156 = .ok (.isub, 1) := by decide +kernel
theorem dX12_holds_157 : decode cX12_holds 157 = .ok (.baload, 1) := by decide +kernel
theorem dX12_holds_158 : decode cX12_holds 158 = .ok (.ifCond .eq 17, 3) := by decide +kernel
theorem dX12_holds_161 : decode cX12_holds 161 = .ok (.aload_n 0, 1) := by decide +kernel
theorem dX12_holds_162 : decode cX12_holds 162 = .ok (.getfield 36, 3) := by decide +kernel
theorem dX12_holds_165 : decode cX12_holds 165 = .ok (.iload 4, 2) := by decide +kernel
theorem dX12_holds_167 : decode cX12_holds 167 = .ok (.baload, 1) := by decide +kernel
theorem dX12_holds_168 : decode cX12_holds 168 = .ok (.ifCond .eq 7, 3) := by decide +kernel
theorem dX12_holds_171 : decode cX12_holds 171 = .ok (.iconst 1, 1) := by decide +kernel
theorem dX12_holds_172 : decode cX12_holds 172 = .ok (.goto 34, 3) := by decide +kernel
theorem dX12_holds_175 : decode cX12_holds 175 = .ok (.iconst 0, 1) := by decide +kernel
theorem dX12_holds_176 : decode cX12_holds 176 = .ok (.goto 30, 3) := by decide +kernel
theorem dX12_holds_179 : decode cX12_holds 179 = .ok (.aload_n 0, 1) := by decide +kernel
theorem dX12_holds_180 : decode cX12_holds 180 = .ok (.getfield 36, 3) := by decide +kernel
theorem dX12_holds_183 : decode cX12_holds 183 = .ok (.iload 4, 2) := by decide +kernel
theorem dX12_holds_185 : decode cX12_holds 185 = .ok (.iconst 1, 1) := by decide +kernel
theorem dX12_holds_186 : decode cX12_holds 186 = .ok (.isub, 1) := by decide +kernel
theorem dX12_holds_187 : decode cX12_holds 187 = .ok (.baload, 1) := by decide +kernel
theorem dX12_holds_188 : decode cX12_holds 188 = .ok (.ifCond .ne 13, 3) := by decide +kernel
theorem dX12_holds_191 : decode cX12_holds 191 = .ok (.aload_n 0, 1) := by decide +kernel
theorem dX12_holds_192 : decode cX12_holds 192 = .ok (.getfield 36, 3) := by decide +kernel
theorem dX12_holds_195 : decode cX12_holds 195 = .ok (.iload 4, 2) := by decide +kernel
theorem dX12_holds_197 : decode cX12_holds 197 = .ok (.baload, 1) := by decide +kernel
theorem dX12_holds_198 : decode cX12_holds 198 = .ok (.ifCond .eq 7, 3) := by decide +kernel
theorem dX12_holds_201 : decode cX12_holds 201 = .ok (.iconst 1, 1) := by decide +kernel
theorem dX12_holds_202 : decode cX12_holds 202 = .ok (.goto 4, 3) := by decide +kernel
theorem dX12_holds_205 : decode cX12_holds 205 = .ok (.iconst 0, 1) := by decide +kernel
theorem dX12_holds_206 : decode cX12_holds 206 = .ok (.bastore, 1) := by decide +kernel
theorem dX12_holds_207 : decode cX12_holds 207 = .ok (.goto 103, 3) := by decide +kernel
theorem dX12_holds_210 : decode cX12_holds 210 = .ok (.aload_n 0, 1) := by decide +kernel
theorem dX12_holds_211 : decode cX12_holds 211 = .ok (.getfield 36, 3) := by decide +kernel
theorem dX12_holds_214 : decode cX12_holds 214 = .ok (.iload 4, 2) := by decide +kernel
theorem dX12_holds_216 : decode cX12_holds 216 = .ok (.iload 6, 2) := by decide +kernel
theorem dX12_holds_218 : decode cX12_holds 218 = .ok (.bipush 7, 2) := by decide +kernel
theorem dX12_holds_220 : decode cX12_holds 220 = .ok (.if_icmp .ge 34, 3) := by decide +kernel
theorem dX12_holds_223 : decode cX12_holds 223 = .ok (.iload 6, 2) := by decide +kernel
theorem dX12_holds_225 : decode cX12_holds 225 = .ok (.bipush 6, 2) := by decide +kernel
theorem dX12_holds_227 : decode cX12_holds 227 = .ok (.if_icmp .ne 10, 3) := by decide +kernel
theorem dX12_holds_230 : decode cX12_holds 230 = .ok (.aload_n 0, 1) := by decide +kernel
theorem dX12_holds_231 : decode cX12_holds 231 = .ok (.getfield 361, 3) := by decide +kernel
theorem dX12_holds_234 : decode cX12_holds 234 = .ok (.goto 72, 3) := by decide +kernel
theorem dX12_holds_237 : decode cX12_holds 237 = .ok (.aload_n 0, 1) := by decide +kernel
theorem dX12_holds_238 : decode cX12_holds 238 = .ok (.getfield 359, 3) := by decide +kernel
theorem dX12_holds_241 : decode cX12_holds 241 = .ok (.iload 6, 2) := by decide +kernel
theorem dX12_holds_243 : decode cX12_holds 243 = .ok (.if_icmp .ne 7, 3) := by decide +kernel
theorem dX12_holds_246 : decode cX12_holds 246 = .ok (.iconst 1, 1) := by decide +kernel
theorem dX12_holds_247 : decode cX12_holds 247 = .ok (.goto 59, 3) := by decide +kernel
theorem dX12_holds_250 : decode cX12_holds 250 = .ok (.iconst 0, 1) := by decide +kernel
theorem dX12_holds_251 : decode cX12_holds 251 = .ok (.goto 55, 3) := by decide +kernel
theorem dX12_holds_254 : decode cX12_holds 254 = .ok (.iload 6, 2) := by decide +kernel
theorem dX12_holds_256 : decode cX12_holds 256 = .ok (.sipush 200, 3) := by decide +kernel
theorem dX12_holds_259 : decode cX12_holds 259 = .ok (.if_icmp .ge 26, 3) := by decide +kernel
theorem dX12_holds_262 : decode cX12_holds 262 = .ok (.aload_n 0, 1) := by decide +kernel
theorem dX12_holds_263 : decode cX12_holds 263 = .ok (.getfield 40, 3) := by decide +kernel
theorem dX12_holds_266 : decode cX12_holds 266 = .ok (.iload 6, 2) := by decide +kernel
theorem dX12_holds_268 : decode cX12_holds 268 = .ok (.bipush 100, 2) := by decide +kernel
theorem dX12_holds_270 : decode cX12_holds 270 = .ok (.isub, 1) := by decide +kernel
theorem dX12_holds_271 : decode cX12_holds 271 = .ok (.iaload, 1) := by decide +kernel
theorem dX12_holds_272 : decode cX12_holds 272 = .ok (.iload 7, 2) := by decide +kernel
theorem dX12_holds_274 : decode cX12_holds 274 = .ok (.if_icmp .ge 7, 3) := by decide +kernel
theorem dX12_holds_277 : decode cX12_holds 277 = .ok (.iconst 1, 1) := by decide +kernel
theorem dX12_holds_278 : decode cX12_holds 278 = .ok (.goto 28, 3) := by decide +kernel
theorem dX12_holds_281 : decode cX12_holds 281 = .ok (.iconst 0, 1) := by decide +kernel
theorem dX12_holds_282 : decode cX12_holds 282 = .ok (.goto 24, 3) := by decide +kernel
theorem dX12_holds_285 : decode cX12_holds 285 = .ok (.aload_n 0, 1) := by decide +kernel
theorem dX12_holds_286 : decode cX12_holds 286 = .ok (.getfield 40, 3) := by decide +kernel
theorem dX12_holds_289 : decode cX12_holds 289 = .ok (.iload 6, 2) := by decide +kernel
theorem dX12_holds_291 : decode cX12_holds 291 = .ok (.sipush 200, 3) := by decide +kernel
theorem dX12_holds_294 : decode cX12_holds 294 = .ok (.isub, 1) := by decide +kernel
theorem dX12_holds_295 : decode cX12_holds 295 = .ok (.iaload, 1) := by decide +kernel
theorem dX12_holds_296 : decode cX12_holds 296 = .ok (.iload 7, 2) := by decide +kernel
theorem dX12_holds_298 : decode cX12_holds 298 = .ok (.if_icmp .le 7, 3) := by decide +kernel
theorem dX12_holds_301 : decode cX12_holds 301 = .ok (.iconst 1, 1) := by decide +kernel
theorem dX12_holds_302 : decode cX12_holds 302 = .ok (.goto 4, 3) := by decide +kernel
theorem dX12_holds_305 : decode cX12_holds 305 = .ok (.iconst 0, 1) := by decide +kernel
theorem dX12_holds_306 : decode cX12_holds 306 = .ok (.bastore, 1) := by decide +kernel
theorem dX12_holds_307 : decode cX12_holds 307 = .ok (.iinc 4 1, 3) := by decide +kernel
theorem dX12_holds_310 : decode cX12_holds 310 = .ok (.iinc 5 1, 3) := by decide +kernel
theorem dX12_holds_313 : decode cX12_holds 313 = .ok (.goto (-289), 3) := by decide +kernel
theorem dX12_holds_316 : decode cX12_holds 316 = .ok (.iload 4, 2) := by decide +kernel
theorem dX12_holds_318 : decode cX12_holds 318 = .ok (.ifCond .eq 12, 3) := by decide +kernel
theorem dX12_holds_321 : decode cX12_holds 321 = .ok (.aload_n 0, 1) := by decide +kernel
theorem dX12_holds_322 : decode cX12_holds 322 = .ok (.getfield 36, 3) := by decide +kernel
theorem dX12_holds_325 : decode cX12_holds 325 = .ok (.iconst 0, 1) := by decide +kernel
theorem dX12_holds_326 : decode cX12_holds 326 = .ok (.baload, 1) := by decide +kernel
theorem dX12_holds_327 : decode cX12_holds 327 = .ok (.ifCond .eq 7, 3) := by decide +kernel
theorem dX12_holds_330 : decode cX12_holds 330 = .ok (.iconst 1, 1) := by decide +kernel
theorem dX12_holds_331 : decode cX12_holds 331 = .ok (.goto 4, 3) := by decide +kernel
theorem dX12_holds_334 : decode cX12_holds 334 = .ok (.iconst 0, 1) := by decide +kernel
theorem dX12_holds_335 : decode cX12_holds 335 = .ok (.ireturn, 1) := by decide +kernel
noncomputable def o_X12_holds_24 (F : Nat) (l1 : Int32) (l3 : Int32)  : Nat → Int32 → Int32 → rs_S → Option (Int32 × rs_S)
  | 0, _, _, _ => none
  | f + 1, l4, l5, s => if iL (l3 + (nI 3)) 22216 then (if (gW s (l3 + (nI 3))) ≤ l5 then (some (l4, s)) else ((o_X12_actAt s l1).bind fun x5 => (if iL ((x5 + (nI 82)) + ((nI 2) * l5)) 22216 then ((o_X12_actAt s l1).bind fun x7 => (if iL (((x7 + (nI 82)) + ((nI 2) * l5)) + (nI 1)) 22216 then (if (gW s ((x5 + (nI 82)) + ((nI 2) * l5))) = (nI 300) then (if iL (l4 - (nI 1)) 400 then (if (gR s 6 (l4 - (nI 1))) = 0 then (o_X12_holds_24 F l1 l3 f l4 (l5 + nI 1) (pR s 6 (l4 - (nI 1)) (vp_nar .boolean (nI 1)))) else (o_X12_holds_24 F l1 l3 f l4 (l5 + nI 1) (pR s 6 (l4 - (nI 1)) (vp_nar .boolean (nI 0))))) else none) else (if (gW s ((x5 + (nI 82)) + ((nI 2) * l5))) = (nI 301) then (if (gW s ((x5 + (nI 82)) + ((nI 2) * l5))) = (nI 301) then (if iL ((l4 + (-1)) - (nI 1)) 400 then (if (gR s 6 ((l4 + (-1)) - (nI 1))) = 0 then (o_X12_holds_24 F l1 l3 f (l4 + (-1)) (l5 + nI 1) (pR s 6 ((l4 + (-1)) - (nI 1)) (vp_nar .boolean (nI 0)))) else (if iL (l4 + (-1)) 400 then (if (gR s 6 (l4 + (-1))) = 0 then (o_X12_holds_24 F l1 l3 f (l4 + (-1)) (l5 + nI 1) (pR s 6 ((l4 + (-1)) - (nI 1)) (vp_nar .boolean (nI 0)))) else (o_X12_holds_24 F l1 l3 f (l4 + (-1)) (l5 + nI 1) (pR s 6 ((l4 + (-1)) - (nI 1)) (vp_nar .boolean (nI 1))))) else none)) else none) else (if iL ((l4 + (-1)) - (nI 1)) 400 then (if (gR s 6 ((l4 + (-1)) - (nI 1))) = 0 then (if iL (l4 + (-1)) 400 then (if (gR s 6 (l4 + (-1))) = 0 then (o_X12_holds_24 F l1 l3 f (l4 + (-1)) (l5 + nI 1) (pR s 6 ((l4 + (-1)) - (nI 1)) (vp_nar .boolean (nI 0)))) else (o_X12_holds_24 F l1 l3 f (l4 + (-1)) (l5 + nI 1) (pR s 6 ((l4 + (-1)) - (nI 1)) (vp_nar .boolean (nI 1))))) else none) else (o_X12_holds_24 F l1 l3 f (l4 + (-1)) (l5 + nI 1) (pR s 6 ((l4 + (-1)) - (nI 1)) (vp_nar .boolean (nI 1))))) else none)) else (if (gW s ((x5 + (nI 82)) + ((nI 2) * l5))) = (nI 302) then (if (gW s ((x5 + (nI 82)) + ((nI 2) * l5))) = (nI 301) then (if iL ((l4 + (-1)) - (nI 1)) 400 then (if (gR s 6 ((l4 + (-1)) - (nI 1))) = 0 then (o_X12_holds_24 F l1 l3 f (l4 + (-1)) (l5 + nI 1) (pR s 6 ((l4 + (-1)) - (nI 1)) (vp_nar .boolean (nI 0)))) else (if iL (l4 + (-1)) 400 then (if (gR s 6 (l4 + (-1))) = 0 then (o_X12_holds_24 F l1 l3 f (l4 + (-1)) (l5 + nI 1) (pR s 6 ((l4 + (-1)) - (nI 1)) (vp_nar .boolean (nI 0)))) else (o_X12_holds_24 F l1 l3 f (l4 + (-1)) (l5 + nI 1) (pR s 6 ((l4 + (-1)) - (nI 1)) (vp_nar .boolean (nI 1))))) else none)) else none) else (if iL ((l4 + (-1)) - (nI 1)) 400 then (if (gR s 6 ((l4 + (-1)) - (nI 1))) = 0 then (if iL (l4 + (-1)) 400 then (if (gR s 6 (l4 + (-1))) = 0 then (o_X12_holds_24 F l1 l3 f (l4 + (-1)) (l5 + nI 1) (pR s 6 ((l4 + (-1)) - (nI 1)) (vp_nar .boolean (nI 0)))) else (o_X12_holds_24 F l1 l3 f (l4 + (-1)) (l5 + nI 1) (pR s 6 ((l4 + (-1)) - (nI 1)) (vp_nar .boolean (nI 1))))) else none) else (o_X12_holds_24 F l1 l3 f (l4 + (-1)) (l5 + nI 1) (pR s 6 ((l4 + (-1)) - (nI 1)) (vp_nar .boolean (nI 1))))) else none)) else (if (nI 7) ≤ (gW s ((x5 + (nI 82)) + ((nI 2) * l5))) then (if (nI 200) ≤ (gW s ((x5 + (nI 82)) + ((nI 2) * l5))) then (if iL ((gW s ((x5 + (nI 82)) + ((nI 2) * l5))) - (nI 200)) 5 then (if (gR s 7 ((gW s ((x5 + (nI 82)) + ((nI 2) * l5))) - (nI 200))) ≤ (gW s (((x7 + (nI 82)) + ((nI 2) * l5)) + (nI 1))) then (if iL l4 400 then (o_X12_holds_24 F l1 l3 f (l4 + nI 1) (l5 + nI 1) (pR s 6 l4 (vp_nar .boolean (nI 0)))) else none) else (if iL l4 400 then (o_X12_holds_24 F l1 l3 f (l4 + nI 1) (l5 + nI 1) (pR s 6 l4 (vp_nar .boolean (nI 1)))) else none)) else none) else (if iL ((gW s ((x5 + (nI 82)) + ((nI 2) * l5))) - (nI 100)) 5 then (if (gW s (((x7 + (nI 82)) + ((nI 2) * l5)) + (nI 1))) ≤ (gR s 7 ((gW s ((x5 + (nI 82)) + ((nI 2) * l5))) - (nI 100))) then (if iL l4 400 then (o_X12_holds_24 F l1 l3 f (l4 + nI 1) (l5 + nI 1) (pR s 6 l4 (vp_nar .boolean (nI 0)))) else none) else (if iL l4 400 then (o_X12_holds_24 F l1 l3 f (l4 + nI 1) (l5 + nI 1) (pR s 6 l4 (vp_nar .boolean (nI 1)))) else none)) else none)) else (if (gW s ((x5 + (nI 82)) + ((nI 2) * l5))) = (nI 6) then (if iL l4 400 then (o_X12_holds_24 F l1 l3 f (l4 + nI 1) (l5 + nI 1) (pR s 6 l4 (vp_nar .boolean (s.1 19)))) else none) else (if (s.1 18) = (gW s ((x5 + (nI 82)) + ((nI 2) * l5))) then (if iL l4 400 then (o_X12_holds_24 F l1 l3 f (l4 + nI 1) (l5 + nI 1) (pR s 6 l4 (vp_nar .boolean (nI 1)))) else none) else (if iL l4 400 then (o_X12_holds_24 F l1 l3 f (l4 + nI 1) (l5 + nI 1) (pR s 6 l4 (vp_nar .boolean (nI 0)))) else none))))))) else none)) else none))) else none
set_option maxHeartbeats 4000000 in
theorem t_X12_holds_24 {Γ : jg_G} {g : Nat → jg_C} {n r : Nat} (hr : r + 11 ≤ n) (F : Nat) (l1 : Int32) (l3 : Int32)   (Q : jg_Q) {x : Int32 × rs_S} (K1 : jg Γ mX12_holds 1 0 0 316 [some (.ref r), none, none, none, some (.int x.1), none, none, none] [] (rs_h g r x.2, n) Q)  : ∀ (f : Nat) (l4 : Int32) (l5 : Int32) (s : rs_S), o_X12_holds_24 F l1 l3 f l4 l5 s = some x → jg Γ mX12_holds 1 0 0 24 [some (.ref r), some (.int l1), none, some (.int l3), some (.int l4), some (.int l5), none, none] [] (rs_h g r s, n) Q := by
  intro f
  induction f with
  | zero => intro l4 l5 s h; rw [o_X12_holds_24] at h; cases h
  | succ f ih =>
   intro l4 l5 s h
   rw [o_X12_holds_24] at h
   refine jg_iload dX12_holds_24 rfl ?_
   refine jg_aload_n dX12_holds_26 rfl ?_
   refine rs_ga fl_X12_13 dX12_holds_27 hr rfl ?_
   refine jg_iload_n dX12_holds_30 rfl ?_
   refine jg_iconst (v := nI 3) dX12_holds_31 (by decide) ?_
   refine jg_iadd (x := l3) (y := (nI 3)) dX12_holds_32  ?_
   obtain ⟨q3, h⟩ := gd_some h
   refine rs_lwD (s := s) (i := (l3 + (nI 3))) dX12_holds_33 hr q3 ?_
   refine jg_icmp_ge (x := l5) (y := (gW s (l3 + (nI 3)))) (tgt := 316) dX12_holds_34 (by decide) (fun c4 => ?_) (fun c4 => ?_)
   · replace h := it_t c4 h
     refine jg_fg (L' := [some (.ref r), none, none, none, some (.int l4), none, none, none]) (by repeat (first | exact trivial | refine ⟨rfl, ?_⟩ | show jg_le _ _)) ?_
     obtain rfl := Option.some.inj h
     exact K1
   · replace h := it_f c4 h
     refine jg_aload_n dX12_holds_37 rfl ?_
     refine rs_ga fl_X12_13 dX12_holds_38 hr rfl ?_
     refine jg_iload_n dX12_holds_41 rfl ?_
     obtain ⟨x5, e_x5, h⟩ := bd_some h
     refine rs_callS (As := [.int l1]) ks_X12_242 dX12_holds_42 rfl (by decide) (Nat.le_of_ble_eq_true rfl) rfl (by decide) (Nat.le_of_ble_eq_true rfl) (t_X12_actAt hr s l1 e_x5) ?_
     refine jg_bipush (v := nI 82) dX12_holds_45 (by decide) ?_
     refine jg_iadd (x := x5) (y := (nI 82)) dX12_holds_47  ?_
     refine jg_iconst (v := nI 2) dX12_holds_48 (by decide) ?_
     refine jg_iload dX12_holds_49 rfl ?_
     refine jg_imul (x := (nI 2)) (y := l5) dX12_holds_51  ?_
     refine jg_iadd (x := (x5 + (nI 82))) (y := ((nI 2) * l5)) dX12_holds_52  ?_
     obtain ⟨q6, h⟩ := gd_some h
     refine rs_lwD (s := s) (i := ((x5 + (nI 82)) + ((nI 2) * l5))) dX12_holds_53 hr q6 ?_
     refine jg_istore (L' := [some (.ref r), some (.int l1), none, some (.int l3), some (.int l4), some (.int l5), some (.int (gW s ((x5 + (nI 82)) + ((nI 2) * l5)))), none]) dX12_holds_54 (by decide) rfl ?_
     refine jg_aload_n dX12_holds_56 rfl ?_
     refine rs_ga fl_X12_13 dX12_holds_57 hr rfl ?_
     refine jg_iload_n dX12_holds_60 rfl ?_
     obtain ⟨x7, e_x7, h⟩ := bd_some h
     refine rs_callS (As := [.int l1]) ks_X12_242 dX12_holds_61 rfl (by decide) (Nat.le_of_ble_eq_true rfl) rfl (by decide) (Nat.le_of_ble_eq_true rfl) (t_X12_actAt hr s l1 e_x7) ?_
     refine jg_bipush (v := nI 82) dX12_holds_64 (by decide) ?_
     refine jg_iadd (x := x7) (y := (nI 82)) dX12_holds_66  ?_
     refine jg_iconst (v := nI 2) dX12_holds_67 (by decide) ?_
     refine jg_iload dX12_holds_68 rfl ?_
     refine jg_imul (x := (nI 2)) (y := l5) dX12_holds_70  ?_
     refine jg_iadd (x := (x7 + (nI 82))) (y := ((nI 2) * l5)) dX12_holds_71  ?_
     refine jg_iconst (v := nI 1) dX12_holds_72 (by decide) ?_
     refine jg_iadd (x := ((x7 + (nI 82)) + ((nI 2) * l5))) (y := (nI 1)) dX12_holds_73  ?_
     obtain ⟨q8, h⟩ := gd_some h
     refine rs_lwD (s := s) (i := (((x7 + (nI 82)) + ((nI 2) * l5)) + (nI 1))) dX12_holds_74 hr q8 ?_
     refine jg_istore (L' := [some (.ref r), some (.int l1), none, some (.int l3), some (.int l4), some (.int l5), some (.int (gW s ((x5 + (nI 82)) + ((nI 2) * l5)))), some (.int (gW s (((x7 + (nI 82)) + ((nI 2) * l5)) + (nI 1))))]) dX12_holds_75 (by decide) rfl ?_
     refine jg_iload dX12_holds_77 rfl ?_
     refine jg_sipush (v := nI 300) dX12_holds_79 (by decide) ?_
     refine jg_icmp_ne (x := (gW s ((x5 + (nI 82)) + ((nI 2) * l5)))) (y := (nI 300)) (tgt := 114) dX12_holds_82 (by decide) (fun c9 => ?_) (fun c9 => ?_)
     · replace h := it_f c9 h
       refine jg_iload dX12_holds_114 rfl ?_
       refine jg_sipush (v := nI 301) dX12_holds_116 (by decide) ?_
       refine jg_icmp_eq (x := (gW s ((x5 + (nI 82)) + ((nI 2) * l5)))) (y := (nI 301)) (tgt := 130) dX12_holds_119 (by decide) (fun c10 => ?_) (fun c10 => ?_)
       · replace h := it_t c10 h
         refine jg_iinc (x := l4) (v := l4 + (-1)) (L' := [some (.ref r), some (.int l1), none, some (.int l3), some (.int (l4 + (-1))), some (.int l5), some (.int (gW s ((x5 + (nI 82)) + ((nI 2) * l5)))), some (.int (gW s (((x7 + (nI 82)) + ((nI 2) * l5)) + (nI 1))))]) dX12_holds_130 rfl (ic_k _ (by decide)) (by decide) rfl ?_
         refine jg_aload_n dX12_holds_133 rfl ?_
         refine rs_ga fl_X12_36 dX12_holds_134 hr rfl ?_
         refine jg_iload dX12_holds_137 rfl ?_
         refine jg_iconst (v := nI 1) dX12_holds_139 (by decide) ?_
         refine jg_isub (x := (l4 + (-1))) (y := (nI 1)) dX12_holds_140  ?_
         refine jg_iload dX12_holds_141 rfl ?_
         refine jg_sipush (v := nI 301) dX12_holds_143 (by decide) ?_
         refine jg_icmp_ne (x := (gW s ((x5 + (nI 82)) + ((nI 2) * l5)))) (y := (nI 301)) (tgt := 179) dX12_holds_146 (by decide) (fun c11 => ?_) (fun c11 => ?_)
         · replace h := it_f c11 h
           refine jg_aload_n dX12_holds_179 rfl ?_
           refine rs_ga fl_X12_36 dX12_holds_180 hr rfl ?_
           refine jg_iload dX12_holds_183 rfl ?_
           refine jg_iconst (v := nI 1) dX12_holds_185 (by decide) ?_
           refine jg_isub (x := (l4 + (-1))) (y := (nI 1)) dX12_holds_186  ?_
           obtain ⟨q12, h⟩ := gd_some h
           refine rs_lzD (s := s) (i := ((l4 + (-1)) - (nI 1))) (j := 5) dX12_holds_187 hr (by decide) rfl q12 ?_
           refine jg_if_ne (x := (gR s 6 ((l4 + (-1)) - (nI 1)))) (tgt := 201) dX12_holds_188 (by decide) (fun c13 => ?_) (fun c13 => ?_)
           · replace h := it_f c13 h
             refine jg_iconst (v := nI 1) dX12_holds_201 (by decide) ?_
             refine jg_goto (tgt := 206) dX12_holds_202 (by decide) ?_
             refine rs_szD (s := s) (i := ((l4 + (-1)) - (nI 1))) (x := (nI 1)) (j := 5) dX12_holds_206 hr (by decide) rfl q12 ?_
             refine jg_goto (tgt := 310) dX12_holds_207 (by decide) ?_
             refine jg_iinc (x := l5) (v := l5 + nI 1) (L' := [some (.ref r), some (.int l1), none, some (.int l3), some (.int (l4 + (-1))), some (.int (l5 + nI 1)), some (.int (gW s ((x5 + (nI 82)) + ((nI 2) * l5)))), some (.int (gW s (((x7 + (nI 82)) + ((nI 2) * l5)) + (nI 1))))]) dX12_holds_310 rfl (ic_k _ (by decide)) (by decide) rfl ?_
             refine jg_goto (tgt := 24) dX12_holds_313 (by decide) ?_
             refine jg_fg (L' := [some (.ref r), some (.int l1), none, some (.int l3), some (.int (l4 + (-1))), some (.int (l5 + nI 1)), none, none]) (by repeat (first | exact trivial | refine ⟨rfl, ?_⟩ | show jg_le _ _)) ?_
             exact ih (l4 + (-1)) (l5 + nI 1) (pR s 6 ((l4 + (-1)) - (nI 1)) (vp_nar .boolean (nI 1))) h
           · replace h := it_t c13 h
             refine jg_aload_n dX12_holds_191 rfl ?_
             refine rs_ga fl_X12_36 dX12_holds_192 hr rfl ?_
             refine jg_iload dX12_holds_195 rfl ?_
             obtain ⟨q14, h⟩ := gd_some h
             refine rs_lzD (s := s) (i := (l4 + (-1))) (j := 5) dX12_holds_197 hr (by decide) rfl q14 ?_
             refine jg_if_eq (x := (gR s 6 (l4 + (-1)))) (tgt := 205) dX12_holds_198 (by decide) (fun c15 => ?_) (fun c15 => ?_)
             · replace h := it_t c15 h
               refine jg_iconst (v := nI 0) dX12_holds_205 (by decide) ?_
               refine rs_szD (s := s) (i := ((l4 + (-1)) - (nI 1))) (x := (nI 0)) (j := 5) dX12_holds_206 hr (by decide) rfl q12 ?_
               refine jg_goto (tgt := 310) dX12_holds_207 (by decide) ?_
               refine jg_iinc (x := l5) (v := l5 + nI 1) (L' := [some (.ref r), some (.int l1), none, some (.int l3), some (.int (l4 + (-1))), some (.int (l5 + nI 1)), some (.int (gW s ((x5 + (nI 82)) + ((nI 2) * l5)))), some (.int (gW s (((x7 + (nI 82)) + ((nI 2) * l5)) + (nI 1))))]) dX12_holds_310 rfl (ic_k _ (by decide)) (by decide) rfl ?_
               refine jg_goto (tgt := 24) dX12_holds_313 (by decide) ?_
               refine jg_fg (L' := [some (.ref r), some (.int l1), none, some (.int l3), some (.int (l4 + (-1))), some (.int (l5 + nI 1)), none, none]) (by repeat (first | exact trivial | refine ⟨rfl, ?_⟩ | show jg_le _ _)) ?_
               exact ih (l4 + (-1)) (l5 + nI 1) (pR s 6 ((l4 + (-1)) - (nI 1)) (vp_nar .boolean (nI 0))) h
             · replace h := it_f c15 h
               refine jg_iconst (v := nI 1) dX12_holds_201 (by decide) ?_
               refine jg_goto (tgt := 206) dX12_holds_202 (by decide) ?_
               refine rs_szD (s := s) (i := ((l4 + (-1)) - (nI 1))) (x := (nI 1)) (j := 5) dX12_holds_206 hr (by decide) rfl q12 ?_
               refine jg_goto (tgt := 310) dX12_holds_207 (by decide) ?_
               refine jg_iinc (x := l5) (v := l5 + nI 1) (L' := [some (.ref r), some (.int l1), none, some (.int l3), some (.int (l4 + (-1))), some (.int (l5 + nI 1)), some (.int (gW s ((x5 + (nI 82)) + ((nI 2) * l5)))), some (.int (gW s (((x7 + (nI 82)) + ((nI 2) * l5)) + (nI 1))))]) dX12_holds_310 rfl (ic_k _ (by decide)) (by decide) rfl ?_
               refine jg_goto (tgt := 24) dX12_holds_313 (by decide) ?_
               refine jg_fg (L' := [some (.ref r), some (.int l1), none, some (.int l3), some (.int (l4 + (-1))), some (.int (l5 + nI 1)), none, none]) (by repeat (first | exact trivial | refine ⟨rfl, ?_⟩ | show jg_le _ _)) ?_
               exact ih (l4 + (-1)) (l5 + nI 1) (pR s 6 ((l4 + (-1)) - (nI 1)) (vp_nar .boolean (nI 1))) h
         · replace h := it_t c11 h
           refine jg_aload_n dX12_holds_149 rfl ?_
           refine rs_ga fl_X12_36 dX12_holds_150 hr rfl ?_
           refine jg_iload dX12_holds_153 rfl ?_
           refine jg_iconst (v := nI 1) dX12_holds_155 (by decide) ?_
           refine jg_isub (x := (l4 + (-1))) (y := (nI 1)) dX12_holds_156  ?_
           obtain ⟨q16, h⟩ := gd_some h
           refine rs_lzD (s := s) (i := ((l4 + (-1)) - (nI 1))) (j := 5) dX12_holds_157 hr (by decide) rfl q16 ?_
           refine jg_if_eq (x := (gR s 6 ((l4 + (-1)) - (nI 1)))) (tgt := 175) dX12_holds_158 (by decide) (fun c17 => ?_) (fun c17 => ?_)
           · replace h := it_t c17 h
             refine jg_iconst (v := nI 0) dX12_holds_175 (by decide) ?_
             refine jg_goto (tgt := 206) dX12_holds_176 (by decide) ?_
             refine rs_szD (s := s) (i := ((l4 + (-1)) - (nI 1))) (x := (nI 0)) (j := 5) dX12_holds_206 hr (by decide) rfl q16 ?_
             refine jg_goto (tgt := 310) dX12_holds_207 (by decide) ?_
             refine jg_iinc (x := l5) (v := l5 + nI 1) (L' := [some (.ref r), some (.int l1), none, some (.int l3), some (.int (l4 + (-1))), some (.int (l5 + nI 1)), some (.int (gW s ((x5 + (nI 82)) + ((nI 2) * l5)))), some (.int (gW s (((x7 + (nI 82)) + ((nI 2) * l5)) + (nI 1))))]) dX12_holds_310 rfl (ic_k _ (by decide)) (by decide) rfl ?_
             refine jg_goto (tgt := 24) dX12_holds_313 (by decide) ?_
             refine jg_fg (L' := [some (.ref r), some (.int l1), none, some (.int l3), some (.int (l4 + (-1))), some (.int (l5 + nI 1)), none, none]) (by repeat (first | exact trivial | refine ⟨rfl, ?_⟩ | show jg_le _ _)) ?_
             exact ih (l4 + (-1)) (l5 + nI 1) (pR s 6 ((l4 + (-1)) - (nI 1)) (vp_nar .boolean (nI 0))) h
           · replace h := it_f c17 h
             refine jg_aload_n dX12_holds_161 rfl ?_
             refine rs_ga fl_X12_36 dX12_holds_162 hr rfl ?_
             refine jg_iload dX12_holds_165 rfl ?_
             obtain ⟨q18, h⟩ := gd_some h
             refine rs_lzD (s := s) (i := (l4 + (-1))) (j := 5) dX12_holds_167 hr (by decide) rfl q18 ?_
             refine jg_if_eq (x := (gR s 6 (l4 + (-1)))) (tgt := 175) dX12_holds_168 (by decide) (fun c19 => ?_) (fun c19 => ?_)
             · replace h := it_t c19 h
               refine jg_iconst (v := nI 0) dX12_holds_175 (by decide) ?_
               refine jg_goto (tgt := 206) dX12_holds_176 (by decide) ?_
               refine rs_szD (s := s) (i := ((l4 + (-1)) - (nI 1))) (x := (nI 0)) (j := 5) dX12_holds_206 hr (by decide) rfl q16 ?_
               refine jg_goto (tgt := 310) dX12_holds_207 (by decide) ?_
               refine jg_iinc (x := l5) (v := l5 + nI 1) (L' := [some (.ref r), some (.int l1), none, some (.int l3), some (.int (l4 + (-1))), some (.int (l5 + nI 1)), some (.int (gW s ((x5 + (nI 82)) + ((nI 2) * l5)))), some (.int (gW s (((x7 + (nI 82)) + ((nI 2) * l5)) + (nI 1))))]) dX12_holds_310 rfl (ic_k _ (by decide)) (by decide) rfl ?_
               refine jg_goto (tgt := 24) dX12_holds_313 (by decide) ?_
               refine jg_fg (L' := [some (.ref r), some (.int l1), none, some (.int l3), some (.int (l4 + (-1))), some (.int (l5 + nI 1)), none, none]) (by repeat (first | exact trivial | refine ⟨rfl, ?_⟩ | show jg_le _ _)) ?_
               exact ih (l4 + (-1)) (l5 + nI 1) (pR s 6 ((l4 + (-1)) - (nI 1)) (vp_nar .boolean (nI 0))) h
             · replace h := it_f c19 h
               refine jg_iconst (v := nI 1) dX12_holds_171 (by decide) ?_
               refine jg_goto (tgt := 206) dX12_holds_172 (by decide) ?_
               refine rs_szD (s := s) (i := ((l4 + (-1)) - (nI 1))) (x := (nI 1)) (j := 5) dX12_holds_206 hr (by decide) rfl q16 ?_
               refine jg_goto (tgt := 310) dX12_holds_207 (by decide) ?_
               refine jg_iinc (x := l5) (v := l5 + nI 1) (L' := [some (.ref r), some (.int l1), none, some (.int l3), some (.int (l4 + (-1))), some (.int (l5 + nI 1)), some (.int (gW s ((x5 + (nI 82)) + ((nI 2) * l5)))), some (.int (gW s (((x7 + (nI 82)) + ((nI 2) * l5)) + (nI 1))))]) dX12_holds_310 rfl (ic_k _ (by decide)) (by decide) rfl ?_
               refine jg_goto (tgt := 24) dX12_holds_313 (by decide) ?_
               refine jg_fg (L' := [some (.ref r), some (.int l1), none, some (.int l3), some (.int (l4 + (-1))), some (.int (l5 + nI 1)), none, none]) (by repeat (first | exact trivial | refine ⟨rfl, ?_⟩ | show jg_le _ _)) ?_
               exact ih (l4 + (-1)) (l5 + nI 1) (pR s 6 ((l4 + (-1)) - (nI 1)) (vp_nar .boolean (nI 1))) h
       · replace h := it_f c10 h
         refine jg_iload dX12_holds_122 rfl ?_
         refine jg_sipush (v := nI 302) dX12_holds_124 (by decide) ?_
         refine jg_icmp_ne (x := (gW s ((x5 + (nI 82)) + ((nI 2) * l5)))) (y := (nI 302)) (tgt := 210) dX12_holds_127 (by decide) (fun c20 => ?_) (fun c20 => ?_)
         · replace h := it_f c20 h
           refine jg_aload_n dX12_holds_210 rfl ?_
           refine rs_ga fl_X12_36 dX12_holds_211 hr rfl ?_
           refine jg_iload dX12_holds_214 rfl ?_
           refine jg_iload dX12_holds_216 rfl ?_
           refine jg_bipush (v := nI 7) dX12_holds_218 (by decide) ?_
           refine jg_icmp_ge (x := (gW s ((x5 + (nI 82)) + ((nI 2) * l5)))) (y := (nI 7)) (tgt := 254) dX12_holds_220 (by decide) (fun c21 => ?_) (fun c21 => ?_)
           · replace h := it_t c21 h
             refine jg_iload dX12_holds_254 rfl ?_
             refine jg_sipush (v := nI 200) dX12_holds_256 (by decide) ?_
             refine jg_icmp_ge (x := (gW s ((x5 + (nI 82)) + ((nI 2) * l5)))) (y := (nI 200)) (tgt := 285) dX12_holds_259 (by decide) (fun c22 => ?_) (fun c22 => ?_)
             · replace h := it_t c22 h
               refine jg_aload_n dX12_holds_285 rfl ?_
               refine rs_ga fl_X12_40 dX12_holds_286 hr rfl ?_
               refine jg_iload dX12_holds_289 rfl ?_
               refine jg_sipush (v := nI 200) dX12_holds_291 (by decide) ?_
               refine jg_isub (x := (gW s ((x5 + (nI 82)) + ((nI 2) * l5)))) (y := (nI 200)) dX12_holds_294  ?_
               obtain ⟨q23, h⟩ := gd_some h
               refine rs_ldD (s := s) (i := ((gW s ((x5 + (nI 82)) + ((nI 2) * l5))) - (nI 200))) (j := 6) dX12_holds_295 hr (by decide) rfl q23 ?_
               refine jg_iload dX12_holds_296 rfl ?_
               refine jg_icmp_le (x := (gR s 7 ((gW s ((x5 + (nI 82)) + ((nI 2) * l5))) - (nI 200)))) (y := (gW s (((x7 + (nI 82)) + ((nI 2) * l5)) + (nI 1)))) (tgt := 305) dX12_holds_298 (by decide) (fun c24 => ?_) (fun c24 => ?_)
               · replace h := it_t c24 h
                 refine jg_iconst (v := nI 0) dX12_holds_305 (by decide) ?_
                 obtain ⟨q25, h⟩ := gd_some h
                 refine rs_szD (s := s) (i := l4) (x := (nI 0)) (j := 5) dX12_holds_306 hr (by decide) rfl q25 ?_
                 refine jg_iinc (x := l4) (v := l4 + nI 1) (L' := [some (.ref r), some (.int l1), none, some (.int l3), some (.int (l4 + nI 1)), some (.int l5), some (.int (gW s ((x5 + (nI 82)) + ((nI 2) * l5)))), some (.int (gW s (((x7 + (nI 82)) + ((nI 2) * l5)) + (nI 1))))]) dX12_holds_307 rfl (ic_k _ (by decide)) (by decide) rfl ?_
                 refine jg_iinc (x := l5) (v := l5 + nI 1) (L' := [some (.ref r), some (.int l1), none, some (.int l3), some (.int (l4 + nI 1)), some (.int (l5 + nI 1)), some (.int (gW s ((x5 + (nI 82)) + ((nI 2) * l5)))), some (.int (gW s (((x7 + (nI 82)) + ((nI 2) * l5)) + (nI 1))))]) dX12_holds_310 rfl (ic_k _ (by decide)) (by decide) rfl ?_
                 refine jg_goto (tgt := 24) dX12_holds_313 (by decide) ?_
                 refine jg_fg (L' := [some (.ref r), some (.int l1), none, some (.int l3), some (.int (l4 + nI 1)), some (.int (l5 + nI 1)), none, none]) (by repeat (first | exact trivial | refine ⟨rfl, ?_⟩ | show jg_le _ _)) ?_
                 exact ih (l4 + nI 1) (l5 + nI 1) (pR s 6 l4 (vp_nar .boolean (nI 0))) h
               · replace h := it_f c24 h
                 refine jg_iconst (v := nI 1) dX12_holds_301 (by decide) ?_
                 refine jg_goto (tgt := 306) dX12_holds_302 (by decide) ?_
                 obtain ⟨q26, h⟩ := gd_some h
                 refine rs_szD (s := s) (i := l4) (x := (nI 1)) (j := 5) dX12_holds_306 hr (by decide) rfl q26 ?_
                 refine jg_iinc (x := l4) (v := l4 + nI 1) (L' := [some (.ref r), some (.int l1), none, some (.int l3), some (.int (l4 + nI 1)), some (.int l5), some (.int (gW s ((x5 + (nI 82)) + ((nI 2) * l5)))), some (.int (gW s (((x7 + (nI 82)) + ((nI 2) * l5)) + (nI 1))))]) dX12_holds_307 rfl (ic_k _ (by decide)) (by decide) rfl ?_
                 refine jg_iinc (x := l5) (v := l5 + nI 1) (L' := [some (.ref r), some (.int l1), none, some (.int l3), some (.int (l4 + nI 1)), some (.int (l5 + nI 1)), some (.int (gW s ((x5 + (nI 82)) + ((nI 2) * l5)))), some (.int (gW s (((x7 + (nI 82)) + ((nI 2) * l5)) + (nI 1))))]) dX12_holds_310 rfl (ic_k _ (by decide)) (by decide) rfl ?_
                 refine jg_goto (tgt := 24) dX12_holds_313 (by decide) ?_
                 refine jg_fg (L' := [some (.ref r), some (.int l1), none, some (.int l3), some (.int (l4 + nI 1)), some (.int (l5 + nI 1)), none, none]) (by repeat (first | exact trivial | refine ⟨rfl, ?_⟩ | show jg_le _ _)) ?_
                 exact ih (l4 + nI 1) (l5 + nI 1) (pR s 6 l4 (vp_nar .boolean (nI 1))) h
             · replace h := it_f c22 h
               refine jg_aload_n dX12_holds_262 rfl ?_
               refine rs_ga fl_X12_40 dX12_holds_263 hr rfl ?_
               refine jg_iload dX12_holds_266 rfl ?_
               refine jg_bipush (v := nI 100) dX12_holds_268 (by decide) ?_
               refine jg_isub (x := (gW s ((x5 + (nI 82)) + ((nI 2) * l5)))) (y := (nI 100)) dX12_holds_270  ?_
               obtain ⟨q27, h⟩ := gd_some h
               refine rs_ldD (s := s) (i := ((gW s ((x5 + (nI 82)) + ((nI 2) * l5))) - (nI 100))) (j := 6) dX12_holds_271 hr (by decide) rfl q27 ?_
               refine jg_iload dX12_holds_272 rfl ?_
               refine jg_icmp_ge (x := (gR s 7 ((gW s ((x5 + (nI 82)) + ((nI 2) * l5))) - (nI 100)))) (y := (gW s (((x7 + (nI 82)) + ((nI 2) * l5)) + (nI 1)))) (tgt := 281) dX12_holds_274 (by decide) (fun c28 => ?_) (fun c28 => ?_)
               · replace h := it_t c28 h
                 refine jg_iconst (v := nI 0) dX12_holds_281 (by decide) ?_
                 refine jg_goto (tgt := 306) dX12_holds_282 (by decide) ?_
                 obtain ⟨q29, h⟩ := gd_some h
                 refine rs_szD (s := s) (i := l4) (x := (nI 0)) (j := 5) dX12_holds_306 hr (by decide) rfl q29 ?_
                 refine jg_iinc (x := l4) (v := l4 + nI 1) (L' := [some (.ref r), some (.int l1), none, some (.int l3), some (.int (l4 + nI 1)), some (.int l5), some (.int (gW s ((x5 + (nI 82)) + ((nI 2) * l5)))), some (.int (gW s (((x7 + (nI 82)) + ((nI 2) * l5)) + (nI 1))))]) dX12_holds_307 rfl (ic_k _ (by decide)) (by decide) rfl ?_
                 refine jg_iinc (x := l5) (v := l5 + nI 1) (L' := [some (.ref r), some (.int l1), none, some (.int l3), some (.int (l4 + nI 1)), some (.int (l5 + nI 1)), some (.int (gW s ((x5 + (nI 82)) + ((nI 2) * l5)))), some (.int (gW s (((x7 + (nI 82)) + ((nI 2) * l5)) + (nI 1))))]) dX12_holds_310 rfl (ic_k _ (by decide)) (by decide) rfl ?_
                 refine jg_goto (tgt := 24) dX12_holds_313 (by decide) ?_
                 refine jg_fg (L' := [some (.ref r), some (.int l1), none, some (.int l3), some (.int (l4 + nI 1)), some (.int (l5 + nI 1)), none, none]) (by repeat (first | exact trivial | refine ⟨rfl, ?_⟩ | show jg_le _ _)) ?_
                 exact ih (l4 + nI 1) (l5 + nI 1) (pR s 6 l4 (vp_nar .boolean (nI 0))) h
               · replace h := it_f c28 h
                 refine jg_iconst (v := nI 1) dX12_holds_277 (by decide) ?_
                 refine jg_goto (tgt := 306) dX12_holds_278 (by decide) ?_
                 obtain ⟨q30, h⟩ := gd_some h
                 refine rs_szD (s := s) (i := l4) (x := (nI 1)) (j := 5) dX12_holds_306 hr (by decide) rfl q30 ?_
                 refine jg_iinc (x := l4) (v := l4 + nI 1) (L' := [some (.ref r), some (.int l1), none, some (.int l3), some (.int (l4 + nI 1)), some (.int l5), some (.int (gW s ((x5 + (nI 82)) + ((nI 2) * l5)))), some (.int (gW s (((x7 + (nI 82)) + ((nI 2) * l5)) + (nI 1))))]) dX12_holds_307 rfl (ic_k _ (by decide)) (by decide) rfl ?_
                 refine jg_iinc (x := l5) (v := l5 + nI 1) (L' := [some (.ref r), some (.int l1), none, some (.int l3), some (.int (l4 + nI 1)), some (.int (l5 + nI 1)), some (.int (gW s ((x5 + (nI 82)) + ((nI 2) * l5)))), some (.int (gW s (((x7 + (nI 82)) + ((nI 2) * l5)) + (nI 1))))]) dX12_holds_310 rfl (ic_k _ (by decide)) (by decide) rfl ?_
                 refine jg_goto (tgt := 24) dX12_holds_313 (by decide) ?_
                 refine jg_fg (L' := [some (.ref r), some (.int l1), none, some (.int l3), some (.int (l4 + nI 1)), some (.int (l5 + nI 1)), none, none]) (by repeat (first | exact trivial | refine ⟨rfl, ?_⟩ | show jg_le _ _)) ?_
                 exact ih (l4 + nI 1) (l5 + nI 1) (pR s 6 l4 (vp_nar .boolean (nI 1))) h
           · replace h := it_f c21 h
             refine jg_iload dX12_holds_223 rfl ?_
             refine jg_bipush (v := nI 6) dX12_holds_225 (by decide) ?_
             refine jg_icmp_ne (x := (gW s ((x5 + (nI 82)) + ((nI 2) * l5)))) (y := (nI 6)) (tgt := 237) dX12_holds_227 (by decide) (fun c31 => ?_) (fun c31 => ?_)
             · replace h := it_f c31 h
               refine jg_aload_n dX12_holds_237 rfl ?_
               refine rs_ga fl_X12_359 dX12_holds_238 hr rfl ?_
               refine jg_iload dX12_holds_241 rfl ?_
               refine jg_icmp_ne (x := (s.1 18)) (y := (gW s ((x5 + (nI 82)) + ((nI 2) * l5)))) (tgt := 250) dX12_holds_243 (by decide) (fun c32 => ?_) (fun c32 => ?_)
               · replace h := it_f c32 h
                 refine jg_iconst (v := nI 0) dX12_holds_250 (by decide) ?_
                 refine jg_goto (tgt := 306) dX12_holds_251 (by decide) ?_
                 obtain ⟨q33, h⟩ := gd_some h
                 refine rs_szD (s := s) (i := l4) (x := (nI 0)) (j := 5) dX12_holds_306 hr (by decide) rfl q33 ?_
                 refine jg_iinc (x := l4) (v := l4 + nI 1) (L' := [some (.ref r), some (.int l1), none, some (.int l3), some (.int (l4 + nI 1)), some (.int l5), some (.int (gW s ((x5 + (nI 82)) + ((nI 2) * l5)))), some (.int (gW s (((x7 + (nI 82)) + ((nI 2) * l5)) + (nI 1))))]) dX12_holds_307 rfl (ic_k _ (by decide)) (by decide) rfl ?_
                 refine jg_iinc (x := l5) (v := l5 + nI 1) (L' := [some (.ref r), some (.int l1), none, some (.int l3), some (.int (l4 + nI 1)), some (.int (l5 + nI 1)), some (.int (gW s ((x5 + (nI 82)) + ((nI 2) * l5)))), some (.int (gW s (((x7 + (nI 82)) + ((nI 2) * l5)) + (nI 1))))]) dX12_holds_310 rfl (ic_k _ (by decide)) (by decide) rfl ?_
                 refine jg_goto (tgt := 24) dX12_holds_313 (by decide) ?_
                 refine jg_fg (L' := [some (.ref r), some (.int l1), none, some (.int l3), some (.int (l4 + nI 1)), some (.int (l5 + nI 1)), none, none]) (by repeat (first | exact trivial | refine ⟨rfl, ?_⟩ | show jg_le _ _)) ?_
                 exact ih (l4 + nI 1) (l5 + nI 1) (pR s 6 l4 (vp_nar .boolean (nI 0))) h
               · replace h := it_t c32 h
                 refine jg_iconst (v := nI 1) dX12_holds_246 (by decide) ?_
                 refine jg_goto (tgt := 306) dX12_holds_247 (by decide) ?_
                 obtain ⟨q34, h⟩ := gd_some h
                 refine rs_szD (s := s) (i := l4) (x := (nI 1)) (j := 5) dX12_holds_306 hr (by decide) rfl q34 ?_
                 refine jg_iinc (x := l4) (v := l4 + nI 1) (L' := [some (.ref r), some (.int l1), none, some (.int l3), some (.int (l4 + nI 1)), some (.int l5), some (.int (gW s ((x5 + (nI 82)) + ((nI 2) * l5)))), some (.int (gW s (((x7 + (nI 82)) + ((nI 2) * l5)) + (nI 1))))]) dX12_holds_307 rfl (ic_k _ (by decide)) (by decide) rfl ?_
                 refine jg_iinc (x := l5) (v := l5 + nI 1) (L' := [some (.ref r), some (.int l1), none, some (.int l3), some (.int (l4 + nI 1)), some (.int (l5 + nI 1)), some (.int (gW s ((x5 + (nI 82)) + ((nI 2) * l5)))), some (.int (gW s (((x7 + (nI 82)) + ((nI 2) * l5)) + (nI 1))))]) dX12_holds_310 rfl (ic_k _ (by decide)) (by decide) rfl ?_
                 refine jg_goto (tgt := 24) dX12_holds_313 (by decide) ?_
                 refine jg_fg (L' := [some (.ref r), some (.int l1), none, some (.int l3), some (.int (l4 + nI 1)), some (.int (l5 + nI 1)), none, none]) (by repeat (first | exact trivial | refine ⟨rfl, ?_⟩ | show jg_le _ _)) ?_
                 exact ih (l4 + nI 1) (l5 + nI 1) (pR s 6 l4 (vp_nar .boolean (nI 1))) h
             · replace h := it_t c31 h
               refine jg_aload_n dX12_holds_230 rfl ?_
               refine rs_ga fl_X12_361 dX12_holds_231 hr rfl ?_
               refine jg_goto (tgt := 306) dX12_holds_234 (by decide) ?_
               obtain ⟨q35, h⟩ := gd_some h
               refine rs_szD (s := s) (i := l4) (x := (s.1 19)) (j := 5) dX12_holds_306 hr (by decide) rfl q35 ?_
               refine jg_iinc (x := l4) (v := l4 + nI 1) (L' := [some (.ref r), some (.int l1), none, some (.int l3), some (.int (l4 + nI 1)), some (.int l5), some (.int (gW s ((x5 + (nI 82)) + ((nI 2) * l5)))), some (.int (gW s (((x7 + (nI 82)) + ((nI 2) * l5)) + (nI 1))))]) dX12_holds_307 rfl (ic_k _ (by decide)) (by decide) rfl ?_
               refine jg_iinc (x := l5) (v := l5 + nI 1) (L' := [some (.ref r), some (.int l1), none, some (.int l3), some (.int (l4 + nI 1)), some (.int (l5 + nI 1)), some (.int (gW s ((x5 + (nI 82)) + ((nI 2) * l5)))), some (.int (gW s (((x7 + (nI 82)) + ((nI 2) * l5)) + (nI 1))))]) dX12_holds_310 rfl (ic_k _ (by decide)) (by decide) rfl ?_
               refine jg_goto (tgt := 24) dX12_holds_313 (by decide) ?_
               refine jg_fg (L' := [some (.ref r), some (.int l1), none, some (.int l3), some (.int (l4 + nI 1)), some (.int (l5 + nI 1)), none, none]) (by repeat (first | exact trivial | refine ⟨rfl, ?_⟩ | show jg_le _ _)) ?_
               exact ih (l4 + nI 1) (l5 + nI 1) (pR s 6 l4 (vp_nar .boolean (s.1 19))) h
         · replace h := it_t c20 h
           refine jg_iinc (x := l4) (v := l4 + (-1)) (L' := [some (.ref r), some (.int l1), none, some (.int l3), some (.int (l4 + (-1))), some (.int l5), some (.int (gW s ((x5 + (nI 82)) + ((nI 2) * l5)))), some (.int (gW s (((x7 + (nI 82)) + ((nI 2) * l5)) + (nI 1))))]) dX12_holds_130 rfl (ic_k _ (by decide)) (by decide) rfl ?_
           refine jg_aload_n dX12_holds_133 rfl ?_
           refine rs_ga fl_X12_36 dX12_holds_134 hr rfl ?_
           refine jg_iload dX12_holds_137 rfl ?_
           refine jg_iconst (v := nI 1) dX12_holds_139 (by decide) ?_
           refine jg_isub (x := (l4 + (-1))) (y := (nI 1)) dX12_holds_140  ?_
           refine jg_iload dX12_holds_141 rfl ?_
           refine jg_sipush (v := nI 301) dX12_holds_143 (by decide) ?_
           refine jg_icmp_ne (x := (gW s ((x5 + (nI 82)) + ((nI 2) * l5)))) (y := (nI 301)) (tgt := 179) dX12_holds_146 (by decide) (fun c36 => ?_) (fun c36 => ?_)
           · replace h := it_f c36 h
             refine jg_aload_n dX12_holds_179 rfl ?_
             refine rs_ga fl_X12_36 dX12_holds_180 hr rfl ?_
             refine jg_iload dX12_holds_183 rfl ?_
             refine jg_iconst (v := nI 1) dX12_holds_185 (by decide) ?_
             refine jg_isub (x := (l4 + (-1))) (y := (nI 1)) dX12_holds_186  ?_
             obtain ⟨q37, h⟩ := gd_some h
             refine rs_lzD (s := s) (i := ((l4 + (-1)) - (nI 1))) (j := 5) dX12_holds_187 hr (by decide) rfl q37 ?_
             refine jg_if_ne (x := (gR s 6 ((l4 + (-1)) - (nI 1)))) (tgt := 201) dX12_holds_188 (by decide) (fun c38 => ?_) (fun c38 => ?_)
             · replace h := it_f c38 h
               refine jg_iconst (v := nI 1) dX12_holds_201 (by decide) ?_
               refine jg_goto (tgt := 206) dX12_holds_202 (by decide) ?_
               refine rs_szD (s := s) (i := ((l4 + (-1)) - (nI 1))) (x := (nI 1)) (j := 5) dX12_holds_206 hr (by decide) rfl q37 ?_
               refine jg_goto (tgt := 310) dX12_holds_207 (by decide) ?_
               refine jg_iinc (x := l5) (v := l5 + nI 1) (L' := [some (.ref r), some (.int l1), none, some (.int l3), some (.int (l4 + (-1))), some (.int (l5 + nI 1)), some (.int (gW s ((x5 + (nI 82)) + ((nI 2) * l5)))), some (.int (gW s (((x7 + (nI 82)) + ((nI 2) * l5)) + (nI 1))))]) dX12_holds_310 rfl (ic_k _ (by decide)) (by decide) rfl ?_
               refine jg_goto (tgt := 24) dX12_holds_313 (by decide) ?_
               refine jg_fg (L' := [some (.ref r), some (.int l1), none, some (.int l3), some (.int (l4 + (-1))), some (.int (l5 + nI 1)), none, none]) (by repeat (first | exact trivial | refine ⟨rfl, ?_⟩ | show jg_le _ _)) ?_
               exact ih (l4 + (-1)) (l5 + nI 1) (pR s 6 ((l4 + (-1)) - (nI 1)) (vp_nar .boolean (nI 1))) h
             · replace h := it_t c38 h
               refine jg_aload_n dX12_holds_191 rfl ?_
               refine rs_ga fl_X12_36 dX12_holds_192 hr rfl ?_
               refine jg_iload dX12_holds_195 rfl ?_
               obtain ⟨q39, h⟩ := gd_some h
               refine rs_lzD (s := s) (i := (l4 + (-1))) (j := 5) dX12_holds_197 hr (by decide) rfl q39 ?_
               refine jg_if_eq (x := (gR s 6 (l4 + (-1)))) (tgt := 205) dX12_holds_198 (by decide) (fun c40 => ?_) (fun c40 => ?_)
               · replace h := it_t c40 h
                 refine jg_iconst (v := nI 0) dX12_holds_205 (by decide) ?_
                 refine rs_szD (s := s) (i := ((l4 + (-1)) - (nI 1))) (x := (nI 0)) (j := 5) dX12_holds_206 hr (by decide) rfl q37 ?_
                 refine jg_goto (tgt := 310) dX12_holds_207 (by decide) ?_
                 refine jg_iinc (x := l5) (v := l5 + nI 1) (L' := [some (.ref r), some (.int l1), none, some (.int l3), some (.int (l4 + (-1))), some (.int (l5 + nI 1)), some (.int (gW s ((x5 + (nI 82)) + ((nI 2) * l5)))), some (.int (gW s (((x7 + (nI 82)) + ((nI 2) * l5)) + (nI 1))))]) dX12_holds_310 rfl (ic_k _ (by decide)) (by decide) rfl ?_
                 refine jg_goto (tgt := 24) dX12_holds_313 (by decide) ?_
                 refine jg_fg (L' := [some (.ref r), some (.int l1), none, some (.int l3), some (.int (l4 + (-1))), some (.int (l5 + nI 1)), none, none]) (by repeat (first | exact trivial | refine ⟨rfl, ?_⟩ | show jg_le _ _)) ?_
                 exact ih (l4 + (-1)) (l5 + nI 1) (pR s 6 ((l4 + (-1)) - (nI 1)) (vp_nar .boolean (nI 0))) h
               · replace h := it_f c40 h
                 refine jg_iconst (v := nI 1) dX12_holds_201 (by decide) ?_
                 refine jg_goto (tgt := 206) dX12_holds_202 (by decide) ?_
                 refine rs_szD (s := s) (i := ((l4 + (-1)) - (nI 1))) (x := (nI 1)) (j := 5) dX12_holds_206 hr (by decide) rfl q37 ?_
                 refine jg_goto (tgt := 310) dX12_holds_207 (by decide) ?_
                 refine jg_iinc (x := l5) (v := l5 + nI 1) (L' := [some (.ref r), some (.int l1), none, some (.int l3), some (.int (l4 + (-1))), some (.int (l5 + nI 1)), some (.int (gW s ((x5 + (nI 82)) + ((nI 2) * l5)))), some (.int (gW s (((x7 + (nI 82)) + ((nI 2) * l5)) + (nI 1))))]) dX12_holds_310 rfl (ic_k _ (by decide)) (by decide) rfl ?_
                 refine jg_goto (tgt := 24) dX12_holds_313 (by decide) ?_
                 refine jg_fg (L' := [some (.ref r), some (.int l1), none, some (.int l3), some (.int (l4 + (-1))), some (.int (l5 + nI 1)), none, none]) (by repeat (first | exact trivial | refine ⟨rfl, ?_⟩ | show jg_le _ _)) ?_
                 exact ih (l4 + (-1)) (l5 + nI 1) (pR s 6 ((l4 + (-1)) - (nI 1)) (vp_nar .boolean (nI 1))) h
           · replace h := it_t c36 h
             refine jg_aload_n dX12_holds_149 rfl ?_
             refine rs_ga fl_X12_36 dX12_holds_150 hr rfl ?_
             refine jg_iload dX12_holds_153 rfl ?_
             refine jg_iconst (v := nI 1) dX12_holds_155 (by decide) ?_
             refine jg_isub (x := (l4 + (-1))) (y := (nI 1)) dX12_holds_156  ?_
             obtain ⟨q41, h⟩ := gd_some h
             refine rs_lzD (s := s) (i := ((l4 + (-1)) - (nI 1))) (j := 5) dX12_holds_157 hr (by decide) rfl q41 ?_
             refine jg_if_eq (x := (gR s 6 ((l4 + (-1)) - (nI 1)))) (tgt := 175) dX12_holds_158 (by decide) (fun c42 => ?_) (fun c42 => ?_)
             · replace h := it_t c42 h
               refine jg_iconst (v := nI 0) dX12_holds_175 (by decide) ?_
               refine jg_goto (tgt := 206) dX12_holds_176 (by decide) ?_
               refine rs_szD (s := s) (i := ((l4 + (-1)) - (nI 1))) (x := (nI 0)) (j := 5) dX12_holds_206 hr (by decide) rfl q41 ?_
               refine jg_goto (tgt := 310) dX12_holds_207 (by decide) ?_
               refine jg_iinc (x := l5) (v := l5 + nI 1) (L' := [some (.ref r), some (.int l1), none, some (.int l3), some (.int (l4 + (-1))), some (.int (l5 + nI 1)), some (.int (gW s ((x5 + (nI 82)) + ((nI 2) * l5)))), some (.int (gW s (((x7 + (nI 82)) + ((nI 2) * l5)) + (nI 1))))]) dX12_holds_310 rfl (ic_k _ (by decide)) (by decide) rfl ?_
               refine jg_goto (tgt := 24) dX12_holds_313 (by decide) ?_
               refine jg_fg (L' := [some (.ref r), some (.int l1), none, some (.int l3), some (.int (l4 + (-1))), some (.int (l5 + nI 1)), none, none]) (by repeat (first | exact trivial | refine ⟨rfl, ?_⟩ | show jg_le _ _)) ?_
               exact ih (l4 + (-1)) (l5 + nI 1) (pR s 6 ((l4 + (-1)) - (nI 1)) (vp_nar .boolean (nI 0))) h
             · replace h := it_f c42 h
               refine jg_aload_n dX12_holds_161 rfl ?_
               refine rs_ga fl_X12_36 dX12_holds_162 hr rfl ?_
               refine jg_iload dX12_holds_165 rfl ?_
               obtain ⟨q43, h⟩ := gd_some h
               refine rs_lzD (s := s) (i := (l4 + (-1))) (j := 5) dX12_holds_167 hr (by decide) rfl q43 ?_
               refine jg_if_eq (x := (gR s 6 (l4 + (-1)))) (tgt := 175) dX12_holds_168 (by decide) (fun c44 => ?_) (fun c44 => ?_)
               · replace h := it_t c44 h
                 refine jg_iconst (v := nI 0) dX12_holds_175 (by decide) ?_
                 refine jg_goto (tgt := 206) dX12_holds_176 (by decide) ?_
                 refine rs_szD (s := s) (i := ((l4 + (-1)) - (nI 1))) (x := (nI 0)) (j := 5) dX12_holds_206 hr (by decide) rfl q41 ?_
                 refine jg_goto (tgt := 310) dX12_holds_207 (by decide) ?_
                 refine jg_iinc (x := l5) (v := l5 + nI 1) (L' := [some (.ref r), some (.int l1), none, some (.int l3), some (.int (l4 + (-1))), some (.int (l5 + nI 1)), some (.int (gW s ((x5 + (nI 82)) + ((nI 2) * l5)))), some (.int (gW s (((x7 + (nI 82)) + ((nI 2) * l5)) + (nI 1))))]) dX12_holds_310 rfl (ic_k _ (by decide)) (by decide) rfl ?_
                 refine jg_goto (tgt := 24) dX12_holds_313 (by decide) ?_
                 refine jg_fg (L' := [some (.ref r), some (.int l1), none, some (.int l3), some (.int (l4 + (-1))), some (.int (l5 + nI 1)), none, none]) (by repeat (first | exact trivial | refine ⟨rfl, ?_⟩ | show jg_le _ _)) ?_
                 exact ih (l4 + (-1)) (l5 + nI 1) (pR s 6 ((l4 + (-1)) - (nI 1)) (vp_nar .boolean (nI 0))) h
               · replace h := it_f c44 h
                 refine jg_iconst (v := nI 1) dX12_holds_171 (by decide) ?_
                 refine jg_goto (tgt := 206) dX12_holds_172 (by decide) ?_
                 refine rs_szD (s := s) (i := ((l4 + (-1)) - (nI 1))) (x := (nI 1)) (j := 5) dX12_holds_206 hr (by decide) rfl q41 ?_
                 refine jg_goto (tgt := 310) dX12_holds_207 (by decide) ?_
                 refine jg_iinc (x := l5) (v := l5 + nI 1) (L' := [some (.ref r), some (.int l1), none, some (.int l3), some (.int (l4 + (-1))), some (.int (l5 + nI 1)), some (.int (gW s ((x5 + (nI 82)) + ((nI 2) * l5)))), some (.int (gW s (((x7 + (nI 82)) + ((nI 2) * l5)) + (nI 1))))]) dX12_holds_310 rfl (ic_k _ (by decide)) (by decide) rfl ?_
                 refine jg_goto (tgt := 24) dX12_holds_313 (by decide) ?_
                 refine jg_fg (L' := [some (.ref r), some (.int l1), none, some (.int l3), some (.int (l4 + (-1))), some (.int (l5 + nI 1)), none, none]) (by repeat (first | exact trivial | refine ⟨rfl, ?_⟩ | show jg_le _ _)) ?_
                 exact ih (l4 + (-1)) (l5 + nI 1) (pR s 6 ((l4 + (-1)) - (nI 1)) (vp_nar .boolean (nI 1))) h
     · replace h := it_t c9 h
       refine jg_aload_n dX12_holds_85 rfl ?_
       refine rs_ga fl_X12_36 dX12_holds_86 hr rfl ?_
       refine jg_iload dX12_holds_89 rfl ?_
       refine jg_iconst (v := nI 1) dX12_holds_91 (by decide) ?_
       refine jg_isub (x := l4) (y := (nI 1)) dX12_holds_92  ?_
       refine jg_aload_n dX12_holds_93 rfl ?_
       refine rs_ga fl_X12_36 dX12_holds_94 hr rfl ?_
       refine jg_iload dX12_holds_97 rfl ?_
       refine jg_iconst (v := nI 1) dX12_holds_99 (by decide) ?_
       refine jg_isub (x := l4) (y := (nI 1)) dX12_holds_100  ?_
       obtain ⟨q45, h⟩ := gd_some h
       refine rs_lzD (s := s) (i := (l4 - (nI 1))) (j := 5) dX12_holds_101 hr (by decide) rfl q45 ?_
       refine jg_if_ne (x := (gR s 6 (l4 - (nI 1)))) (tgt := 109) dX12_holds_102 (by decide) (fun c46 => ?_) (fun c46 => ?_)
       · replace h := it_f c46 h
         refine jg_iconst (v := nI 0) dX12_holds_109 (by decide) ?_
         refine rs_szD (s := s) (i := (l4 - (nI 1))) (x := (nI 0)) (j := 5) dX12_holds_110 hr (by decide) rfl q45 ?_
         refine jg_goto (tgt := 310) dX12_holds_111 (by decide) ?_
         refine jg_iinc (x := l5) (v := l5 + nI 1) (L' := [some (.ref r), some (.int l1), none, some (.int l3), some (.int l4), some (.int (l5 + nI 1)), some (.int (gW s ((x5 + (nI 82)) + ((nI 2) * l5)))), some (.int (gW s (((x7 + (nI 82)) + ((nI 2) * l5)) + (nI 1))))]) dX12_holds_310 rfl (ic_k _ (by decide)) (by decide) rfl ?_
         refine jg_goto (tgt := 24) dX12_holds_313 (by decide) ?_
         refine jg_fg (L' := [some (.ref r), some (.int l1), none, some (.int l3), some (.int l4), some (.int (l5 + nI 1)), none, none]) (by repeat (first | exact trivial | refine ⟨rfl, ?_⟩ | show jg_le _ _)) ?_
         exact ih l4 (l5 + nI 1) (pR s 6 (l4 - (nI 1)) (vp_nar .boolean (nI 0))) h
       · replace h := it_t c46 h
         refine jg_iconst (v := nI 1) dX12_holds_105 (by decide) ?_
         refine jg_goto (tgt := 110) dX12_holds_106 (by decide) ?_
         refine rs_szD (s := s) (i := (l4 - (nI 1))) (x := (nI 1)) (j := 5) dX12_holds_110 hr (by decide) rfl q45 ?_
         refine jg_goto (tgt := 310) dX12_holds_111 (by decide) ?_
         refine jg_iinc (x := l5) (v := l5 + nI 1) (L' := [some (.ref r), some (.int l1), none, some (.int l3), some (.int l4), some (.int (l5 + nI 1)), some (.int (gW s ((x5 + (nI 82)) + ((nI 2) * l5)))), some (.int (gW s (((x7 + (nI 82)) + ((nI 2) * l5)) + (nI 1))))]) dX12_holds_310 rfl (ic_k _ (by decide)) (by decide) rfl ?_
         refine jg_goto (tgt := 24) dX12_holds_313 (by decide) ?_
         refine jg_fg (L' := [some (.ref r), some (.int l1), none, some (.int l3), some (.int l4), some (.int (l5 + nI 1)), none, none]) (by repeat (first | exact trivial | refine ⟨rfl, ?_⟩ | show jg_le _ _)) ?_
         exact ih l4 (l5 + nI 1) (pR s 6 (l4 - (nI 1)) (vp_nar .boolean (nI 1))) h
noncomputable def o_X12_holds (F : Nat) (s : rs_S) (a1 : Int32) (a2 : Int32) : Option (Int32 × rs_S) := (o_X12_actAt s a1).bind fun x1 => (if iL (((x1 + (nI 2)) + ((nI 4) * a2)) + (nI 2)) 22216 then ((o_X12_holds_24 F a1 ((x1 + (nI 2)) + ((nI 4) * a2)) F (nI 0) (gW s (((x1 + (nI 2)) + ((nI 4) * a2)) + (nI 2))) s).bind fun x47 => (if x47.1 = 0 then (some (nI 1, x47.2)) else (if (gR x47.2 6 (nI 0)) = 0 then (some (nI 0, x47.2)) else (some (nI 1, x47.2))))) else none)
set_option maxHeartbeats 4000000 in
theorem t_X12_holds {Γ : jg_G} {g : Nat → jg_C} {n r : Nat} (hr : r + 11 ≤ n) (F : Nat) (s : rs_S) (a1 : Int32) (a2 : Int32)  {x : Int32 × rs_S} (h : o_X12_holds F s a1 a2 = some x) : jc Γ mX12_holds 1 0 0 [some (.ref r), some (.int a1), some (.int a2), none, none, none, none, none] (rs_h g r s, n) (.inl (some (.int x.1))) (rs_h g r x.2, n) := by
  refine jc_of ?_
  rw [o_X12_holds] at h
  refine jg_iload_n dX12_holds_0 rfl ?_
  obtain ⟨x1, e_x1, h⟩ := bd_some h
  refine rs_callS (As := [.int a1]) ks_X12_242 dX12_holds_1 rfl (by decide) (Nat.le_of_ble_eq_true rfl) rfl (by decide) (Nat.le_of_ble_eq_true rfl) (t_X12_actAt hr s a1 e_x1) ?_
  refine jg_iconst (v := nI 2) dX12_holds_4 (by decide) ?_
  refine jg_iadd (x := x1) (y := (nI 2)) dX12_holds_5  ?_
  refine jg_iconst (v := nI 4) dX12_holds_6 (by decide) ?_
  refine jg_iload_n dX12_holds_7 rfl ?_
  refine jg_imul (x := (nI 4)) (y := a2) dX12_holds_8  ?_
  refine jg_iadd (x := (x1 + (nI 2))) (y := ((nI 4) * a2)) dX12_holds_9  ?_
  refine jg_istore_n (L' := [some (.ref r), some (.int a1), some (.int a2), some (.int ((x1 + (nI 2)) + ((nI 4) * a2))), none, none, none, none]) dX12_holds_10 (by decide) rfl ?_
  refine jg_iconst (v := nI 0) dX12_holds_11 (by decide) ?_
  refine jg_istore (L' := [some (.ref r), some (.int a1), some (.int a2), some (.int ((x1 + (nI 2)) + ((nI 4) * a2))), some (.int (nI 0)), none, none, none]) dX12_holds_12 (by decide) rfl ?_
  refine jg_aload_n dX12_holds_14 rfl ?_
  refine rs_ga fl_X12_13 dX12_holds_15 hr rfl ?_
  refine jg_iload_n dX12_holds_18 rfl ?_
  refine jg_iconst (v := nI 2) dX12_holds_19 (by decide) ?_
  refine jg_iadd (x := ((x1 + (nI 2)) + ((nI 4) * a2))) (y := (nI 2)) dX12_holds_20  ?_
  obtain ⟨q2, h⟩ := gd_some h
  refine rs_lwD (s := s) (i := (((x1 + (nI 2)) + ((nI 4) * a2)) + (nI 2))) dX12_holds_21 hr q2 ?_
  refine jg_istore (L' := [some (.ref r), some (.int a1), some (.int a2), some (.int ((x1 + (nI 2)) + ((nI 4) * a2))), some (.int (nI 0)), some (.int (gW s (((x1 + (nI 2)) + ((nI 4) * a2)) + (nI 2)))), none, none]) dX12_holds_22 (by decide) rfl ?_
  obtain ⟨x47, e_x47, h⟩ := bd_some h
  refine jg_fg (L' := [some (.ref r), some (.int a1), none, some (.int ((x1 + (nI 2)) + ((nI 4) * a2))), some (.int (nI 0)), some (.int (gW s (((x1 + (nI 2)) + ((nI 4) * a2)) + (nI 2)))), none, none]) (by repeat (first | exact trivial | refine ⟨rfl, ?_⟩ | show jg_le _ _)) ?_
  refine t_X12_holds_24 hr F a1 ((x1 + (nI 2)) + ((nI 4) * a2))  _ (x := x47) ?_ F (nI 0) (gW s (((x1 + (nI 2)) + ((nI 4) * a2)) + (nI 2))) s e_x47
  refine jg_iload dX12_holds_316 rfl ?_
  refine jg_if_eq (x := x47.1) (tgt := 330) dX12_holds_318 (by decide) (fun c48 => ?_) (fun c48 => ?_)
  · replace h := it_t c48 h
    refine jg_iconst (v := nI 1) dX12_holds_330 (by decide) ?_
    refine jg_goto (tgt := 335) dX12_holds_331 (by decide) ?_
    obtain rfl := Option.some.inj h
    exact jg_zreturn dX12_holds_335 rfl (rfl) ⟨rfl, rfl⟩
  · replace h := it_f c48 h
    refine jg_aload_n dX12_holds_321 rfl ?_
    refine rs_ga fl_X12_36 dX12_holds_322 hr rfl ?_
    refine jg_iconst (v := nI 0) dX12_holds_325 (by decide) ?_
    refine rs_lzD (s := x47.2) (i := (nI 0)) (j := 5) dX12_holds_326 hr (by decide) rfl (by decide) ?_
    refine jg_if_eq (x := (gR x47.2 6 (nI 0))) (tgt := 334) dX12_holds_327 (by decide) (fun c49 => ?_) (fun c49 => ?_)
    · replace h := it_t c49 h
      refine jg_iconst (v := nI 0) dX12_holds_334 (by decide) ?_
      obtain rfl := Option.some.inj h
      exact jg_zreturn dX12_holds_335 rfl (rfl) ⟨rfl, rfl⟩
    · replace h := it_f c49 h
      refine jg_iconst (v := nI 1) dX12_holds_330 (by decide) ?_
      refine jg_goto (tgt := 335) dX12_holds_331 (by decide) ?_
      obtain rfl := Option.some.inj h
      exact jg_zreturn dX12_holds_335 rfl (rfl) ⟨rfl, rfl⟩
theorem dX12_sumOf_0 : decode cX12_sumOf 0 = .ok (.lconst 0, 1) := by decide +kernel
theorem dX12_sumOf_1 : decode cX12_sumOf 1 = .ok (.lstore_n 3, 1) := by decide +kernel
theorem dX12_sumOf_2 : decode cX12_sumOf 2 = .ok (.iconst 0, 1) := by decide +kernel
theorem dX12_sumOf_3 : decode cX12_sumOf 3 = .ok (.istore 5, 2) := by decide +kernel
theorem dX12_sumOf_5 : decode cX12_sumOf 5 = .ok (.iload 5, 2) := by decide +kernel
theorem dX12_sumOf_7 : decode cX12_sumOf 7 = .ok (.aload_n 0, 1) := by decide +kernel
theorem dX12_sumOf_8 : decode cX12_sumOf 8 = .ok (.iload_n 1, 1) := by decide +kernel
theorem dX12_sumOf_9 : decode cX12_sumOf 9 = .ok (.invokevirtual 356, 3) := by decide +kernel
theorem dX12_sumOf_12 : decode cX12_sumOf 12 = .ok (.if_icmp .ge 61, 3) := by decide +kernel
theorem dX12_sumOf_15 : decode cX12_sumOf 15 = .ok (.aload_n 0, 1) := by decide +kernel
theorem dX12_sumOf_16 : decode cX12_sumOf 16 = .ok (.getfield 13, 3) := by decide +kernel
theorem dX12_sumOf_19 : decode cX12_sumOf 19 = .ok (.iload_n 1, 1) := by decide +kernel
theorem dX12_sumOf_20 : decode cX12_sumOf 20 = .ok (.invokestatic 242, 3) := by decide +kernel
theorem dX12_sumOf_23 : decode cX12_sumOf 23 = .ok (.iconst 2, 1) := by decide +kernel
theorem dX12_sumOf_24 : decode cX12_sumOf 24 = .ok (.iadd, 1) := by decide +kernel
theorem dX12_sumOf_25 : decode cX12_sumOf 25 = .ok (.iconst 4, 1) := by decide +kernel
theorem dX12_sumOf_26 : decode cX12_sumOf 26 = .ok (.iload 5, 2) := by decide +kernel
theorem dX12_sumOf_28 : decode cX12_sumOf 28 = .ok (.imul, 1) := by decide +kernel
theorem dX12_sumOf_29 : decode cX12_sumOf 29 = .ok (.iadd, 1) := by decide +kernel
theorem dX12_sumOf_30 : decode cX12_sumOf 30 = .ok (.iaload, 1) := by decide +kernel
theorem dX12_sumOf_31 : decode cX12_sumOf 31 = .ok (.iload_n 2, 1) := by decide +kernel
theorem dX12_sumOf_32 : decode cX12_sumOf 32 = .ok (.if_icmp .ne 35, 3) := by decide +kernel
theorem dX12_sumOf_35 : decode cX12_sumOf 35 = .ok (.aload_n 0, 1) := by decide +kernel
theorem dX12_sumOf_36 : decode cX12_sumOf 36 = .ok (.iload_n 1, 1) := by decide +kernel
theorem dX12_sumOf_37 : decode cX12_sumOf 37 = .ok (.iload 5, 2) := by decide +kernel
theorem dX12_sumOf_39 : decode cX12_sumOf 39 = .ok (.invokevirtual 364, 3) := by decide +kernel
theorem dX12_sumOf_42 : decode cX12_sumOf 42 = .ok (.ifCond .eq 25, 3) := by decide +kernel
theorem dX12_sumOf_45 : decode cX12_sumOf 45 = .ok (.lload_n 3, 1) := by decide +kernel
theorem dX12_sumOf_46 : decode cX12_sumOf 46 = .ok (.aload_n 0, 1) := by decide +kernel
theorem dX12_sumOf_47 : decode cX12_sumOf 47 = .ok (.getfield 13, 3) := by decide +kernel
theorem dX12_sumOf_50 : decode cX12_sumOf 50 = .ok (.iload_n 1, 1) := by decide +kernel
theorem dX12_sumOf_51 : decode cX12_sumOf 51 = .ok (.invokestatic 242, 3) := by decide +kernel
theorem dX12_sumOf_54 : decode cX12_sumOf 54 = .ok (.iconst 2, 1) := by decide +kernel
theorem dX12_sumOf_55 : decode cX12_sumOf 55 = .ok (.iadd, 1) := by decide +kernel
theorem dX12_sumOf_56 : decode cX12_sumOf 56 = .ok (.iconst 4, 1) := by decide +kernel
theorem dX12_sumOf_57 : decode cX12_sumOf 57 = .ok (.iload 5, 2) := by decide +kernel
theorem dX12_sumOf_59 : decode cX12_sumOf 59 = .ok (.imul, 1) := by decide +kernel
theorem dX12_sumOf_60 : decode cX12_sumOf 60 = .ok (.iadd, 1) := by decide +kernel
theorem dX12_sumOf_61 : decode cX12_sumOf 61 = .ok (.iconst 1, 1) := by decide +kernel
theorem dX12_sumOf_62 : decode cX12_sumOf 62 = .ok (.iadd, 1) := by decide +kernel
theorem dX12_sumOf_63 : decode cX12_sumOf 63 = .ok (.iaload, 1) := by decide +kernel
theorem dX12_sumOf_64 : decode cX12_sumOf 64 = .ok (.i2l, 1) := by decide +kernel
theorem dX12_sumOf_65 : decode cX12_sumOf 65 = .ok (.ladd, 1) := by decide +kernel
theorem dX12_sumOf_66 : decode cX12_sumOf 66 = .ok (.lstore_n 3, 1) := by decide +kernel
theorem dX12_sumOf_67 : decode cX12_sumOf 67 = .ok (.iinc 5 1, 3) := by decide +kernel
theorem dX12_sumOf_70 : decode cX12_sumOf 70 = .ok (.goto (-65), 3) := by decide +kernel
theorem dX12_sumOf_73 : decode cX12_sumOf 73 = .ok (.lload_n 3, 1) := by decide +kernel
theorem dX12_sumOf_74 : decode cX12_sumOf 74 = .ok (.lreturn, 1) := by decide +kernel
noncomputable def o_X12_sumOf_5 (F : Nat) (l1 : Int32) (l2 : Int32)  : Nat → Int64 → Int32 → rs_S → Option (Int64 × rs_S)
  | 0, _, _, _ => none
  | f + 1, l3, l5, s => (o_X12_linesOf s l1).bind fun x1 => (if x1 ≤ l5 then (some (l3, s)) else ((o_X12_actAt s l1).bind fun x3 => (if iL ((x3 + (nI 2)) + ((nI 4) * l5)) 22216 then (if (gW s ((x3 + (nI 2)) + ((nI 4) * l5))) = l2 then ((o_X12_holds F s l1 l5).bind fun x6 => (if x6.1 = 0 then (o_X12_sumOf_5 F l1 l2 f l3 (l5 + nI 1) x6.2) else ((o_X12_actAt x6.2 l1).bind fun x8 => (if iL (((x8 + (nI 2)) + ((nI 4) * l5)) + (nI 1)) 22216 then (o_X12_sumOf_5 F l1 l2 f (l3 + ((gW x6.2 (((x8 + (nI 2)) + ((nI 4) * l5)) + (nI 1))).toInt64)) (l5 + nI 1) x6.2) else none)))) else (o_X12_sumOf_5 F l1 l2 f l3 (l5 + nI 1) s)) else none)))
set_option maxHeartbeats 4000000 in
theorem t_X12_sumOf_5 {Γ : jg_G} {g : Nat → jg_C} {n r : Nat} (hr : r + 11 ≤ n) (F : Nat) (l1 : Int32) (l2 : Int32)   (Q : jg_Q) {x : Int64 × rs_S} (K1 : jg Γ mX12_sumOf 2 0 0 73 [none, none, none, some (.long x.1), none, none] [] (rs_h g r x.2, n) Q)  : ∀ (f : Nat) (l3 : Int64) (l5 : Int32) (s : rs_S), o_X12_sumOf_5 F l1 l2 f l3 l5 s = some x → jg Γ mX12_sumOf 2 0 0 5 [some (.ref r), some (.int l1), some (.int l2), some (.long l3), none, some (.int l5)] [] (rs_h g r s, n) Q := by
  intro f
  induction f with
  | zero => intro l3 l5 s h; rw [o_X12_sumOf_5] at h; cases h
  | succ f ih =>
   intro l3 l5 s h
   rw [o_X12_sumOf_5] at h
   refine jg_iload dX12_sumOf_5 rfl ?_
   refine jg_aload_n dX12_sumOf_7 rfl ?_
   refine jg_iload_n dX12_sumOf_8 rfl ?_
   obtain ⟨x1, e_x1, h⟩ := bd_some h
   refine rs_call (As := [.int l1]) kv_X12_356 dX12_sumOf_9 hr rfl rfl (by decide) (Nat.le_of_ble_eq_true rfl) rfl (by decide) (Nat.le_of_ble_eq_true rfl) (t_X12_linesOf hr s l1 e_x1) ?_
   refine jg_icmp_ge (x := l5) (y := x1) (tgt := 73) dX12_sumOf_12 (by decide) (fun c2 => ?_) (fun c2 => ?_)
   · replace h := it_t c2 h
     refine jg_fg (L' := [none, none, none, some (.long l3), none, none]) (by repeat (first | exact trivial | refine ⟨rfl, ?_⟩ | show jg_le _ _)) ?_
     obtain rfl := Option.some.inj h
     exact K1
   · replace h := it_f c2 h
     refine jg_aload_n dX12_sumOf_15 rfl ?_
     refine rs_ga fl_X12_13 dX12_sumOf_16 hr rfl ?_
     refine jg_iload_n dX12_sumOf_19 rfl ?_
     obtain ⟨x3, e_x3, h⟩ := bd_some h
     refine rs_callS (As := [.int l1]) ks_X12_242 dX12_sumOf_20 rfl (by decide) (Nat.le_of_ble_eq_true rfl) rfl (by decide) (Nat.le_of_ble_eq_true rfl) (t_X12_actAt hr s l1 e_x3) ?_
     refine jg_iconst (v := nI 2) dX12_sumOf_23 (by decide) ?_
     refine jg_iadd (x := x3) (y := (nI 2)) dX12_sumOf_24  ?_
     refine jg_iconst (v := nI 4) dX12_sumOf_25 (by decide) ?_
     refine jg_iload dX12_sumOf_26 rfl ?_
     refine jg_imul (x := (nI 4)) (y := l5) dX12_sumOf_28  ?_
     refine jg_iadd (x := (x3 + (nI 2))) (y := ((nI 4) * l5)) dX12_sumOf_29  ?_
     obtain ⟨q4, h⟩ := gd_some h
     refine rs_lwD (s := s) (i := ((x3 + (nI 2)) + ((nI 4) * l5))) dX12_sumOf_30 hr q4 ?_
     refine jg_iload_n dX12_sumOf_31 rfl ?_
     refine jg_icmp_ne (x := (gW s ((x3 + (nI 2)) + ((nI 4) * l5)))) (y := l2) (tgt := 67) dX12_sumOf_32 (by decide) (fun c5 => ?_) (fun c5 => ?_)
     · replace h := it_f c5 h
       refine jg_iinc (x := l5) (v := l5 + nI 1) (L' := [some (.ref r), some (.int l1), some (.int l2), some (.long l3), none, some (.int (l5 + nI 1))]) dX12_sumOf_67 rfl (ic_k _ (by decide)) (by decide) rfl ?_
       refine jg_goto (tgt := 5) dX12_sumOf_70 (by decide) ?_
       refine jg_fg (L' := [some (.ref r), some (.int l1), some (.int l2), some (.long l3), none, some (.int (l5 + nI 1))]) (by repeat (first | exact trivial | refine ⟨rfl, ?_⟩ | show jg_le _ _)) ?_
       exact ih l3 (l5 + nI 1) s h
     · replace h := it_t c5 h
       refine jg_aload_n dX12_sumOf_35 rfl ?_
       refine jg_iload_n dX12_sumOf_36 rfl ?_
       refine jg_iload dX12_sumOf_37 rfl ?_
       obtain ⟨x6, e_x6, h⟩ := bd_some h
       refine rs_call (As := [.int l1, .int l5]) kv_X12_364 dX12_sumOf_39 hr rfl rfl (by decide) (Nat.le_of_ble_eq_true rfl) rfl (by decide) (Nat.le_of_ble_eq_true rfl) (t_X12_holds hr F s l1 l5 e_x6) ?_
       refine jg_if_eq (x := x6.1) (tgt := 67) dX12_sumOf_42 (by decide) (fun c7 => ?_) (fun c7 => ?_)
       · replace h := it_t c7 h
         refine jg_iinc (x := l5) (v := l5 + nI 1) (L' := [some (.ref r), some (.int l1), some (.int l2), some (.long l3), none, some (.int (l5 + nI 1))]) dX12_sumOf_67 rfl (ic_k _ (by decide)) (by decide) rfl ?_
         refine jg_goto (tgt := 5) dX12_sumOf_70 (by decide) ?_
         refine jg_fg (L' := [some (.ref r), some (.int l1), some (.int l2), some (.long l3), none, some (.int (l5 + nI 1))]) (by repeat (first | exact trivial | refine ⟨rfl, ?_⟩ | show jg_le _ _)) ?_
         exact ih l3 (l5 + nI 1) x6.2 h
       · replace h := it_f c7 h
         refine jg_lload_n dX12_sumOf_45 rfl ?_
         refine jg_aload_n dX12_sumOf_46 rfl ?_
         refine rs_ga fl_X12_13 dX12_sumOf_47 hr rfl ?_
         refine jg_iload_n dX12_sumOf_50 rfl ?_
         obtain ⟨x8, e_x8, h⟩ := bd_some h
         refine rs_callS (As := [.int l1]) ks_X12_242 dX12_sumOf_51 rfl (by decide) (Nat.le_of_ble_eq_true rfl) rfl (by decide) (Nat.le_of_ble_eq_true rfl) (t_X12_actAt hr x6.2 l1 e_x8) ?_
         refine jg_iconst (v := nI 2) dX12_sumOf_54 (by decide) ?_
         refine jg_iadd (x := x8) (y := (nI 2)) dX12_sumOf_55  ?_
         refine jg_iconst (v := nI 4) dX12_sumOf_56 (by decide) ?_
         refine jg_iload dX12_sumOf_57 rfl ?_
         refine jg_imul (x := (nI 4)) (y := l5) dX12_sumOf_59  ?_
         refine jg_iadd (x := (x8 + (nI 2))) (y := ((nI 4) * l5)) dX12_sumOf_60  ?_
         refine jg_iconst (v := nI 1) dX12_sumOf_61 (by decide) ?_
         refine jg_iadd (x := ((x8 + (nI 2)) + ((nI 4) * l5))) (y := (nI 1)) dX12_sumOf_62  ?_
         obtain ⟨q9, h⟩ := gd_some h
         refine rs_lwD (s := x6.2) (i := (((x8 + (nI 2)) + ((nI 4) * l5)) + (nI 1))) dX12_sumOf_63 hr q9 ?_
         refine jg_i2l dX12_sumOf_64 ?_
         refine jg_ladd dX12_sumOf_65 ?_
         refine jg_lstore_n (L' := [some (.ref r), some (.int l1), some (.int l2), some (.long (l3 + ((gW x6.2 (((x8 + (nI 2)) + ((nI 4) * l5)) + (nI 1))).toInt64))), none, some (.int l5)]) dX12_sumOf_66 (by decide) rfl ?_
         refine jg_iinc (x := l5) (v := l5 + nI 1) (L' := [some (.ref r), some (.int l1), some (.int l2), some (.long (l3 + ((gW x6.2 (((x8 + (nI 2)) + ((nI 4) * l5)) + (nI 1))).toInt64))), none, some (.int (l5 + nI 1))]) dX12_sumOf_67 rfl (ic_k _ (by decide)) (by decide) rfl ?_
         refine jg_goto (tgt := 5) dX12_sumOf_70 (by decide) ?_
         refine jg_fg (L' := [some (.ref r), some (.int l1), some (.int l2), some (.long (l3 + ((gW x6.2 (((x8 + (nI 2)) + ((nI 4) * l5)) + (nI 1))).toInt64))), none, some (.int (l5 + nI 1))]) (by repeat (first | exact trivial | refine ⟨rfl, ?_⟩ | show jg_le _ _)) ?_
         exact ih (l3 + ((gW x6.2 (((x8 + (nI 2)) + ((nI 4) * l5)) + (nI 1))).toInt64)) (l5 + nI 1) x6.2 h
noncomputable def o_X12_sumOf (F : Nat) (s : rs_S) (a1 : Int32) (a2 : Int32) : Option (Int64 × rs_S) := (o_X12_sumOf_5 F a1 a2 F 0 (nI 0) s).bind fun x10 => (some (x10.1, x10.2))
set_option maxHeartbeats 4000000 in
theorem t_X12_sumOf {Γ : jg_G} {g : Nat → jg_C} {n r : Nat} (hr : r + 11 ≤ n) (F : Nat) (s : rs_S) (a1 : Int32) (a2 : Int32)  {x : Int64 × rs_S} (h : o_X12_sumOf F s a1 a2 = some x) : jc Γ mX12_sumOf 2 0 0 [some (.ref r), some (.int a1), some (.int a2), none, none, none] (rs_h g r s, n) (.inl (some (.long x.1))) (rs_h g r x.2, n) := by
  refine jc_of ?_
  rw [o_X12_sumOf] at h
  refine jg_lconst (v := 0) dX12_sumOf_0 (by decide) ?_
  refine jg_lstore_n (L' := [some (.ref r), some (.int a1), some (.int a2), some (.long 0), none, none]) dX12_sumOf_1 (by decide) rfl ?_
  refine jg_iconst (v := nI 0) dX12_sumOf_2 (by decide) ?_
  refine jg_istore (L' := [some (.ref r), some (.int a1), some (.int a2), some (.long 0), none, some (.int (nI 0))]) dX12_sumOf_3 (by decide) rfl ?_
  obtain ⟨x10, e_x10, h⟩ := bd_some h
  refine jg_fg (L' := [some (.ref r), some (.int a1), some (.int a2), some (.long 0), none, some (.int (nI 0))]) (by repeat (first | exact trivial | refine ⟨rfl, ?_⟩ | show jg_le _ _)) ?_
  refine t_X12_sumOf_5 hr F a1 a2  _ (x := x10) ?_ F 0 (nI 0) s e_x10
  refine jg_lload_n dX12_sumOf_73 rfl ?_
  obtain rfl := Option.some.inj h
  exact jg_lreturn dX12_sumOf_74 rfl ⟨rfl, rfl⟩
theorem dX12_added_0 : decode cX12_added 0 = .ok (.ldc2_w 53, 3) := by decide +kernel
theorem dX12_added_3 : decode cX12_added 3 = .ok (.iload_n 0, 1) := by decide +kernel
theorem dX12_added_4 : decode cX12_added 4 = .ok (.i2l, 1) := by decide +kernel
theorem dX12_added_5 : decode cX12_added 5 = .ok (.lload_n 1, 1) := by decide +kernel
theorem dX12_added_6 : decode cX12_added 6 = .ok (.ladd, 1) := by decide +kernel
theorem dX12_added_7 : decode cX12_added 7 = .ok (.invokestatic 55, 3) := by decide +kernel
theorem dX12_added_10 : decode cX12_added 10 = .ok (.l2i, 1) := by decide +kernel
theorem dX12_added_11 : decode cX12_added 11 = .ok (.ireturn, 1) := by decide +kernel
noncomputable def o_X12_added (s : rs_S) (a1 : Int32) (a2 : Int64) : Option (Int32) := some ((mnl 2000000000 (a1.toInt64 + a2)).toInt32)
set_option maxHeartbeats 4000000 in
theorem t_X12_added {Γ : jg_G} {g : Nat → jg_C} {n r : Nat} (hr : r + 11 ≤ n) (s : rs_S) (a1 : Int32) (a2 : Int64)  {x : Int32} (h : o_X12_added s a1 a2 = some x) : jc Γ mX12_added 1 0 0 [some (.int a1), some (.long a2), none] (rs_h g r s, n) (.inl (some (.int x))) (rs_h g r s, n) := by
  refine jc_of ?_
  rw [o_X12_added] at h
  refine jg_ldc2 kk_X12_53 dX12_added_0 ?_
  refine jg_iload_n dX12_added_3 rfl ?_
  refine jg_i2l dX12_added_4 ?_
  refine jg_lload_n dX12_added_5 rfl ?_
  refine jg_ladd dX12_added_6 ?_
  refine jg_mminl (x := 2000000000) (y := (a1.toInt64 + a2)) km_X12_55 jw_minl.1 jw_minl.2 dX12_added_7 (by decide) (Nat.le_of_ble_eq_true rfl) ?_
  refine jg_l2i dX12_added_10 ?_
  obtain rfl := Option.some.inj h
  exact jg_ireturn dX12_added_11 rfl ⟨rfl, rfl⟩
theorem dX12_dueOf_0 : decode cX12_dueOf 0 = .ok (.aload_n 0, 1) := by decide +kernel
theorem dX12_dueOf_1 : decode cX12_dueOf 1 = .ok (.iload_n 1, 1) := by decide +kernel
theorem dX12_dueOf_2 : decode cX12_dueOf 2 = .ok (.iload_n 3, 1) := by decide +kernel
theorem dX12_dueOf_3 : decode cX12_dueOf 3 = .ok (.invokevirtual 367, 3) := by decide +kernel
theorem dX12_dueOf_6 : decode cX12_dueOf 6 = .ok (.iconst 0, 1) := by decide +kernel
theorem dX12_dueOf_7 : decode cX12_dueOf 7 = .ok (.aload_n 0, 1) := by decide +kernel
theorem dX12_dueOf_8 : decode cX12_dueOf 8 = .ok (.iload_n 2, 1) := by decide +kernel
theorem dX12_dueOf_9 : decode cX12_dueOf 9 = .ok (.iconst 0, 1) := by decide +kernel
theorem dX12_dueOf_10 : decode cX12_dueOf 10 = .ok (.invokevirtual 370, 3) := by decide +kernel
theorem dX12_dueOf_13 : decode cX12_dueOf 13 = .ok (.aload_n 0, 1) := by decide +kernel
theorem dX12_dueOf_14 : decode cX12_dueOf 14 = .ok (.iload_n 1, 1) := by decide +kernel
theorem dX12_dueOf_15 : decode cX12_dueOf 15 = .ok (.iconst 2, 1) := by decide +kernel
theorem dX12_dueOf_16 : decode cX12_dueOf 16 = .ok (.invokevirtual 137, 3) := by decide +kernel
theorem dX12_dueOf_19 : decode cX12_dueOf 19 = .ok (.i2l, 1) := by decide +kernel
theorem dX12_dueOf_20 : decode cX12_dueOf 20 = .ok (.lmul, 1) := by decide +kernel
theorem dX12_dueOf_21 : decode cX12_dueOf 21 = .ok (.aload_n 0, 1) := by decide +kernel
theorem dX12_dueOf_22 : decode cX12_dueOf 22 = .ok (.iload_n 2, 1) := by decide +kernel
theorem dX12_dueOf_23 : decode cX12_dueOf 23 = .ok (.iconst 1, 1) := by decide +kernel
theorem dX12_dueOf_24 : decode cX12_dueOf 24 = .ok (.invokevirtual 370, 3) := by decide +kernel
theorem dX12_dueOf_27 : decode cX12_dueOf 27 = .ok (.ladd, 1) := by decide +kernel
theorem dX12_dueOf_28 : decode cX12_dueOf 28 = .ok (.invokestatic 173, 3) := by decide +kernel
theorem dX12_dueOf_31 : decode cX12_dueOf 31 = .ok (.ireturn, 1) := by decide +kernel
noncomputable def o_X12_dueOf (F : Nat) (s : rs_S) (a1 : Int32) (a2 : Int32) (a3 : Int32) : Option (Int32 × rs_S) := (o_X12_looksAtShip s a1 a3).bind fun x1 => ((o_X12_sumOf F x1 a2 (nI 0)).bind fun x2 => ((o_X12_of x2.2 a1 (nI 2)).bind fun x3 => ((o_X12_sumOf F x2.2 a2 (nI 1)).bind fun x4 => ((o_X12_added x4.2 (nI 0) ((x2.1 * x3.toInt64) + x4.1)).bind fun x5 => (some (x5, x4.2))))))
set_option maxHeartbeats 4000000 in
theorem t_X12_dueOf {Γ : jg_G} {g : Nat → jg_C} {n r : Nat} (hr : r + 11 ≤ n) (F : Nat) (s : rs_S) (a1 : Int32) (a2 : Int32) (a3 : Int32)  {x : Int32 × rs_S} (h : o_X12_dueOf F s a1 a2 a3 = some x) : jc Γ mX12_dueOf 3 0 0 [some (.ref r), some (.int a1), some (.int a2), some (.int a3)] (rs_h g r s, n) (.inl (some (.int x.1))) (rs_h g r x.2, n) := by
  refine jc_of ?_
  rw [o_X12_dueOf] at h
  refine jg_aload_n dX12_dueOf_0 rfl ?_
  refine jg_iload_n dX12_dueOf_1 rfl ?_
  refine jg_iload_n dX12_dueOf_2 rfl ?_
  obtain ⟨x1, e_x1, h⟩ := bd_some h
  refine rs_call (As := [.int a1, .int a3]) kv_X12_367 dX12_dueOf_3 hr rfl rfl (by decide) (Nat.le_of_ble_eq_true rfl) rfl (by decide) (Nat.le_of_ble_eq_true rfl) (t_X12_looksAtShip hr s a1 a3 e_x1) ?_
  refine jg_iconst (v := nI 0) dX12_dueOf_6 (by decide) ?_
  refine jg_aload_n dX12_dueOf_7 rfl ?_
  refine jg_iload_n dX12_dueOf_8 rfl ?_
  refine jg_iconst (v := nI 0) dX12_dueOf_9 (by decide) ?_
  obtain ⟨x2, e_x2, h⟩ := bd_some h
  refine rs_call (As := [.int a2, .int (nI 0)]) kv_X12_370 dX12_dueOf_10 hr rfl rfl (by decide) (Nat.le_of_ble_eq_true rfl) rfl (by decide) (Nat.le_of_ble_eq_true rfl) (t_X12_sumOf hr F x1 a2 (nI 0) e_x2) ?_
  refine jg_aload_n dX12_dueOf_13 rfl ?_
  refine jg_iload_n dX12_dueOf_14 rfl ?_
  refine jg_iconst (v := nI 2) dX12_dueOf_15 (by decide) ?_
  obtain ⟨x3, e_x3, h⟩ := bd_some h
  refine rs_call (As := [.int a1, .int (nI 2)]) kv_X12_137 dX12_dueOf_16 hr rfl rfl (by decide) (Nat.le_of_ble_eq_true rfl) rfl (by decide) (Nat.le_of_ble_eq_true rfl) (t_X12_of hr x2.2 a1 (nI 2) e_x3) ?_
  refine jg_i2l dX12_dueOf_19 ?_
  refine jg_lmul dX12_dueOf_20 ?_
  refine jg_aload_n dX12_dueOf_21 rfl ?_
  refine jg_iload_n dX12_dueOf_22 rfl ?_
  refine jg_iconst (v := nI 1) dX12_dueOf_23 (by decide) ?_
  obtain ⟨x4, e_x4, h⟩ := bd_some h
  refine rs_call (As := [.int a2, .int (nI 1)]) kv_X12_370 dX12_dueOf_24 hr rfl rfl (by decide) (Nat.le_of_ble_eq_true rfl) rfl (by decide) (Nat.le_of_ble_eq_true rfl) (t_X12_sumOf hr F x2.2 a2 (nI 1) e_x4) ?_
  refine jg_ladd dX12_dueOf_27 ?_
  obtain ⟨x5, e_x5, h⟩ := bd_some h
  refine rs_callS (As := [.int (nI 0), .long ((x2.1 * x3.toInt64) + x4.1)]) ks_X12_173 dX12_dueOf_28 rfl (by decide) (Nat.le_of_ble_eq_true rfl) rfl (by decide) (Nat.le_of_ble_eq_true rfl) (t_X12_added hr x4.2 (nI 0) ((x2.1 * x3.toInt64) + x4.1) e_x5) ?_
  obtain rfl := Option.some.inj h
  exact jg_ireturn dX12_dueOf_31 rfl ⟨rfl, rfl⟩
theorem dX12_payerAt_0 : decode cX12_payerAt 0 = .ok (.sipush 1091, 3) := by decide +kernel
theorem dX12_payerAt_3 : decode cX12_payerAt 3 = .ok (.iconst 4, 1) := by decide +kernel
theorem dX12_payerAt_4 : decode cX12_payerAt 4 = .ok (.iload_n 0, 1) := by decide +kernel
theorem dX12_payerAt_5 : decode cX12_payerAt 5 = .ok (.imul, 1) := by decide +kernel
theorem dX12_payerAt_6 : decode cX12_payerAt 6 = .ok (.iadd, 1) := by decide +kernel
theorem dX12_payerAt_7 : decode cX12_payerAt 7 = .ok (.iload_n 1, 1) := by decide +kernel
theorem dX12_payerAt_8 : decode cX12_payerAt 8 = .ok (.iadd, 1) := by decide +kernel
theorem dX12_payerAt_9 : decode cX12_payerAt 9 = .ok (.ireturn, 1) := by decide +kernel
noncomputable def o_X12_payerAt (s : rs_S) (a1 : Int32) (a2 : Int32) : Option (Int32) := some (((nI 1091) + ((nI 4) * a1)) + a2)
set_option maxHeartbeats 4000000 in
theorem t_X12_payerAt {Γ : jg_G} {g : Nat → jg_C} {n r : Nat} (hr : r + 11 ≤ n) (s : rs_S) (a1 : Int32) (a2 : Int32)  {x : Int32} (h : o_X12_payerAt s a1 a2 = some x) : jc Γ mX12_payerAt 0 0 0 [some (.int a1), some (.int a2)] (rs_h g r s, n) (.inl (some (.int x))) (rs_h g r s, n) := by
  refine jc_of ?_
  rw [o_X12_payerAt] at h
  refine jg_sipush (v := nI 1091) dX12_payerAt_0 (by decide) ?_
  refine jg_iconst (v := nI 4) dX12_payerAt_3 (by decide) ?_
  refine jg_iload_n dX12_payerAt_4 rfl ?_
  refine jg_imul (x := (nI 4)) (y := a1) dX12_payerAt_5  ?_
  refine jg_iadd (x := (nI 1091)) (y := ((nI 4) * a1)) dX12_payerAt_6  ?_
  refine jg_iload_n dX12_payerAt_7 rfl ?_
  refine jg_iadd (x := ((nI 1091) + ((nI 4) * a1))) (y := a2) dX12_payerAt_8  ?_
  obtain rfl := Option.some.inj h
  exact jg_ireturn dX12_payerAt_9 rfl ⟨rfl, rfl⟩
theorem dX12_leaves_0 : decode cX12_leaves 0 = .ok (.aload_n 0, 1) := by decide +kernel
theorem dX12_leaves_1 : decode cX12_leaves 1 = .ok (.iload_n 1, 1) := by decide +kernel
theorem dX12_leaves_2 : decode cX12_leaves 2 = .ok (.bipush 10, 2) := by decide +kernel
theorem dX12_leaves_4 : decode cX12_leaves 4 = .ok (.invokevirtual 137, 3) := by decide +kernel
theorem dX12_leaves_7 : decode cX12_leaves 7 = .ok (.istore_n 2, 1) := by decide +kernel
theorem dX12_leaves_8 : decode cX12_leaves 8 = .ok (.aload_n 0, 1) := by decide +kernel
theorem dX12_leaves_9 : decode cX12_leaves 9 = .ok (.iload_n 2, 1) := by decide +kernel
theorem dX12_leaves_10 : decode cX12_leaves 10 = .ok (.iconst 0, 1) := by decide +kernel
theorem dX12_leaves_11 : decode cX12_leaves 11 = .ok (.invokevirtual 140, 3) := by decide +kernel
theorem dX12_leaves_14 : decode cX12_leaves 14 = .ok (.istore_n 3, 1) := by decide +kernel
theorem dX12_leaves_15 : decode cX12_leaves 15 = .ok (.aload_n 0, 1) := by decide +kernel
theorem dX12_leaves_16 : decode cX12_leaves 16 = .ok (.invokevirtual 156, 3) := by decide +kernel
theorem dX12_leaves_19 : decode cX12_leaves 19 = .ok (.ifCond .eq 22, 3) := by decide +kernel
theorem dX12_leaves_22 : decode cX12_leaves 22 = .ok (.aload_n 0, 1) := by decide +kernel
theorem dX12_leaves_23 : decode cX12_leaves 23 = .ok (.aload_n 0, 1) := by decide +kernel
theorem dX12_leaves_24 : decode cX12_leaves 24 = .ok (.iload_n 1, 1) := by decide +kernel
theorem dX12_leaves_25 : decode cX12_leaves 25 = .ok (.iconst 5, 1) := by decide +kernel
theorem dX12_leaves_26 : decode cX12_leaves 26 = .ok (.invokevirtual 137, 3) := by decide +kernel
theorem dX12_leaves_29 : decode cX12_leaves 29 = .ok (.iload_n 3, 1) := by decide +kernel
theorem dX12_leaves_30 : decode cX12_leaves 30 = .ok (.aload_n 0, 1) := by decide +kernel
theorem dX12_leaves_31 : decode cX12_leaves 31 = .ok (.invokevirtual 73, 3) := by decide +kernel
theorem dX12_leaves_34 : decode cX12_leaves 34 = .ok (.iconst 1, 1) := by decide +kernel
theorem dX12_leaves_35 : decode cX12_leaves 35 = .ok (.invokevirtual 143, 3) := by decide +kernel
theorem dX12_leaves_38 : decode cX12_leaves 38 = .ok (.ifCond .ne 4, 3) := by decide +kernel
theorem dX12_leaves_41 : decode cX12_leaves 41 = .ok (.return_, 1) := by decide +kernel
theorem dX12_leaves_42 : decode cX12_leaves 42 = .ok (.aload_n 0, 1) := by decide +kernel
theorem dX12_leaves_43 : decode cX12_leaves 43 = .ok (.iload_n 1, 1) := by decide +kernel
theorem dX12_leaves_44 : decode cX12_leaves 44 = .ok (.aload_n 0, 1) := by decide +kernel
theorem dX12_leaves_45 : decode cX12_leaves 45 = .ok (.iload_n 1, 1) := by decide +kernel
theorem dX12_leaves_46 : decode cX12_leaves 46 = .ok (.iconst 5, 1) := by decide +kernel
theorem dX12_leaves_47 : decode cX12_leaves 47 = .ok (.invokevirtual 137, 3) := by decide +kernel
theorem dX12_leaves_50 : decode cX12_leaves 50 = .ok (.iload_n 3, 1) := by decide +kernel
theorem dX12_leaves_51 : decode cX12_leaves 51 = .ok (.iconst 1, 1) := by decide +kernel
theorem dX12_leaves_52 : decode cX12_leaves 52 = .ok (.invokevirtual 159, 3) := by decide +kernel
theorem dX12_leaves_55 : decode cX12_leaves 55 = .ok (.aload_n 0, 1) := by decide +kernel
theorem dX12_leaves_56 : decode cX12_leaves 56 = .ok (.iload_n 3, 1) := by decide +kernel
theorem dX12_leaves_57 : decode cX12_leaves 57 = .ok (.invokevirtual 163, 3) := by decide +kernel
theorem dX12_leaves_60 : decode cX12_leaves 60 = .ok (.aload_n 0, 1) := by decide +kernel
theorem dX12_leaves_61 : decode cX12_leaves 61 = .ok (.getfield 13, 3) := by decide +kernel
theorem dX12_leaves_64 : decode cX12_leaves 64 = .ok (.iload_n 2, 1) := by decide +kernel
theorem dX12_leaves_65 : decode cX12_leaves 65 = .ok (.bipush 6, 2) := by decide +kernel
theorem dX12_leaves_67 : decode cX12_leaves 67 = .ok (.invokestatic 100, 3) := by decide +kernel
theorem dX12_leaves_70 : decode cX12_leaves 70 = .ok (.iconst (-1), 1) := by decide +kernel
theorem dX12_leaves_71 : decode cX12_leaves 71 = .ok (.iastore, 1) := by decide +kernel
theorem dX12_leaves_72 : decode cX12_leaves 72 = .ok (.aload_n 0, 1) := by decide +kernel
theorem dX12_leaves_73 : decode cX12_leaves 73 = .ok (.iload_n 1, 1) := by decide +kernel
theorem dX12_leaves_74 : decode cX12_leaves 74 = .ok (.bipush 9, 2) := by decide +kernel
theorem dX12_leaves_76 : decode cX12_leaves 76 = .ok (.iconst 4, 1) := by decide +kernel
theorem dX12_leaves_77 : decode cX12_leaves 77 = .ok (.invokevirtual 111, 3) := by decide +kernel
theorem dX12_leaves_80 : decode cX12_leaves 80 = .ok (.aload_n 0, 1) := by decide +kernel
theorem dX12_leaves_81 : decode cX12_leaves 81 = .ok (.iload_n 1, 1) := by decide +kernel
theorem dX12_leaves_82 : decode cX12_leaves 82 = .ok (.bipush 13, 2) := by decide +kernel
theorem dX12_leaves_84 : decode cX12_leaves 84 = .ok (.aload_n 0, 1) := by decide +kernel
theorem dX12_leaves_85 : decode cX12_leaves 85 = .ok (.invokevirtual 73, 3) := by decide +kernel
theorem dX12_leaves_88 : decode cX12_leaves 88 = .ok (.invokevirtual 111, 3) := by decide +kernel
theorem dX12_leaves_91 : decode cX12_leaves 91 = .ok (.aload_n 0, 1) := by decide +kernel
theorem dX12_leaves_92 : decode cX12_leaves 92 = .ok (.iload_n 1, 1) := by decide +kernel
theorem dX12_leaves_93 : decode cX12_leaves 93 = .ok (.aload_n 0, 1) := by decide +kernel
theorem dX12_leaves_94 : decode cX12_leaves 94 = .ok (.iload_n 1, 1) := by decide +kernel
theorem dX12_leaves_95 : decode cX12_leaves 95 = .ok (.bipush 17, 2) := by decide +kernel
theorem dX12_leaves_97 : decode cX12_leaves 97 = .ok (.invokevirtual 137, 3) := by decide +kernel
theorem dX12_leaves_100 : decode cX12_leaves 100 = .ok (.aload_n 0, 1) := by decide +kernel
theorem dX12_leaves_101 : decode cX12_leaves 101 = .ok (.invokevirtual 73, 3) := by decide +kernel
theorem dX12_leaves_104 : decode cX12_leaves 104 = .ok (.aload_n 0, 1) := by decide +kernel
theorem dX12_leaves_105 : decode cX12_leaves 105 = .ok (.iload_n 1, 1) := by decide +kernel
theorem dX12_leaves_106 : decode cX12_leaves 106 = .ok (.bipush 8, 2) := by decide +kernel
theorem dX12_leaves_108 : decode cX12_leaves 108 = .ok (.invokevirtual 137, 3) := by decide +kernel
theorem dX12_leaves_111 : decode cX12_leaves 111 = .ok (.isub, 1) := by decide +kernel
theorem dX12_leaves_112 : decode cX12_leaves 112 = .ok (.invokevirtual 166, 3) := by decide +kernel
theorem dX12_leaves_115 : decode cX12_leaves 115 = .ok (.istore 4, 2) := by decide +kernel
theorem dX12_leaves_117 : decode cX12_leaves 117 = .ok (.aload_n 0, 1) := by decide +kernel
theorem dX12_leaves_118 : decode cX12_leaves 118 = .ok (.iload_n 1, 1) := by decide +kernel
theorem dX12_leaves_119 : decode cX12_leaves 119 = .ok (.bipush 14, 2) := by decide +kernel
theorem dX12_leaves_121 : decode cX12_leaves 121 = .ok (.iload 4, 2) := by decide +kernel
theorem dX12_leaves_123 : decode cX12_leaves 123 = .ok (.invokevirtual 111, 3) := by decide +kernel
theorem dX12_leaves_126 : decode cX12_leaves 126 = .ok (.aload_n 0, 1) := by decide +kernel
theorem dX12_leaves_127 : decode cX12_leaves 127 = .ok (.iload_n 1, 1) := by decide +kernel
theorem dX12_leaves_128 : decode cX12_leaves 128 = .ok (.iconst 0, 1) := by decide +kernel
theorem dX12_leaves_129 : decode cX12_leaves 129 = .ok (.invokevirtual 137, 3) := by decide +kernel
theorem dX12_leaves_132 : decode cX12_leaves 132 = .ok (.istore 5, 2) := by decide +kernel
theorem dX12_leaves_134 : decode cX12_leaves 134 = .ok (.aload_n 0, 1) := by decide +kernel
theorem dX12_leaves_135 : decode cX12_leaves 135 = .ok (.getfield 13, 3) := by decide +kernel
theorem dX12_leaves_138 : decode cX12_leaves 138 = .ok (.iload 5, 2) := by decide +kernel
theorem dX12_leaves_140 : decode cX12_leaves 140 = .ok (.iconst 0, 1) := by decide +kernel
theorem dX12_leaves_141 : decode cX12_leaves 141 = .ok (.invokestatic 170, 3) := by decide +kernel
theorem dX12_leaves_144 : decode cX12_leaves 144 = .ok (.aload_n 0, 1) := by decide +kernel
theorem dX12_leaves_145 : decode cX12_leaves 145 = .ok (.getfield 13, 3) := by decide +kernel
theorem dX12_leaves_148 : decode cX12_leaves 148 = .ok (.iload 5, 2) := by decide +kernel
theorem dX12_leaves_150 : decode cX12_leaves 150 = .ok (.iconst 0, 1) := by decide +kernel
theorem dX12_leaves_151 : decode cX12_leaves 151 = .ok (.invokestatic 170, 3) := by decide +kernel
theorem dX12_leaves_154 : decode cX12_leaves 154 = .ok (.iaload, 1) := by decide +kernel
theorem dX12_leaves_155 : decode cX12_leaves 155 = .ok (.iload 4, 2) := by decide +kernel
theorem dX12_leaves_157 : decode cX12_leaves 157 = .ok (.i2l, 1) := by decide +kernel
theorem dX12_leaves_158 : decode cX12_leaves 158 = .ok (.invokestatic 173, 3) := by decide +kernel
theorem dX12_leaves_161 : decode cX12_leaves 161 = .ok (.iastore, 1) := by decide +kernel
theorem dX12_leaves_162 : decode cX12_leaves 162 = .ok (.aload_n 0, 1) := by decide +kernel
theorem dX12_leaves_163 : decode cX12_leaves 163 = .ok (.getfield 13, 3) := by decide +kernel
theorem dX12_leaves_166 : decode cX12_leaves 166 = .ok (.iload 5, 2) := by decide +kernel
theorem dX12_leaves_168 : decode cX12_leaves 168 = .ok (.iconst 2, 1) := by decide +kernel
theorem dX12_leaves_169 : decode cX12_leaves 169 = .ok (.invokestatic 170, 3) := by decide +kernel
theorem dX12_leaves_172 : decode cX12_leaves 172 = .ok (.aload_n 0, 1) := by decide +kernel
theorem dX12_leaves_173 : decode cX12_leaves 173 = .ok (.getfield 13, 3) := by decide +kernel
theorem dX12_leaves_176 : decode cX12_leaves 176 = .ok (.iload 5, 2) := by decide +kernel
theorem dX12_leaves_178 : decode cX12_leaves 178 = .ok (.iconst 2, 1) := by decide +kernel
theorem dX12_leaves_179 : decode cX12_leaves 179 = .ok (.invokestatic 170, 3) := by decide +kernel
theorem dX12_leaves_182 : decode cX12_leaves 182 = .ok (.iaload, 1) := by decide +kernel
theorem dX12_leaves_183 : decode cX12_leaves 183 = .ok (.iload 4, 2) := by decide +kernel
theorem dX12_leaves_185 : decode cX12_leaves 185 = .ok (.i2l, 1) := by decide +kernel
theorem dX12_leaves_186 : decode cX12_leaves 186 = .ok (.invokestatic 173, 3) := by decide +kernel
theorem dX12_leaves_189 : decode cX12_leaves 189 = .ok (.iastore, 1) := by decide +kernel
theorem dX12_leaves_190 : decode cX12_leaves 190 = .ok (.aload_n 0, 1) := by decide +kernel
theorem dX12_leaves_191 : decode cX12_leaves 191 = .ok (.getfield 13, 3) := by decide +kernel
theorem dX12_leaves_194 : decode cX12_leaves 194 = .ok (.sipush 2652, 3) := by decide +kernel
theorem dX12_leaves_197 : decode cX12_leaves 197 = .ok (.aload_n 0, 1) := by decide +kernel
theorem dX12_leaves_198 : decode cX12_leaves 198 = .ok (.getfield 13, 3) := by decide +kernel
theorem dX12_leaves_201 : decode cX12_leaves 201 = .ok (.sipush 2652, 3) := by decide +kernel
theorem dX12_leaves_204 : decode cX12_leaves 204 = .ok (.iaload, 1) := by decide +kernel
theorem dX12_leaves_205 : decode cX12_leaves 205 = .ok (.iload 4, 2) := by decide +kernel
theorem dX12_leaves_207 : decode cX12_leaves 207 = .ok (.i2l, 1) := by decide +kernel
theorem dX12_leaves_208 : decode cX12_leaves 208 = .ok (.invokestatic 173, 3) := by decide +kernel
theorem dX12_leaves_211 : decode cX12_leaves 211 = .ok (.iastore, 1) := by decide +kernel
theorem dX12_leaves_212 : decode cX12_leaves 212 = .ok (.aload_n 0, 1) := by decide +kernel
theorem dX12_leaves_213 : decode cX12_leaves 213 = .ok (.getfield 13, 3) := by decide +kernel
theorem dX12_leaves_216 : decode cX12_leaves 216 = .ok (.sipush 2653, 3) := by decide +kernel
theorem dX12_leaves_219 : decode cX12_leaves 219 = .ok (.aload_n 0, 1) := by decide +kernel
theorem dX12_leaves_220 : decode cX12_leaves 220 = .ok (.getfield 13, 3) := by decide +kernel
theorem dX12_leaves_223 : decode cX12_leaves 223 = .ok (.sipush 2653, 3) := by decide +kernel
theorem dX12_leaves_226 : decode cX12_leaves 226 = .ok (.iaload, 1) := by decide +kernel
theorem dX12_leaves_227 : decode cX12_leaves 227 = .ok (.iload 4, 2) := by decide +kernel
theorem dX12_leaves_229 : decode cX12_leaves 229 = .ok (.i2l, 1) := by decide +kernel
theorem dX12_leaves_230 : decode cX12_leaves 230 = .ok (.invokestatic 173, 3) := by decide +kernel
theorem dX12_leaves_233 : decode cX12_leaves 233 = .ok (.iastore, 1) := by decide +kernel
theorem dX12_leaves_234 : decode cX12_leaves 234 = .ok (.iload 4, 2) := by decide +kernel
theorem dX12_leaves_236 : decode cX12_leaves 236 = .ok (.ifCond .le 12, 3) := by decide +kernel
theorem dX12_leaves_239 : decode cX12_leaves 239 = .ok (.aload_n 0, 1) := by decide +kernel
theorem dX12_leaves_240 : decode cX12_leaves 240 = .ok (.getfield 13, 3) := by decide +kernel
theorem dX12_leaves_243 : decode cX12_leaves 243 = .ok (.sipush 2660, 3) := by decide +kernel
theorem dX12_leaves_246 : decode cX12_leaves 246 = .ok (.iconst 1, 1) := by decide +kernel
theorem dX12_leaves_247 : decode cX12_leaves 247 = .ok (.iastore, 1) := by decide +kernel
theorem dX12_leaves_248 : decode cX12_leaves 248 = .ok (.return_, 1) := by decide +kernel
noncomputable def o_X12_leaves (F : Nat) (s : rs_S) (a1 : Int32) : Option (rs_S) := (o_X12_of s a1 (nI 10)).bind fun x1 => ((o_X12_berthOf s x1 (nI 0)).bind fun x2 => ((o_X12_freePilots F s).bind fun x3 => (if x3 = 0 then (some s) else ((o_X12_of s a1 (nI 5)).bind fun x5 => ((o_X12_hour s).bind fun x6 => ((o_X12_isSafe F s x5 x2 x6 (nI 1)).bind fun x7 => (if x7 = 0 then (some s) else ((o_X12_of s a1 (nI 5)).bind fun x9 => ((o_X12_touches F s a1 x9 x2 (nI 1)).bind fun x10 => ((o_X12_pilots x10 x2).bind fun x11 => ((o_X12_berthAt x11 x1 (nI 6)).bind fun x12 => (if iL x12 22216 then ((o_X12_sets (pW x11 x12 (-1)) a1 (nI 9) (nI 4)).bind fun x14 => ((o_X12_hour x14).bind fun x15 => ((o_X12_sets x14 a1 (nI 13) x15).bind fun x16 => ((o_X12_of x16 a1 (nI 17)).bind fun x17 => ((o_X12_hour x16).bind fun x18 => ((o_X12_of x16 a1 (nI 8)).bind fun x19 => ((o_X12_dueOf F x16 a1 x17 (x18 - x19)).bind fun x20 => ((o_X12_sets x20.2 a1 (nI 14) x20.1).bind fun x21 => ((o_X12_of x21 a1 (nI 0)).bind fun x22 => ((o_X12_payerAt x21 x22 (nI 0)).bind fun x23 => ((o_X12_payerAt x21 x22 (nI 0)).bind fun x24 => (if iL x24 22216 then ((o_X12_added x21 (gW x21 x24) x20.1.toInt64).bind fun x26 => (if iL x23 22216 then ((o_X12_payerAt (pW x21 x23 x26) x22 (nI 2)).bind fun x28 => ((o_X12_payerAt (pW x21 x23 x26) x22 (nI 2)).bind fun x29 => (if iL x29 22216 then ((o_X12_added (pW x21 x23 x26) (gW (pW x21 x23 x26) x29) x20.1.toInt64).bind fun x31 => (if iL x28 22216 then ((o_X12_added (pW (pW x21 x23 x26) x28 x31) (gW (pW (pW x21 x23 x26) x28 x31) (nI 2652)) x20.1.toInt64).bind fun x33 => ((o_X12_added (pW (pW (pW x21 x23 x26) x28 x31) (nI 2652) x33) (gW (pW (pW (pW x21 x23 x26) x28 x31) (nI 2652) x33) (nI 2653)) x20.1.toInt64).bind fun x34 => (if x20.1 ≤ 0 then (some (pW (pW (pW (pW x21 x23 x26) x28 x31) (nI 2652) x33) (nI 2653) x34)) else (some (pW (pW (pW (pW (pW x21 x23 x26) x28 x31) (nI 2652) x33) (nI 2653) x34) (nI 2660) (nI 1)))))) else none)) else none))) else none)) else none)))))))))))) else none))))))))))))
set_option maxHeartbeats 4000000 in
theorem t_X12_leaves {Γ : jg_G} {g : Nat → jg_C} {n r : Nat} (hr : r + 11 ≤ n) (F : Nat) (s : rs_S) (a1 : Int32)  {x : rs_S} (h : o_X12_leaves F s a1 = some x) : jc Γ mX12_leaves 5 0 0 [some (.ref r), some (.int a1), none, none, none, none] (rs_h g r s, n) (.inl none) (rs_h g r x, n) := by
  refine jc_of ?_
  rw [o_X12_leaves] at h
  refine jg_aload_n dX12_leaves_0 rfl ?_
  refine jg_iload_n dX12_leaves_1 rfl ?_
  refine jg_bipush (v := nI 10) dX12_leaves_2 (by decide) ?_
  obtain ⟨x1, e_x1, h⟩ := bd_some h
  refine rs_call (As := [.int a1, .int (nI 10)]) kv_X12_137 dX12_leaves_4 hr rfl rfl (by decide) (Nat.le_of_ble_eq_true rfl) rfl (by decide) (Nat.le_of_ble_eq_true rfl) (t_X12_of hr s a1 (nI 10) e_x1) ?_
  refine jg_istore_n (L' := [some (.ref r), some (.int a1), some (.int x1), none, none, none]) dX12_leaves_7 (by decide) rfl ?_
  refine jg_aload_n dX12_leaves_8 rfl ?_
  refine jg_iload_n dX12_leaves_9 rfl ?_
  refine jg_iconst (v := nI 0) dX12_leaves_10 (by decide) ?_
  obtain ⟨x2, e_x2, h⟩ := bd_some h
  refine rs_call (As := [.int x1, .int (nI 0)]) kv_X12_140 dX12_leaves_11 hr rfl rfl (by decide) (Nat.le_of_ble_eq_true rfl) rfl (by decide) (Nat.le_of_ble_eq_true rfl) (t_X12_berthOf hr s x1 (nI 0) e_x2) ?_
  refine jg_istore_n (L' := [some (.ref r), some (.int a1), some (.int x1), some (.int x2), none, none]) dX12_leaves_14 (by decide) rfl ?_
  refine jg_aload_n dX12_leaves_15 rfl ?_
  obtain ⟨x3, e_x3, h⟩ := bd_some h
  refine rs_call (As := []) kv_X12_156 dX12_leaves_16 hr rfl rfl (by decide) (Nat.le_of_ble_eq_true rfl) rfl (by decide) (Nat.le_of_ble_eq_true rfl) (t_X12_freePilots hr F s e_x3) ?_
  refine jg_if_eq (x := x3) (tgt := 41) dX12_leaves_19 (by decide) (fun c4 => ?_) (fun c4 => ?_)
  · replace h := it_t c4 h
    obtain rfl := Option.some.inj h
    exact jg_return dX12_leaves_41 rfl ⟨rfl, rfl⟩
  · replace h := it_f c4 h
    refine jg_aload_n dX12_leaves_22 rfl ?_
    refine jg_aload_n dX12_leaves_23 rfl ?_
    refine jg_iload_n dX12_leaves_24 rfl ?_
    refine jg_iconst (v := nI 5) dX12_leaves_25 (by decide) ?_
    obtain ⟨x5, e_x5, h⟩ := bd_some h
    refine rs_call (As := [.int a1, .int (nI 5)]) kv_X12_137 dX12_leaves_26 hr rfl rfl (by decide) (Nat.le_of_ble_eq_true rfl) rfl (by decide) (Nat.le_of_ble_eq_true rfl) (t_X12_of hr s a1 (nI 5) e_x5) ?_
    refine jg_iload_n dX12_leaves_29 rfl ?_
    refine jg_aload_n dX12_leaves_30 rfl ?_
    obtain ⟨x6, e_x6, h⟩ := bd_some h
    refine rs_call (As := []) kv_X12_73 dX12_leaves_31 hr rfl rfl (by decide) (Nat.le_of_ble_eq_true rfl) rfl (by decide) (Nat.le_of_ble_eq_true rfl) (t_X12_hour hr s e_x6) ?_
    refine jg_iconst (v := nI 1) dX12_leaves_34 (by decide) ?_
    obtain ⟨x7, e_x7, h⟩ := bd_some h
    refine rs_call (As := [.int x5, .int x2, .int x6, .int (nI 1)]) kv_X12_143 dX12_leaves_35 hr rfl rfl (by decide) (Nat.le_of_ble_eq_true rfl) rfl (by decide) (Nat.le_of_ble_eq_true rfl) (t_X12_isSafe hr F s x5 x2 x6 (nI 1) e_x7) ?_
    refine jg_if_ne (x := x7) (tgt := 42) dX12_leaves_38 (by decide) (fun c8 => ?_) (fun c8 => ?_)
    · replace h := it_f c8 h
      refine jg_aload_n dX12_leaves_42 rfl ?_
      refine jg_iload_n dX12_leaves_43 rfl ?_
      refine jg_aload_n dX12_leaves_44 rfl ?_
      refine jg_iload_n dX12_leaves_45 rfl ?_
      refine jg_iconst (v := nI 5) dX12_leaves_46 (by decide) ?_
      obtain ⟨x9, e_x9, h⟩ := bd_some h
      refine rs_call (As := [.int a1, .int (nI 5)]) kv_X12_137 dX12_leaves_47 hr rfl rfl (by decide) (Nat.le_of_ble_eq_true rfl) rfl (by decide) (Nat.le_of_ble_eq_true rfl) (t_X12_of hr s a1 (nI 5) e_x9) ?_
      refine jg_iload_n dX12_leaves_50 rfl ?_
      refine jg_iconst (v := nI 1) dX12_leaves_51 (by decide) ?_
      obtain ⟨x10, e_x10, h⟩ := bd_some h
      refine rs_call (As := [.int a1, .int x9, .int x2, .int (nI 1)]) kv_X12_159 dX12_leaves_52 hr rfl rfl (by decide) (Nat.le_of_ble_eq_true rfl) rfl (by decide) (Nat.le_of_ble_eq_true rfl) (t_X12_touches hr F s a1 x9 x2 (nI 1) e_x10) ?_
      refine jg_aload_n dX12_leaves_55 rfl ?_
      refine jg_iload_n dX12_leaves_56 rfl ?_
      obtain ⟨x11, e_x11, h⟩ := bd_some h
      refine rs_call (As := [.int x2]) kv_X12_163 dX12_leaves_57 hr rfl rfl (by decide) (Nat.le_of_ble_eq_true rfl) rfl (by decide) (Nat.le_of_ble_eq_true rfl) (t_X12_pilots hr x10 x2 e_x11) ?_
      refine jg_aload_n dX12_leaves_60 rfl ?_
      refine rs_ga fl_X12_13 dX12_leaves_61 hr rfl ?_
      refine jg_iload_n dX12_leaves_64 rfl ?_
      refine jg_bipush (v := nI 6) dX12_leaves_65 (by decide) ?_
      obtain ⟨x12, e_x12, h⟩ := bd_some h
      refine rs_callS (As := [.int x1, .int (nI 6)]) ks_X12_100 dX12_leaves_67 rfl (by decide) (Nat.le_of_ble_eq_true rfl) rfl (by decide) (Nat.le_of_ble_eq_true rfl) (t_X12_berthAt hr x11 x1 (nI 6) e_x12) ?_
      refine jg_iconst (v := (-1)) dX12_leaves_70 (by decide) ?_
      obtain ⟨q13, h⟩ := gd_some h
      refine rs_swD (s := x11) (i := x12) (x := (-1)) dX12_leaves_71 hr q13 ?_
      refine jg_aload_n dX12_leaves_72 rfl ?_
      refine jg_iload_n dX12_leaves_73 rfl ?_
      refine jg_bipush (v := nI 9) dX12_leaves_74 (by decide) ?_
      refine jg_iconst (v := nI 4) dX12_leaves_76 (by decide) ?_
      obtain ⟨x14, e_x14, h⟩ := bd_some h
      refine rs_call (As := [.int a1, .int (nI 9), .int (nI 4)]) kv_X12_111 dX12_leaves_77 hr rfl rfl (by decide) (Nat.le_of_ble_eq_true rfl) rfl (by decide) (Nat.le_of_ble_eq_true rfl) (t_X12_sets hr (pW x11 x12 (-1)) a1 (nI 9) (nI 4) e_x14) ?_
      refine jg_aload_n dX12_leaves_80 rfl ?_
      refine jg_iload_n dX12_leaves_81 rfl ?_
      refine jg_bipush (v := nI 13) dX12_leaves_82 (by decide) ?_
      refine jg_aload_n dX12_leaves_84 rfl ?_
      obtain ⟨x15, e_x15, h⟩ := bd_some h
      refine rs_call (As := []) kv_X12_73 dX12_leaves_85 hr rfl rfl (by decide) (Nat.le_of_ble_eq_true rfl) rfl (by decide) (Nat.le_of_ble_eq_true rfl) (t_X12_hour hr x14 e_x15) ?_
      obtain ⟨x16, e_x16, h⟩ := bd_some h
      refine rs_call (As := [.int a1, .int (nI 13), .int x15]) kv_X12_111 dX12_leaves_88 hr rfl rfl (by decide) (Nat.le_of_ble_eq_true rfl) rfl (by decide) (Nat.le_of_ble_eq_true rfl) (t_X12_sets hr x14 a1 (nI 13) x15 e_x16) ?_
      refine jg_aload_n dX12_leaves_91 rfl ?_
      refine jg_iload_n dX12_leaves_92 rfl ?_
      refine jg_aload_n dX12_leaves_93 rfl ?_
      refine jg_iload_n dX12_leaves_94 rfl ?_
      refine jg_bipush (v := nI 17) dX12_leaves_95 (by decide) ?_
      obtain ⟨x17, e_x17, h⟩ := bd_some h
      refine rs_call (As := [.int a1, .int (nI 17)]) kv_X12_137 dX12_leaves_97 hr rfl rfl (by decide) (Nat.le_of_ble_eq_true rfl) rfl (by decide) (Nat.le_of_ble_eq_true rfl) (t_X12_of hr x16 a1 (nI 17) e_x17) ?_
      refine jg_aload_n dX12_leaves_100 rfl ?_
      obtain ⟨x18, e_x18, h⟩ := bd_some h
      refine rs_call (As := []) kv_X12_73 dX12_leaves_101 hr rfl rfl (by decide) (Nat.le_of_ble_eq_true rfl) rfl (by decide) (Nat.le_of_ble_eq_true rfl) (t_X12_hour hr x16 e_x18) ?_
      refine jg_aload_n dX12_leaves_104 rfl ?_
      refine jg_iload_n dX12_leaves_105 rfl ?_
      refine jg_bipush (v := nI 8) dX12_leaves_106 (by decide) ?_
      obtain ⟨x19, e_x19, h⟩ := bd_some h
      refine rs_call (As := [.int a1, .int (nI 8)]) kv_X12_137 dX12_leaves_108 hr rfl rfl (by decide) (Nat.le_of_ble_eq_true rfl) rfl (by decide) (Nat.le_of_ble_eq_true rfl) (t_X12_of hr x16 a1 (nI 8) e_x19) ?_
      refine jg_isub (x := x18) (y := x19) dX12_leaves_111  ?_
      obtain ⟨x20, e_x20, h⟩ := bd_some h
      refine rs_call (As := [.int a1, .int x17, .int (x18 - x19)]) kv_X12_166 dX12_leaves_112 hr rfl rfl (by decide) (Nat.le_of_ble_eq_true rfl) rfl (by decide) (Nat.le_of_ble_eq_true rfl) (t_X12_dueOf hr F x16 a1 x17 (x18 - x19) e_x20) ?_
      refine jg_istore (L' := [some (.ref r), some (.int a1), some (.int x1), some (.int x2), some (.int x20.1), none]) dX12_leaves_115 (by decide) rfl ?_
      refine jg_aload_n dX12_leaves_117 rfl ?_
      refine jg_iload_n dX12_leaves_118 rfl ?_
      refine jg_bipush (v := nI 14) dX12_leaves_119 (by decide) ?_
      refine jg_iload dX12_leaves_121 rfl ?_
      obtain ⟨x21, e_x21, h⟩ := bd_some h
      refine rs_call (As := [.int a1, .int (nI 14), .int x20.1]) kv_X12_111 dX12_leaves_123 hr rfl rfl (by decide) (Nat.le_of_ble_eq_true rfl) rfl (by decide) (Nat.le_of_ble_eq_true rfl) (t_X12_sets hr x20.2 a1 (nI 14) x20.1 e_x21) ?_
      refine jg_aload_n dX12_leaves_126 rfl ?_
      refine jg_iload_n dX12_leaves_127 rfl ?_
      refine jg_iconst (v := nI 0) dX12_leaves_128 (by decide) ?_
      obtain ⟨x22, e_x22, h⟩ := bd_some h
      refine rs_call (As := [.int a1, .int (nI 0)]) kv_X12_137 dX12_leaves_129 hr rfl rfl (by decide) (Nat.le_of_ble_eq_true rfl) rfl (by decide) (Nat.le_of_ble_eq_true rfl) (t_X12_of hr x21 a1 (nI 0) e_x22) ?_
      refine jg_istore (L' := [some (.ref r), some (.int a1), some (.int x1), some (.int x2), some (.int x20.1), some (.int x22)]) dX12_leaves_132 (by decide) rfl ?_
      refine jg_aload_n dX12_leaves_134 rfl ?_
      refine rs_ga fl_X12_13 dX12_leaves_135 hr rfl ?_
      refine jg_iload dX12_leaves_138 rfl ?_
      refine jg_iconst (v := nI 0) dX12_leaves_140 (by decide) ?_
      obtain ⟨x23, e_x23, h⟩ := bd_some h
      refine rs_callS (As := [.int x22, .int (nI 0)]) ks_X12_170 dX12_leaves_141 rfl (by decide) (Nat.le_of_ble_eq_true rfl) rfl (by decide) (Nat.le_of_ble_eq_true rfl) (t_X12_payerAt hr x21 x22 (nI 0) e_x23) ?_
      refine jg_aload_n dX12_leaves_144 rfl ?_
      refine rs_ga fl_X12_13 dX12_leaves_145 hr rfl ?_
      refine jg_iload dX12_leaves_148 rfl ?_
      refine jg_iconst (v := nI 0) dX12_leaves_150 (by decide) ?_
      obtain ⟨x24, e_x24, h⟩ := bd_some h
      refine rs_callS (As := [.int x22, .int (nI 0)]) ks_X12_170 dX12_leaves_151 rfl (by decide) (Nat.le_of_ble_eq_true rfl) rfl (by decide) (Nat.le_of_ble_eq_true rfl) (t_X12_payerAt hr x21 x22 (nI 0) e_x24) ?_
      obtain ⟨q25, h⟩ := gd_some h
      refine rs_lwD (s := x21) (i := x24) dX12_leaves_154 hr q25 ?_
      refine jg_iload dX12_leaves_155 rfl ?_
      refine jg_i2l dX12_leaves_157 ?_
      obtain ⟨x26, e_x26, h⟩ := bd_some h
      refine rs_callS (As := [.int (gW x21 x24), .long x20.1.toInt64]) ks_X12_173 dX12_leaves_158 rfl (by decide) (Nat.le_of_ble_eq_true rfl) rfl (by decide) (Nat.le_of_ble_eq_true rfl) (t_X12_added hr x21 (gW x21 x24) x20.1.toInt64 e_x26) ?_
      obtain ⟨q27, h⟩ := gd_some h
      refine rs_swD (s := x21) (i := x23) (x := x26) dX12_leaves_161 hr q27 ?_
      refine jg_aload_n dX12_leaves_162 rfl ?_
      refine rs_ga fl_X12_13 dX12_leaves_163 hr rfl ?_
      refine jg_iload dX12_leaves_166 rfl ?_
      refine jg_iconst (v := nI 2) dX12_leaves_168 (by decide) ?_
      obtain ⟨x28, e_x28, h⟩ := bd_some h
      refine rs_callS (As := [.int x22, .int (nI 2)]) ks_X12_170 dX12_leaves_169 rfl (by decide) (Nat.le_of_ble_eq_true rfl) rfl (by decide) (Nat.le_of_ble_eq_true rfl) (t_X12_payerAt hr (pW x21 x23 x26) x22 (nI 2) e_x28) ?_
      refine jg_aload_n dX12_leaves_172 rfl ?_
      refine rs_ga fl_X12_13 dX12_leaves_173 hr rfl ?_
      refine jg_iload dX12_leaves_176 rfl ?_
      refine jg_iconst (v := nI 2) dX12_leaves_178 (by decide) ?_
      obtain ⟨x29, e_x29, h⟩ := bd_some h
      refine rs_callS (As := [.int x22, .int (nI 2)]) ks_X12_170 dX12_leaves_179 rfl (by decide) (Nat.le_of_ble_eq_true rfl) rfl (by decide) (Nat.le_of_ble_eq_true rfl) (t_X12_payerAt hr (pW x21 x23 x26) x22 (nI 2) e_x29) ?_
      obtain ⟨q30, h⟩ := gd_some h
      refine rs_lwD (s := (pW x21 x23 x26)) (i := x29) dX12_leaves_182 hr q30 ?_
      refine jg_iload dX12_leaves_183 rfl ?_
      refine jg_i2l dX12_leaves_185 ?_
      obtain ⟨x31, e_x31, h⟩ := bd_some h
      refine rs_callS (As := [.int (gW (pW x21 x23 x26) x29), .long x20.1.toInt64]) ks_X12_173 dX12_leaves_186 rfl (by decide) (Nat.le_of_ble_eq_true rfl) rfl (by decide) (Nat.le_of_ble_eq_true rfl) (t_X12_added hr (pW x21 x23 x26) (gW (pW x21 x23 x26) x29) x20.1.toInt64 e_x31) ?_
      obtain ⟨q32, h⟩ := gd_some h
      refine rs_swD (s := (pW x21 x23 x26)) (i := x28) (x := x31) dX12_leaves_189 hr q32 ?_
      refine jg_aload_n dX12_leaves_190 rfl ?_
      refine rs_ga fl_X12_13 dX12_leaves_191 hr rfl ?_
      refine jg_sipush (v := nI 2652) dX12_leaves_194 (by decide) ?_
      refine jg_aload_n dX12_leaves_197 rfl ?_
      refine rs_ga fl_X12_13 dX12_leaves_198 hr rfl ?_
      refine jg_sipush (v := nI 2652) dX12_leaves_201 (by decide) ?_
      refine rs_lwD (s := (pW (pW x21 x23 x26) x28 x31)) (i := (nI 2652)) dX12_leaves_204 hr (by decide) ?_
      refine jg_iload dX12_leaves_205 rfl ?_
      refine jg_i2l dX12_leaves_207 ?_
      obtain ⟨x33, e_x33, h⟩ := bd_some h
      refine rs_callS (As := [.int (gW (pW (pW x21 x23 x26) x28 x31) (nI 2652)), .long x20.1.toInt64]) ks_X12_173 dX12_leaves_208 rfl (by decide) (Nat.le_of_ble_eq_true rfl) rfl (by decide) (Nat.le_of_ble_eq_true rfl) (t_X12_added hr (pW (pW x21 x23 x26) x28 x31) (gW (pW (pW x21 x23 x26) x28 x31) (nI 2652)) x20.1.toInt64 e_x33) ?_
      refine rs_swD (s := (pW (pW x21 x23 x26) x28 x31)) (i := (nI 2652)) (x := x33) dX12_leaves_211 hr (by decide) ?_
      refine jg_aload_n dX12_leaves_212 rfl ?_
      refine rs_ga fl_X12_13 dX12_leaves_213 hr rfl ?_
      refine jg_sipush (v := nI 2653) dX12_leaves_216 (by decide) ?_
      refine jg_aload_n dX12_leaves_219 rfl ?_
      refine rs_ga fl_X12_13 dX12_leaves_220 hr rfl ?_
      refine jg_sipush (v := nI 2653) dX12_leaves_223 (by decide) ?_
      refine rs_lwD (s := (pW (pW (pW x21 x23 x26) x28 x31) (nI 2652) x33)) (i := (nI 2653)) dX12_leaves_226 hr (by decide) ?_
      refine jg_iload dX12_leaves_227 rfl ?_
      refine jg_i2l dX12_leaves_229 ?_
      obtain ⟨x34, e_x34, h⟩ := bd_some h
      refine rs_callS (As := [.int (gW (pW (pW (pW x21 x23 x26) x28 x31) (nI 2652) x33) (nI 2653)), .long x20.1.toInt64]) ks_X12_173 dX12_leaves_230 rfl (by decide) (Nat.le_of_ble_eq_true rfl) rfl (by decide) (Nat.le_of_ble_eq_true rfl) (t_X12_added hr (pW (pW (pW x21 x23 x26) x28 x31) (nI 2652) x33) (gW (pW (pW (pW x21 x23 x26) x28 x31) (nI 2652) x33) (nI 2653)) x20.1.toInt64 e_x34) ?_
      refine rs_swD (s := (pW (pW (pW x21 x23 x26) x28 x31) (nI 2652) x33)) (i := (nI 2653)) (x := x34) dX12_leaves_233 hr (by decide) ?_
      refine jg_iload dX12_leaves_234 rfl ?_
      refine jg_if_le (x := x20.1) (tgt := 248) dX12_leaves_236 (by decide) (fun c35 => ?_) (fun c35 => ?_)
      · replace h := it_t c35 h
        obtain rfl := Option.some.inj h
        exact jg_return dX12_leaves_248 rfl ⟨rfl, rfl⟩
      · replace h := it_f c35 h
        refine jg_aload_n dX12_leaves_239 rfl ?_
        refine rs_ga fl_X12_13 dX12_leaves_240 hr rfl ?_
        refine jg_sipush (v := nI 2660) dX12_leaves_243 (by decide) ?_
        refine jg_iconst (v := nI 1) dX12_leaves_246 (by decide) ?_
        refine rs_swD (s := (pW (pW (pW (pW x21 x23 x26) x28 x31) (nI 2652) x33) (nI 2653) x34)) (i := (nI 2660)) (x := (nI 1)) dX12_leaves_247 hr (by decide) ?_
        obtain rfl := Option.some.inj h
        exact jg_return dX12_leaves_248 rfl ⟨rfl, rfl⟩
    · replace h := it_t c8 h
      obtain rfl := Option.some.inj h
      exact jg_return dX12_leaves_41 rfl ⟨rfl, rfl⟩
theorem dX12_keyOf_0 : decode cX12_keyOf 0 = .ok (.iload_n 2, 1) := by decide +kernel
theorem dX12_keyOf_1 : decode cX12_keyOf 1 = .ok (.ifCond .ne 13, 3) := by decide +kernel
theorem dX12_keyOf_4 : decode cX12_keyOf 4 = .ok (.aload_n 0, 1) := by decide +kernel
theorem dX12_keyOf_5 : decode cX12_keyOf 5 = .ok (.iload_n 1, 1) := by decide +kernel
theorem dX12_keyOf_6 : decode cX12_keyOf 6 = .ok (.bipush 8, 2) := by decide +kernel
theorem dX12_keyOf_8 : decode cX12_keyOf 8 = .ok (.invokevirtual 137, 3) := by decide +kernel
theorem dX12_keyOf_11 : decode cX12_keyOf 11 = .ok (.goto 37, 3) := by decide +kernel
theorem dX12_keyOf_14 : decode cX12_keyOf 14 = .ok (.iload_n 2, 1) := by decide +kernel
theorem dX12_keyOf_15 : decode cX12_keyOf 15 = .ok (.iconst 1, 1) := by decide +kernel
theorem dX12_keyOf_16 : decode cX12_keyOf 16 = .ok (.if_icmp .ne 12, 3) := by decide +kernel
theorem dX12_keyOf_19 : decode cX12_keyOf 19 = .ok (.aload_n 0, 1) := by decide +kernel
theorem dX12_keyOf_20 : decode cX12_keyOf 20 = .ok (.iload_n 1, 1) := by decide +kernel
theorem dX12_keyOf_21 : decode cX12_keyOf 21 = .ok (.iconst 2, 1) := by decide +kernel
theorem dX12_keyOf_22 : decode cX12_keyOf 22 = .ok (.invokevirtual 137, 3) := by decide +kernel
theorem dX12_keyOf_25 : decode cX12_keyOf 25 = .ok (.goto 23, 3) := by decide +kernel
theorem dX12_keyOf_28 : decode cX12_keyOf 28 = .ok (.iload_n 2, 1) := by decide +kernel
theorem dX12_keyOf_29 : decode cX12_keyOf 29 = .ok (.iconst 2, 1) := by decide +kernel
theorem dX12_keyOf_30 : decode cX12_keyOf 30 = .ok (.if_icmp .ne 12, 3) := by decide +kernel
theorem dX12_keyOf_33 : decode cX12_keyOf 33 = .ok (.aload_n 0, 1) := by decide +kernel
theorem dX12_keyOf_34 : decode cX12_keyOf 34 = .ok (.iload_n 1, 1) := by decide +kernel
theorem dX12_keyOf_35 : decode cX12_keyOf 35 = .ok (.iconst 3, 1) := by decide +kernel
theorem dX12_keyOf_36 : decode cX12_keyOf 36 = .ok (.invokevirtual 137, 3) := by decide +kernel
theorem dX12_keyOf_39 : decode cX12_keyOf 39 = .ok (.goto 9, 3) := by decide +kernel
theorem dX12_keyOf_42 : decode cX12_keyOf 42 = .ok (.aload_n 0, 1) := by decide +kernel
theorem dX12_keyOf_43 : decode cX12_keyOf 43 = .ok (.iload_n 1, 1) := by decide +kernel
theorem dX12_keyOf_44 : decode cX12_keyOf 44 = .ok (.iconst 1, 1) := by decide +kernel
theorem dX12_keyOf_45 : decode cX12_keyOf 45 = .ok (.invokevirtual 137, 3) := by decide +kernel
theorem dX12_keyOf_48 : decode cX12_keyOf 48 = .ok (.ireturn, 1) := by decide +kernel
noncomputable def o_X12_keyOf (s : rs_S) (a1 : Int32) (a2 : Int32) : Option (Int32) := if a2 = 0 then ((o_X12_of s a1 (nI 8)).bind fun x7 => (some x7)) else (if a2 = (nI 1) then ((o_X12_of s a1 (nI 2)).bind fun x6 => (some x6)) else (if a2 = (nI 2) then ((o_X12_of s a1 (nI 3)).bind fun x5 => (some x5)) else ((o_X12_of s a1 (nI 1)).bind fun x4 => (some x4))))
set_option maxHeartbeats 4000000 in
theorem t_X12_keyOf {Γ : jg_G} {g : Nat → jg_C} {n r : Nat} (hr : r + 11 ≤ n) (s : rs_S) (a1 : Int32) (a2 : Int32)  {x : Int32} (h : o_X12_keyOf s a1 a2 = some x) : jc Γ mX12_keyOf 2 0 0 [some (.ref r), some (.int a1), some (.int a2)] (rs_h g r s, n) (.inl (some (.int x))) (rs_h g r s, n) := by
  refine jc_of ?_
  rw [o_X12_keyOf] at h
  refine jg_iload_n dX12_keyOf_0 rfl ?_
  refine jg_if_ne (x := a2) (tgt := 14) dX12_keyOf_1 (by decide) (fun c1 => ?_) (fun c1 => ?_)
  · replace h := it_f c1 h
    refine jg_iload_n dX12_keyOf_14 rfl ?_
    refine jg_iconst (v := nI 1) dX12_keyOf_15 (by decide) ?_
    refine jg_icmp_ne (x := a2) (y := (nI 1)) (tgt := 28) dX12_keyOf_16 (by decide) (fun c2 => ?_) (fun c2 => ?_)
    · replace h := it_f c2 h
      refine jg_iload_n dX12_keyOf_28 rfl ?_
      refine jg_iconst (v := nI 2) dX12_keyOf_29 (by decide) ?_
      refine jg_icmp_ne (x := a2) (y := (nI 2)) (tgt := 42) dX12_keyOf_30 (by decide) (fun c3 => ?_) (fun c3 => ?_)
      · replace h := it_f c3 h
        refine jg_aload_n dX12_keyOf_42 rfl ?_
        refine jg_iload_n dX12_keyOf_43 rfl ?_
        refine jg_iconst (v := nI 1) dX12_keyOf_44 (by decide) ?_
        obtain ⟨x4, e_x4, h⟩ := bd_some h
        refine rs_call (As := [.int a1, .int (nI 1)]) kv_X12_137 dX12_keyOf_45 hr rfl rfl (by decide) (Nat.le_of_ble_eq_true rfl) rfl (by decide) (Nat.le_of_ble_eq_true rfl) (t_X12_of hr s a1 (nI 1) e_x4) ?_
        obtain rfl := Option.some.inj h
        exact jg_ireturn dX12_keyOf_48 rfl ⟨rfl, rfl⟩
      · replace h := it_t c3 h
        refine jg_aload_n dX12_keyOf_33 rfl ?_
        refine jg_iload_n dX12_keyOf_34 rfl ?_
        refine jg_iconst (v := nI 3) dX12_keyOf_35 (by decide) ?_
        obtain ⟨x5, e_x5, h⟩ := bd_some h
        refine rs_call (As := [.int a1, .int (nI 3)]) kv_X12_137 dX12_keyOf_36 hr rfl rfl (by decide) (Nat.le_of_ble_eq_true rfl) rfl (by decide) (Nat.le_of_ble_eq_true rfl) (t_X12_of hr s a1 (nI 3) e_x5) ?_
        refine jg_goto (tgt := 48) dX12_keyOf_39 (by decide) ?_
        obtain rfl := Option.some.inj h
        exact jg_ireturn dX12_keyOf_48 rfl ⟨rfl, rfl⟩
    · replace h := it_t c2 h
      refine jg_aload_n dX12_keyOf_19 rfl ?_
      refine jg_iload_n dX12_keyOf_20 rfl ?_
      refine jg_iconst (v := nI 2) dX12_keyOf_21 (by decide) ?_
      obtain ⟨x6, e_x6, h⟩ := bd_some h
      refine rs_call (As := [.int a1, .int (nI 2)]) kv_X12_137 dX12_keyOf_22 hr rfl rfl (by decide) (Nat.le_of_ble_eq_true rfl) rfl (by decide) (Nat.le_of_ble_eq_true rfl) (t_X12_of hr s a1 (nI 2) e_x6) ?_
      refine jg_goto (tgt := 48) dX12_keyOf_25 (by decide) ?_
      obtain rfl := Option.some.inj h
      exact jg_ireturn dX12_keyOf_48 rfl ⟨rfl, rfl⟩
  · replace h := it_t c1 h
    refine jg_aload_n dX12_keyOf_4 rfl ?_
    refine jg_iload_n dX12_keyOf_5 rfl ?_
    refine jg_bipush (v := nI 8) dX12_keyOf_6 (by decide) ?_
    obtain ⟨x7, e_x7, h⟩ := bd_some h
    refine rs_call (As := [.int a1, .int (nI 8)]) kv_X12_137 dX12_keyOf_8 hr rfl rfl (by decide) (Nat.le_of_ble_eq_true rfl) rfl (by decide) (Nat.le_of_ble_eq_true rfl) (t_X12_of hr s a1 (nI 8) e_x7) ?_
    refine jg_goto (tgt := 48) dX12_keyOf_11 (by decide) ?_
    obtain rfl := Option.some.inj h
    exact jg_ireturn dX12_keyOf_48 rfl ⟨rfl, rfl⟩
theorem dX12_lines_0 : decode cX12_lines 0 = .ok (.aload_n 0, 1) := by decide +kernel
theorem dX12_lines_1 : decode cX12_lines 1 = .ok (.iconst 4, 1) := by decide +kernel
theorem dX12_lines_2 : decode cX12_lines 2 = .ok (.iconst 0, 1) := by decide +kernel
theorem dX12_lines_3 : decode cX12_lines 3 = .ok (.invokevirtual 147, 3) := by decide +kernel
theorem dX12_lines_6 : decode cX12_lines 6 = .ok (.istore_n 1, 1) := by decide +kernel
theorem dX12_lines_7 : decode cX12_lines 7 = .ok (.iload_n 1, 1) := by decide +kernel
theorem dX12_lines_8 : decode cX12_lines 8 = .ok (.iconst 2, 1) := by decide +kernel
theorem dX12_lines_9 : decode cX12_lines 9 = .ok (.idiv, 1) := by decide +kernel
theorem dX12_lines_10 : decode cX12_lines 10 = .ok (.istore_n 2, 1) := by decide +kernel
theorem dX12_lines_11 : decode cX12_lines 11 = .ok (.iload_n 1, 1) := by decide +kernel
theorem dX12_lines_12 : decode cX12_lines 12 = .ok (.iconst 2, 1) := by decide +kernel
theorem dX12_lines_13 : decode cX12_lines 13 = .ok (.irem, 1) := by decide +kernel
theorem dX12_lines_14 : decode cX12_lines 14 = .ok (.iconst 1, 1) := by decide +kernel
theorem dX12_lines_15 : decode cX12_lines 15 = .ok (.if_icmp .ne 7, 3) := by decide +kernel
theorem dX12_lines_18 : decode cX12_lines 18 = .ok (.iconst 1, 1) := by decide +kernel
theorem dX12_lines_19 : decode cX12_lines 19 = .ok (.goto 4, 3) := by decide +kernel
theorem dX12_lines_22 : decode cX12_lines 22 = .ok (.iconst 0, 1) := by decide +kernel
theorem dX12_lines_23 : decode cX12_lines 23 = .ok (.istore_n 3, 1) := by decide +kernel
theorem dX12_lines_24 : decode cX12_lines 24 = .ok (.aload_n 0, 1) := by decide +kernel
theorem dX12_lines_25 : decode cX12_lines 25 = .ok (.iconst 0, 1) := by decide +kernel
theorem dX12_lines_26 : decode cX12_lines 26 = .ok (.putfield 150, 3) := by decide +kernel
theorem dX12_lines_29 : decode cX12_lines 29 = .ok (.iconst 0, 1) := by decide +kernel
theorem dX12_lines_30 : decode cX12_lines 30 = .ok (.istore 4, 2) := by decide +kernel
theorem dX12_lines_32 : decode cX12_lines 32 = .ok (.iload 4, 2) := by decide +kernel
theorem dX12_lines_34 : decode cX12_lines 34 = .ok (.aload_n 0, 1) := by decide +kernel
theorem dX12_lines_35 : decode cX12_lines 35 = .ok (.getfield 13, 3) := by decide +kernel
theorem dX12_lines_38 : decode cX12_lines 38 = .ok (.sipush 1211, 3) := by decide +kernel
theorem dX12_lines_41 : decode cX12_lines 41 = .ok (.iaload, 1) := by decide +kernel
theorem dX12_lines_42 : decode cX12_lines 42 = .ok (.if_icmp .ge 130, 3) := by decide +kernel
theorem dX12_lines_45 : decode cX12_lines 45 = .ok (.aload_n 0, 1) := by decide +kernel
theorem dX12_lines_46 : decode cX12_lines 46 = .ok (.iload 4, 2) := by decide +kernel
theorem dX12_lines_48 : decode cX12_lines 48 = .ok (.bipush 9, 2) := by decide +kernel
theorem dX12_lines_50 : decode cX12_lines 50 = .ok (.invokevirtual 137, 3) := by decide +kernel
theorem dX12_lines_53 : decode cX12_lines 53 = .ok (.ifCond .eq 6, 3) := by decide +kernel
theorem dX12_lines_56 : decode cX12_lines 56 = .ok (.goto 110, 3) := by decide +kernel
theorem dX12_lines_59 : decode cX12_lines 59 = .ok (.aload_n 0, 1) := by decide +kernel
theorem dX12_lines_60 : decode cX12_lines 60 = .ok (.getfield 150, 3) := by decide +kernel
theorem dX12_lines_63 : decode cX12_lines 63 = .ok (.istore 5, 2) := by decide +kernel
theorem dX12_lines_65 : decode cX12_lines 65 = .ok (.iload 5, 2) := by decide +kernel
theorem dX12_lines_67 : decode cX12_lines 67 = .ok (.ifCond .le 80, 3) := by decide +kernel
theorem dX12_lines_70 : decode cX12_lines 70 = .ok (.iload_n 3, 1) := by decide +kernel
theorem dX12_lines_71 : decode cX12_lines 71 = .ok (.ifCond .eq 30, 3) := by decide +kernel
theorem dX12_lines_74 : decode cX12_lines 74 = .ok (.aload_n 0, 1) := by decide +kernel
theorem dX12_lines_75 : decode cX12_lines 75 = .ok (.iload 4, 2) := by decide +kernel
theorem dX12_lines_77 : decode cX12_lines 77 = .ok (.iload_n 2, 1) := by decide +kernel
theorem dX12_lines_78 : decode cX12_lines 78 = .ok (.invokevirtual 153, 3) := by decide +kernel
theorem dX12_lines_81 : decode cX12_lines 81 = .ok (.aload_n 0, 1) := by decide +kernel
theorem dX12_lines_82 : decode cX12_lines 82 = .ok (.aload_n 0, 1) := by decide +kernel
theorem dX12_lines_83 : decode cX12_lines 83 = .ok (.getfield 23, 3) := by decide +kernel
theorem dX12_lines_86 : decode cX12_lines 86 = .ok (.iload 5, 2) := by decide +kernel
theorem dX12_lines_88 : decode cX12_lines 88 = .ok (.iconst 1, 1) := by decide +kernel
theorem dX12_lines_89 : decode cX12_lines 89 = .ok (.isub, 1) := by decide +kernel
theorem dX12_lines_90 : decode cX12_lines 90 = .ok (.iaload, 1) := by decide +kernel
theorem dX12_lines_91 : decode cX12_lines 91 = .ok (.iload_n 2, 1) := by decide +kernel
theorem dX12_lines_92 : decode cX12_lines 92 = .ok (.invokevirtual 153, 3) := by decide +kernel
theorem dX12_lines_95 : decode cX12_lines 95 = .ok (.if_icmp .le 52, 3) := by decide +kernel
theorem dX12_lines_98 : decode cX12_lines 98 = .ok (.goto 27, 3) := by decide +kernel
theorem dX12_lines_101 : decode cX12_lines 101 = .ok (.aload_n 0, 1) := by decide +kernel
theorem dX12_lines_102 : decode cX12_lines 102 = .ok (.iload 4, 2) := by decide +kernel
theorem dX12_lines_104 : decode cX12_lines 104 = .ok (.iload_n 2, 1) := by decide +kernel
theorem dX12_lines_105 : decode cX12_lines 105 = .ok (.invokevirtual 153, 3) := by decide +kernel
theorem dX12_lines_108 : decode cX12_lines 108 = .ok (.aload_n 0, 1) := by decide +kernel
theorem dX12_lines_109 : decode cX12_lines 109 = .ok (.aload_n 0, 1) := by decide +kernel
theorem dX12_lines_110 : decode cX12_lines 110 = .ok (.getfield 23, 3) := by decide +kernel
theorem dX12_lines_113 : decode cX12_lines 113 = .ok (.iload 5, 2) := by decide +kernel
theorem dX12_lines_115 : decode cX12_lines 115 = .ok (.iconst 1, 1) := by decide +kernel
theorem dX12_lines_116 : decode cX12_lines 116 = .ok (.isub, 1) := by decide +kernel
theorem dX12_lines_117 : decode cX12_lines 117 = .ok (.iaload, 1) := by decide +kernel
theorem dX12_lines_118 : decode cX12_lines 118 = .ok (.iload_n 2, 1) := by decide +kernel
theorem dX12_lines_119 : decode cX12_lines 119 = .ok (.invokevirtual 153, 3) := by decide +kernel
theorem dX12_lines_122 : decode cX12_lines 122 = .ok (.if_icmp .ge 25, 3) := by decide +kernel
theorem dX12_lines_125 : decode cX12_lines 125 = .ok (.aload_n 0, 1) := by decide +kernel
theorem dX12_lines_126 : decode cX12_lines 126 = .ok (.getfield 23, 3) := by decide +kernel
theorem dX12_lines_129 : decode cX12_lines 129 = .ok (.iload 5, 2) := by decide +kernel
theorem dX12_lines_131 : decode cX12_lines 131 = .ok (.aload_n 0, 1) := by decide +kernel
theorem dX12_lines_132 : decode cX12_lines 132 = .ok (.getfield 23, 3) := by decide +kernel
theorem dX12_lines_135 : decode cX12_lines 135 = .ok (.iload 5, 2) := by decide +kernel
theorem dX12_lines_137 : decode cX12_lines 137 = .ok (.iconst 1, 1) := by decide +kernel
theorem dX12_lines_138 : decode cX12_lines 138 = .ok (.isub, 1) := by decide +kernel
theorem dX12_lines_139 : decode cX12_lines 139 = .ok (.iaload, 1) := by decide +kernel
theorem dX12_lines_140 : decode cX12_lines 140 = .ok (.iastore, 1) := by decide +kernel
theorem dX12_lines_141 : decode cX12_lines 141 = .ok (.iinc 5 (-1), 3) := by decide +kernel
theorem dX12_lines_144 : decode cX12_lines 144 = .ok (.goto (-79), 3) := by decide +kernel
theorem dX12_lines_147 : decode cX12_lines 147 = .ok (.aload_n 0, 1) := by decide +kernel
theorem dX12_lines_148 : decode cX12_lines 148 = .ok (.getfield 23, 3) := by decide +kernel
theorem dX12_lines_151 : decode cX12_lines 151 = .ok (.iload 5, 2) := by decide +kernel
theorem dX12_lines_153 : decode cX12_lines 153 = .ok (.iload 4, 2) := by decide +kernel
theorem dX12_lines_155 : decode cX12_lines 155 = .ok (.iastore, 1) := by decide +kernel
theorem dX12_lines_156 : decode cX12_lines 156 = .ok (.aload_n 0, 1) := by decide +kernel
theorem dX12_lines_157 : decode cX12_lines 157 = .ok (.dup, 1) := by decide +kernel
theorem dX12_lines_158 : decode cX12_lines 158 = .ok (.getfield 150, 3) := by decide +kernel
theorem dX12_lines_161 : decode cX12_lines 161 = .ok (.iconst 1, 1) := by decide +kernel
theorem dX12_lines_162 : decode cX12_lines 162 = .ok (.iadd, 1) := by decide +kernel
theorem dX12_lines_163 : decode cX12_lines 163 = .ok (.putfield 150, 3) := by decide +kernel
theorem dX12_lines_166 : decode cX12_lines 166 = .ok (.iinc 4 1, 3) := by decide +kernel
theorem dX12_lines_169 : decode cX12_lines 169 = .ok (.goto (-137), 3) := by decide +kernel
theorem dX12_lines_172 : decode cX12_lines 172 = .ok (.return_, 1) := by decide +kernel
noncomputable def o_X12_lines_65 (F : Nat) (l2 : Int32) (l3 : Int32) (l4 : Int32)  : Nat → Int32 → rs_S → Option (Int32 × rs_S)
  | 0, _, _ => none
  | f + 1, l5, s => if l5 ≤ 0 then (some (l5, s)) else (if l3 = 0 then ((o_X12_keyOf s l4 l2).bind fun x8 => (if iL (l5 - (nI 1)) 80 then ((o_X12_keyOf s (gR s 3 (l5 - (nI 1))) l2).bind fun x10 => (if x10 ≤ x8 then (some (l5, s)) else (if iL l5 80 then (o_X12_lines_65 F l2 l3 l4 f (l5 + (-1)) (pR s 3 l5 (gR s 3 (l5 - (nI 1))))) else none))) else none)) else ((o_X12_keyOf s l4 l2).bind fun x13 => (if iL (l5 - (nI 1)) 80 then ((o_X12_keyOf s (gR s 3 (l5 - (nI 1))) l2).bind fun x15 => (if x13 ≤ x15 then (some (l5, s)) else (if iL l5 80 then (o_X12_lines_65 F l2 l3 l4 f (l5 + (-1)) (pR s 3 l5 (gR s 3 (l5 - (nI 1))))) else none))) else none)))
set_option maxHeartbeats 4000000 in
theorem t_X12_lines_65 {Γ : jg_G} {g : Nat → jg_C} {n r : Nat} (hr : r + 11 ≤ n) (F : Nat) (l2 : Int32) (l3 : Int32) (l4 : Int32)   (Q : jg_Q) {x : Int32 × rs_S} (K1 : jg Γ mX12_lines 3 0 0 147 [some (.ref r), none, some (.int l2), some (.int l3), some (.int l4), some (.int x.1)] [] (rs_h g r x.2, n) Q)  : ∀ (f : Nat) (l5 : Int32) (s : rs_S), o_X12_lines_65 F l2 l3 l4 f l5 s = some x → jg Γ mX12_lines 3 0 0 65 [some (.ref r), none, some (.int l2), some (.int l3), some (.int l4), some (.int l5)] [] (rs_h g r s, n) Q := by
  intro f
  induction f with
  | zero => intro l5 s h; rw [o_X12_lines_65] at h; cases h
  | succ f ih =>
   intro l5 s h
   rw [o_X12_lines_65] at h
   refine jg_iload dX12_lines_65 rfl ?_
   refine jg_if_le (x := l5) (tgt := 147) dX12_lines_67 (by decide) (fun c6 => ?_) (fun c6 => ?_)
   · replace h := it_t c6 h
     refine jg_fg (L' := [some (.ref r), none, some (.int l2), some (.int l3), some (.int l4), some (.int l5)]) (by repeat (first | exact trivial | refine ⟨rfl, ?_⟩ | show jg_le _ _)) ?_
     obtain rfl := Option.some.inj h
     exact K1
   · replace h := it_f c6 h
     refine jg_iload_n dX12_lines_70 rfl ?_
     refine jg_if_eq (x := l3) (tgt := 101) dX12_lines_71 (by decide) (fun c7 => ?_) (fun c7 => ?_)
     · replace h := it_t c7 h
       refine jg_aload_n dX12_lines_101 rfl ?_
       refine jg_iload dX12_lines_102 rfl ?_
       refine jg_iload_n dX12_lines_104 rfl ?_
       obtain ⟨x8, e_x8, h⟩ := bd_some h
       refine rs_call (As := [.int l4, .int l2]) kv_X12_153 dX12_lines_105 hr rfl rfl (by decide) (Nat.le_of_ble_eq_true rfl) rfl (by decide) (Nat.le_of_ble_eq_true rfl) (t_X12_keyOf hr s l4 l2 e_x8) ?_
       refine jg_aload_n dX12_lines_108 rfl ?_
       refine jg_aload_n dX12_lines_109 rfl ?_
       refine rs_ga fl_X12_23 dX12_lines_110 hr rfl ?_
       refine jg_iload dX12_lines_113 rfl ?_
       refine jg_iconst (v := nI 1) dX12_lines_115 (by decide) ?_
       refine jg_isub (x := l5) (y := (nI 1)) dX12_lines_116  ?_
       obtain ⟨q9, h⟩ := gd_some h
       refine rs_ldD (s := s) (i := (l5 - (nI 1))) (j := 2) dX12_lines_117 hr (by decide) rfl q9 ?_
       refine jg_iload_n dX12_lines_118 rfl ?_
       obtain ⟨x10, e_x10, h⟩ := bd_some h
       refine rs_call (As := [.int (gR s 3 (l5 - (nI 1))), .int l2]) kv_X12_153 dX12_lines_119 hr rfl rfl (by decide) (Nat.le_of_ble_eq_true rfl) rfl (by decide) (Nat.le_of_ble_eq_true rfl) (t_X12_keyOf hr s (gR s 3 (l5 - (nI 1))) l2 e_x10) ?_
       refine jg_icmp_ge (x := x8) (y := x10) (tgt := 147) dX12_lines_122 (by decide) (fun c11 => ?_) (fun c11 => ?_)
       · replace h := it_t c11 h
         refine jg_fg (L' := [some (.ref r), none, some (.int l2), some (.int l3), some (.int l4), some (.int l5)]) (by repeat (first | exact trivial | refine ⟨rfl, ?_⟩ | show jg_le _ _)) ?_
         obtain rfl := Option.some.inj h
         exact K1
       · replace h := it_f c11 h
         refine jg_aload_n dX12_lines_125 rfl ?_
         refine rs_ga fl_X12_23 dX12_lines_126 hr rfl ?_
         refine jg_iload dX12_lines_129 rfl ?_
         refine jg_aload_n dX12_lines_131 rfl ?_
         refine rs_ga fl_X12_23 dX12_lines_132 hr rfl ?_
         refine jg_iload dX12_lines_135 rfl ?_
         refine jg_iconst (v := nI 1) dX12_lines_137 (by decide) ?_
         refine jg_isub (x := l5) (y := (nI 1)) dX12_lines_138  ?_
         refine rs_ldD (s := s) (i := (l5 - (nI 1))) (j := 2) dX12_lines_139 hr (by decide) rfl q9 ?_
         obtain ⟨q12, h⟩ := gd_some h
         refine rs_stD (s := s) (i := l5) (x := (gR s 3 (l5 - (nI 1)))) (j := 2) dX12_lines_140 hr (by decide) rfl q12 ?_
         refine jg_iinc (x := l5) (v := l5 + (-1)) (L' := [some (.ref r), none, some (.int l2), some (.int l3), some (.int l4), some (.int (l5 + (-1)))]) dX12_lines_141 rfl (ic_k _ (by decide)) (by decide) rfl ?_
         refine jg_goto (tgt := 65) dX12_lines_144 (by decide) ?_
         refine jg_fg (L' := [some (.ref r), none, some (.int l2), some (.int l3), some (.int l4), some (.int (l5 + (-1)))]) (by repeat (first | exact trivial | refine ⟨rfl, ?_⟩ | show jg_le _ _)) ?_
         exact ih (l5 + (-1)) (pR s 3 l5 (gR s 3 (l5 - (nI 1)))) h
     · replace h := it_f c7 h
       refine jg_aload_n dX12_lines_74 rfl ?_
       refine jg_iload dX12_lines_75 rfl ?_
       refine jg_iload_n dX12_lines_77 rfl ?_
       obtain ⟨x13, e_x13, h⟩ := bd_some h
       refine rs_call (As := [.int l4, .int l2]) kv_X12_153 dX12_lines_78 hr rfl rfl (by decide) (Nat.le_of_ble_eq_true rfl) rfl (by decide) (Nat.le_of_ble_eq_true rfl) (t_X12_keyOf hr s l4 l2 e_x13) ?_
       refine jg_aload_n dX12_lines_81 rfl ?_
       refine jg_aload_n dX12_lines_82 rfl ?_
       refine rs_ga fl_X12_23 dX12_lines_83 hr rfl ?_
       refine jg_iload dX12_lines_86 rfl ?_
       refine jg_iconst (v := nI 1) dX12_lines_88 (by decide) ?_
       refine jg_isub (x := l5) (y := (nI 1)) dX12_lines_89  ?_
       obtain ⟨q14, h⟩ := gd_some h
       refine rs_ldD (s := s) (i := (l5 - (nI 1))) (j := 2) dX12_lines_90 hr (by decide) rfl q14 ?_
       refine jg_iload_n dX12_lines_91 rfl ?_
       obtain ⟨x15, e_x15, h⟩ := bd_some h
       refine rs_call (As := [.int (gR s 3 (l5 - (nI 1))), .int l2]) kv_X12_153 dX12_lines_92 hr rfl rfl (by decide) (Nat.le_of_ble_eq_true rfl) rfl (by decide) (Nat.le_of_ble_eq_true rfl) (t_X12_keyOf hr s (gR s 3 (l5 - (nI 1))) l2 e_x15) ?_
       refine jg_icmp_le (x := x13) (y := x15) (tgt := 147) dX12_lines_95 (by decide) (fun c16 => ?_) (fun c16 => ?_)
       · replace h := it_t c16 h
         refine jg_fg (L' := [some (.ref r), none, some (.int l2), some (.int l3), some (.int l4), some (.int l5)]) (by repeat (first | exact trivial | refine ⟨rfl, ?_⟩ | show jg_le _ _)) ?_
         obtain rfl := Option.some.inj h
         exact K1
       · replace h := it_f c16 h
         refine jg_goto (tgt := 125) dX12_lines_98 (by decide) ?_
         refine jg_aload_n dX12_lines_125 rfl ?_
         refine rs_ga fl_X12_23 dX12_lines_126 hr rfl ?_
         refine jg_iload dX12_lines_129 rfl ?_
         refine jg_aload_n dX12_lines_131 rfl ?_
         refine rs_ga fl_X12_23 dX12_lines_132 hr rfl ?_
         refine jg_iload dX12_lines_135 rfl ?_
         refine jg_iconst (v := nI 1) dX12_lines_137 (by decide) ?_
         refine jg_isub (x := l5) (y := (nI 1)) dX12_lines_138  ?_
         refine rs_ldD (s := s) (i := (l5 - (nI 1))) (j := 2) dX12_lines_139 hr (by decide) rfl q14 ?_
         obtain ⟨q17, h⟩ := gd_some h
         refine rs_stD (s := s) (i := l5) (x := (gR s 3 (l5 - (nI 1)))) (j := 2) dX12_lines_140 hr (by decide) rfl q17 ?_
         refine jg_iinc (x := l5) (v := l5 + (-1)) (L' := [some (.ref r), none, some (.int l2), some (.int l3), some (.int l4), some (.int (l5 + (-1)))]) dX12_lines_141 rfl (ic_k _ (by decide)) (by decide) rfl ?_
         refine jg_goto (tgt := 65) dX12_lines_144 (by decide) ?_
         refine jg_fg (L' := [some (.ref r), none, some (.int l2), some (.int l3), some (.int l4), some (.int (l5 + (-1)))]) (by repeat (first | exact trivial | refine ⟨rfl, ?_⟩ | show jg_le _ _)) ?_
         exact ih (l5 + (-1)) (pR s 3 l5 (gR s 3 (l5 - (nI 1)))) h
noncomputable def o_X12_lines_32 (F : Nat) (l2 : Int32) (l3 : Int32)  : Nat → Int32 → rs_S → Option (rs_S)
  | 0, _, _ => none
  | f + 1, l4, s => if (gW s (nI 1211)) ≤ l4 then (some s) else ((o_X12_of s l4 (nI 9)).bind fun x4 => (if x4 = 0 then ((o_X12_lines_65 F l2 l3 l4 F (s.1 6) s).bind fun x18 => (if iL x18.1 80 then (o_X12_lines_32 F l2 l3 f (l4 + nI 1) (pN (pR x18.2 3 x18.1 l4) 6 (((pR x18.2 3 x18.1 l4).1 6) + (nI 1)))) else none)) else (o_X12_lines_32 F l2 l3 f (l4 + nI 1) s)))
set_option maxHeartbeats 4000000 in
theorem t_X12_lines_32 {Γ : jg_G} {g : Nat → jg_C} {n r : Nat} (hr : r + 11 ≤ n) (F : Nat) (l2 : Int32) (l3 : Int32)   (Q : jg_Q) {x : rs_S} (K1 : jg Γ mX12_lines 3 0 0 172 [none, none, none, none, none, none] [] (rs_h g r x, n) Q)  : ∀ (f : Nat) (l4 : Int32) (s : rs_S), o_X12_lines_32 F l2 l3 f l4 s = some x → jg Γ mX12_lines 3 0 0 32 [some (.ref r), none, some (.int l2), some (.int l3), some (.int l4), none] [] (rs_h g r s, n) Q := by
  intro f
  induction f with
  | zero => intro l4 s h; rw [o_X12_lines_32] at h; cases h
  | succ f ih =>
   intro l4 s h
   rw [o_X12_lines_32] at h
   refine jg_iload dX12_lines_32 rfl ?_
   refine jg_aload_n dX12_lines_34 rfl ?_
   refine rs_ga fl_X12_13 dX12_lines_35 hr rfl ?_
   refine jg_sipush (v := nI 1211) dX12_lines_38 (by decide) ?_
   refine rs_lwD (s := s) (i := (nI 1211)) dX12_lines_41 hr (by decide) ?_
   refine jg_icmp_ge (x := l4) (y := (gW s (nI 1211))) (tgt := 172) dX12_lines_42 (by decide) (fun c3 => ?_) (fun c3 => ?_)
   · replace h := it_t c3 h
     refine jg_fg (L' := [none, none, none, none, none, none]) (by repeat (first | exact trivial | refine ⟨rfl, ?_⟩ | show jg_le _ _)) ?_
     obtain rfl := Option.some.inj h
     exact K1
   · replace h := it_f c3 h
     refine jg_aload_n dX12_lines_45 rfl ?_
     refine jg_iload dX12_lines_46 rfl ?_
     refine jg_bipush (v := nI 9) dX12_lines_48 (by decide) ?_
     obtain ⟨x4, e_x4, h⟩ := bd_some h
     refine rs_call (As := [.int l4, .int (nI 9)]) kv_X12_137 dX12_lines_50 hr rfl rfl (by decide) (Nat.le_of_ble_eq_true rfl) rfl (by decide) (Nat.le_of_ble_eq_true rfl) (t_X12_of hr s l4 (nI 9) e_x4) ?_
     refine jg_if_eq (x := x4) (tgt := 59) dX12_lines_53 (by decide) (fun c5 => ?_) (fun c5 => ?_)
     · replace h := it_t c5 h
       refine jg_aload_n dX12_lines_59 rfl ?_
       refine rs_ga fl_X12_150 dX12_lines_60 hr rfl ?_
       refine jg_istore (L' := [some (.ref r), none, some (.int l2), some (.int l3), some (.int l4), some (.int (s.1 6))]) dX12_lines_63 (by decide) rfl ?_
       obtain ⟨x18, e_x18, h⟩ := bd_some h
       refine jg_fg (L' := [some (.ref r), none, some (.int l2), some (.int l3), some (.int l4), some (.int (s.1 6))]) (by repeat (first | exact trivial | refine ⟨rfl, ?_⟩ | show jg_le _ _)) ?_
       refine t_X12_lines_65 hr F l2 l3 l4  _ (x := x18) ?_ F (s.1 6) s e_x18
       refine jg_aload_n dX12_lines_147 rfl ?_
       refine rs_ga fl_X12_23 dX12_lines_148 hr rfl ?_
       refine jg_iload dX12_lines_151 rfl ?_
       refine jg_iload dX12_lines_153 rfl ?_
       obtain ⟨q19, h⟩ := gd_some h
       refine rs_stD (s := x18.2) (i := x18.1) (x := l4) (j := 2) dX12_lines_155 hr (by decide) rfl q19 ?_
       refine jg_aload_n dX12_lines_156 rfl ?_
       refine jg_dup dX12_lines_157 rfl ?_
       refine rs_ga fl_X12_150 dX12_lines_158 hr rfl ?_
       refine jg_iconst (v := nI 1) dX12_lines_161 (by decide) ?_
       refine jg_iadd (x := ((pR x18.2 3 x18.1 l4).1 6)) (y := (nI 1)) dX12_lines_162  ?_
       refine rs_putD (s := (pR x18.2 3 x18.1 l4)) (k := 6) (x := (((pR x18.2 3 x18.1 l4).1 6) + (nI 1))) fl_X12_150 dX12_lines_163 hr (by decide) (rfl) rfl rfl ?_
       refine jg_iinc (x := l4) (v := l4 + nI 1) (L' := [some (.ref r), none, some (.int l2), some (.int l3), some (.int (l4 + nI 1)), some (.int x18.1)]) dX12_lines_166 rfl (ic_k _ (by decide)) (by decide) rfl ?_
       refine jg_goto (tgt := 32) dX12_lines_169 (by decide) ?_
       refine jg_fg (L' := [some (.ref r), none, some (.int l2), some (.int l3), some (.int (l4 + nI 1)), none]) (by repeat (first | exact trivial | refine ⟨rfl, ?_⟩ | show jg_le _ _)) ?_
       exact ih (l4 + nI 1) (pN (pR x18.2 3 x18.1 l4) 6 (((pR x18.2 3 x18.1 l4).1 6) + (nI 1))) h
     · replace h := it_f c5 h
       refine jg_goto (tgt := 166) dX12_lines_56 (by decide) ?_
       refine jg_iinc (x := l4) (v := l4 + nI 1) (L' := [some (.ref r), none, some (.int l2), some (.int l3), some (.int (l4 + nI 1)), none]) dX12_lines_166 rfl (ic_k _ (by decide)) (by decide) rfl ?_
       refine jg_goto (tgt := 32) dX12_lines_169 (by decide) ?_
       refine jg_fg (L' := [some (.ref r), none, some (.int l2), some (.int l3), some (.int (l4 + nI 1)), none]) (by repeat (first | exact trivial | refine ⟨rfl, ?_⟩ | show jg_le _ _)) ?_
       exact ih (l4 + nI 1) s h
noncomputable def o_X12_lines (F : Nat) (s : rs_S) : Option (rs_S) := (o_X12_lastOf F s (nI 4) (nI 0)).bind fun x1 => (if (irm x1 (nI 2)) = (nI 1) then ((o_X12_lines_32 F (x1 / (nI 2)) (nI 1) F (nI 0) (pN s 6 (nI 0))).bind fun x21 => (some x21)) else ((o_X12_lines_32 F (x1 / (nI 2)) (nI 0) F (nI 0) (pN s 6 (nI 0))).bind fun x20 => (some x20)))
set_option maxHeartbeats 4000000 in
theorem t_X12_lines {Γ : jg_G} {g : Nat → jg_C} {n r : Nat} (hr : r + 11 ≤ n) (F : Nat) (s : rs_S)  {x : rs_S} (h : o_X12_lines F s = some x) : jc Γ mX12_lines 3 0 0 [some (.ref r), none, none, none, none, none] (rs_h g r s, n) (.inl none) (rs_h g r x, n) := by
  refine jc_of ?_
  rw [o_X12_lines] at h
  refine jg_aload_n dX12_lines_0 rfl ?_
  refine jg_iconst (v := nI 4) dX12_lines_1 (by decide) ?_
  refine jg_iconst (v := nI 0) dX12_lines_2 (by decide) ?_
  obtain ⟨x1, e_x1, h⟩ := bd_some h
  refine rs_call (As := [.int (nI 4), .int (nI 0)]) kv_X12_147 dX12_lines_3 hr rfl rfl (by decide) (Nat.le_of_ble_eq_true rfl) rfl (by decide) (Nat.le_of_ble_eq_true rfl) (t_X12_lastOf hr F s (nI 4) (nI 0) e_x1) ?_
  refine jg_istore_n (L' := [some (.ref r), some (.int x1), none, none, none, none]) dX12_lines_6 (by decide) rfl ?_
  refine jg_iload_n dX12_lines_7 rfl ?_
  refine jg_iconst (v := nI 2) dX12_lines_8 (by decide) ?_
  refine jg_idiv (x := x1) (y := (nI 2)) dX12_lines_9 (by decide) ?_
  refine jg_istore_n (L' := [some (.ref r), some (.int x1), some (.int (x1 / (nI 2))), none, none, none]) dX12_lines_10 (by decide) rfl ?_
  refine jg_iload_n dX12_lines_11 rfl ?_
  refine jg_iconst (v := nI 2) dX12_lines_12 (by decide) ?_
  refine jg_iremR (x := x1) (y := (nI 2)) dX12_lines_13 (by decide) ?_
  refine jg_iconst (v := nI 1) dX12_lines_14 (by decide) ?_
  refine jg_icmp_ne (x := (irm x1 (nI 2))) (y := (nI 1)) (tgt := 22) dX12_lines_15 (by decide) (fun c2 => ?_) (fun c2 => ?_)
  · replace h := it_f c2 h
    refine jg_iconst (v := nI 0) dX12_lines_22 (by decide) ?_
    refine jg_istore_n (L' := [some (.ref r), some (.int x1), some (.int (x1 / (nI 2))), some (.int (nI 0)), none, none]) dX12_lines_23 (by decide) rfl ?_
    refine jg_aload_n dX12_lines_24 rfl ?_
    refine jg_iconst (v := nI 0) dX12_lines_25 (by decide) ?_
    refine rs_putD (s := s) (k := 6) (x := (nI 0)) fl_X12_150 dX12_lines_26 hr (by decide) (rfl) rfl rfl ?_
    refine jg_iconst (v := nI 0) dX12_lines_29 (by decide) ?_
    refine jg_istore (L' := [some (.ref r), some (.int x1), some (.int (x1 / (nI 2))), some (.int (nI 0)), some (.int (nI 0)), none]) dX12_lines_30 (by decide) rfl ?_
    obtain ⟨x20, e_x20, h⟩ := bd_some h
    refine jg_fg (L' := [some (.ref r), none, some (.int (x1 / (nI 2))), some (.int (nI 0)), some (.int (nI 0)), none]) (by repeat (first | exact trivial | refine ⟨rfl, ?_⟩ | show jg_le _ _)) ?_
    refine t_X12_lines_32 hr F (x1 / (nI 2)) (nI 0)  _ (x := x20) ?_ F (nI 0) (pN s 6 (nI 0)) e_x20
    obtain rfl := Option.some.inj h
    exact jg_return dX12_lines_172 rfl ⟨rfl, rfl⟩
  · replace h := it_t c2 h
    refine jg_iconst (v := nI 1) dX12_lines_18 (by decide) ?_
    refine jg_goto (tgt := 23) dX12_lines_19 (by decide) ?_
    refine jg_istore_n (L' := [some (.ref r), some (.int x1), some (.int (x1 / (nI 2))), some (.int (nI 1)), none, none]) dX12_lines_23 (by decide) rfl ?_
    refine jg_aload_n dX12_lines_24 rfl ?_
    refine jg_iconst (v := nI 0) dX12_lines_25 (by decide) ?_
    refine rs_putD (s := s) (k := 6) (x := (nI 0)) fl_X12_150 dX12_lines_26 hr (by decide) (rfl) rfl rfl ?_
    refine jg_iconst (v := nI 0) dX12_lines_29 (by decide) ?_
    refine jg_istore (L' := [some (.ref r), some (.int x1), some (.int (x1 / (nI 2))), some (.int (nI 1)), some (.int (nI 0)), none]) dX12_lines_30 (by decide) rfl ?_
    obtain ⟨x21, e_x21, h⟩ := bd_some h
    refine jg_fg (L' := [some (.ref r), none, some (.int (x1 / (nI 2))), some (.int (nI 1)), some (.int (nI 0)), none]) (by repeat (first | exact trivial | refine ⟨rfl, ?_⟩ | show jg_le _ _)) ?_
    refine t_X12_lines_32 hr F (x1 / (nI 2)) (nI 1)  _ (x := x21) ?_ F (nI 0) (pN s 6 (nI 0)) e_x21
    obtain rfl := Option.some.inj h
    exact jg_return dX12_lines_172 rfl ⟨rfl, rfl⟩
theorem dX12_isClosed_0 : decode cX12_isClosed 0 = .ok (.aload_n 0, 1) := by decide +kernel
theorem dX12_isClosed_1 : decode cX12_isClosed 1 = .ok (.iload_n 1, 1) := by decide +kernel
theorem dX12_isClosed_2 : decode cX12_isClosed 2 = .ok (.iconst 5, 1) := by decide +kernel
theorem dX12_isClosed_3 : decode cX12_isClosed 3 = .ok (.invokevirtual 140, 3) := by decide +kernel
theorem dX12_isClosed_6 : decode cX12_isClosed 6 = .ok (.sipush 240, 3) := by decide +kernel
theorem dX12_isClosed_9 : decode cX12_isClosed 9 = .ok (.if_icmp .lt 7, 3) := by decide +kernel
theorem dX12_isClosed_12 : decode cX12_isClosed 12 = .ok (.iconst 1, 1) := by decide +kernel
theorem dX12_isClosed_13 : decode cX12_isClosed 13 = .ok (.goto 4, 3) := by decide +kernel
theorem dX12_isClosed_16 : decode cX12_isClosed 16 = .ok (.iconst 0, 1) := by decide +kernel
theorem dX12_isClosed_17 : decode cX12_isClosed 17 = .ok (.ireturn, 1) := by decide +kernel
noncomputable def o_X12_isClosed (s : rs_S) (a1 : Int32) : Option (Int32) := (o_X12_berthOf s a1 (nI 5)).bind fun x1 => (if x1 < (nI 240) then (some (nI 0)) else (some (nI 1)))
set_option maxHeartbeats 4000000 in
theorem t_X12_isClosed {Γ : jg_G} {g : Nat → jg_C} {n r : Nat} (hr : r + 11 ≤ n) (s : rs_S) (a1 : Int32)  {x : Int32} (h : o_X12_isClosed s a1 = some x) : jc Γ mX12_isClosed 2 0 0 [some (.ref r), some (.int a1)] (rs_h g r s, n) (.inl (some (.int x))) (rs_h g r s, n) := by
  refine jc_of ?_
  rw [o_X12_isClosed] at h
  refine jg_aload_n dX12_isClosed_0 rfl ?_
  refine jg_iload_n dX12_isClosed_1 rfl ?_
  refine jg_iconst (v := nI 5) dX12_isClosed_2 (by decide) ?_
  obtain ⟨x1, e_x1, h⟩ := bd_some h
  refine rs_call (As := [.int a1, .int (nI 5)]) kv_X12_140 dX12_isClosed_3 hr rfl rfl (by decide) (Nat.le_of_ble_eq_true rfl) rfl (by decide) (Nat.le_of_ble_eq_true rfl) (t_X12_berthOf hr s a1 (nI 5) e_x1) ?_
  refine jg_sipush (v := nI 240) dX12_isClosed_6 (by decide) ?_
  refine jg_icmp_lt (x := x1) (y := (nI 240)) (tgt := 16) dX12_isClosed_9 (by decide) (fun c2 => ?_) (fun c2 => ?_)
  · replace h := it_t c2 h
    refine jg_iconst (v := nI 0) dX12_isClosed_16 (by decide) ?_
    obtain rfl := Option.some.inj h
    exact jg_zreturn dX12_isClosed_17 rfl (rfl) ⟨rfl, rfl⟩
  · replace h := it_f c2 h
    refine jg_iconst (v := nI 1) dX12_isClosed_12 (by decide) ?_
    refine jg_goto (tgt := 17) dX12_isClosed_13 (by decide) ?_
    obtain rfl := Option.some.inj h
    exact jg_zreturn dX12_isClosed_17 rfl (rfl) ⟨rfl, rfl⟩
theorem dX12_mayHave_0 : decode cX12_mayHave 0 = .ok (.aload_n 0, 1) := by decide +kernel
theorem dX12_mayHave_1 : decode cX12_mayHave 1 = .ok (.iload_n 2, 1) := by decide +kernel
theorem dX12_mayHave_2 : decode cX12_mayHave 2 = .ok (.invokevirtual 177, 3) := by decide +kernel
theorem dX12_mayHave_5 : decode cX12_mayHave 5 = .ok (.ifCond .ne 22, 3) := by decide +kernel
theorem dX12_mayHave_8 : decode cX12_mayHave 8 = .ok (.aload_n 0, 1) := by decide +kernel
theorem dX12_mayHave_9 : decode cX12_mayHave 9 = .ok (.iload_n 2, 1) := by decide +kernel
theorem dX12_mayHave_10 : decode cX12_mayHave 10 = .ok (.iconst 1, 1) := by decide +kernel
theorem dX12_mayHave_11 : decode cX12_mayHave 11 = .ok (.invokevirtual 140, 3) := by decide +kernel
theorem dX12_mayHave_14 : decode cX12_mayHave 14 = .ok (.aload_n 0, 1) := by decide +kernel
theorem dX12_mayHave_15 : decode cX12_mayHave 15 = .ok (.iload_n 1, 1) := by decide +kernel
theorem dX12_mayHave_16 : decode cX12_mayHave 16 = .ok (.iconst 3, 1) := by decide +kernel
theorem dX12_mayHave_17 : decode cX12_mayHave 17 = .ok (.invokevirtual 137, 3) := by decide +kernel
theorem dX12_mayHave_20 : decode cX12_mayHave 20 = .ok (.if_icmp .lt 7, 3) := by decide +kernel
theorem dX12_mayHave_23 : decode cX12_mayHave 23 = .ok (.iconst 1, 1) := by decide +kernel
theorem dX12_mayHave_24 : decode cX12_mayHave 24 = .ok (.goto 4, 3) := by decide +kernel
theorem dX12_mayHave_27 : decode cX12_mayHave 27 = .ok (.iconst 0, 1) := by decide +kernel
theorem dX12_mayHave_28 : decode cX12_mayHave 28 = .ok (.ireturn, 1) := by decide +kernel
noncomputable def o_X12_mayHave (s : rs_S) (a1 : Int32) (a2 : Int32) : Option (Int32) := (o_X12_isClosed s a2).bind fun x1 => (if x1 = 0 then ((o_X12_berthOf s a2 (nI 1)).bind fun x3 => ((o_X12_of s a1 (nI 3)).bind fun x4 => (if x3 < x4 then (some (nI 0)) else (some (nI 1))))) else (some (nI 0)))
set_option maxHeartbeats 4000000 in
theorem t_X12_mayHave {Γ : jg_G} {g : Nat → jg_C} {n r : Nat} (hr : r + 11 ≤ n) (s : rs_S) (a1 : Int32) (a2 : Int32)  {x : Int32} (h : o_X12_mayHave s a1 a2 = some x) : jc Γ mX12_mayHave 3 0 0 [some (.ref r), some (.int a1), some (.int a2)] (rs_h g r s, n) (.inl (some (.int x))) (rs_h g r s, n) := by
  refine jc_of ?_
  rw [o_X12_mayHave] at h
  refine jg_aload_n dX12_mayHave_0 rfl ?_
  refine jg_iload_n dX12_mayHave_1 rfl ?_
  obtain ⟨x1, e_x1, h⟩ := bd_some h
  refine rs_call (As := [.int a2]) kv_X12_177 dX12_mayHave_2 hr rfl rfl (by decide) (Nat.le_of_ble_eq_true rfl) rfl (by decide) (Nat.le_of_ble_eq_true rfl) (t_X12_isClosed hr s a2 e_x1) ?_
  refine jg_if_ne (x := x1) (tgt := 27) dX12_mayHave_5 (by decide) (fun c2 => ?_) (fun c2 => ?_)
  · replace h := it_f c2 h
    refine jg_iconst (v := nI 0) dX12_mayHave_27 (by decide) ?_
    obtain rfl := Option.some.inj h
    exact jg_zreturn dX12_mayHave_28 rfl (rfl) ⟨rfl, rfl⟩
  · replace h := it_t c2 h
    refine jg_aload_n dX12_mayHave_8 rfl ?_
    refine jg_iload_n dX12_mayHave_9 rfl ?_
    refine jg_iconst (v := nI 1) dX12_mayHave_10 (by decide) ?_
    obtain ⟨x3, e_x3, h⟩ := bd_some h
    refine rs_call (As := [.int a2, .int (nI 1)]) kv_X12_140 dX12_mayHave_11 hr rfl rfl (by decide) (Nat.le_of_ble_eq_true rfl) rfl (by decide) (Nat.le_of_ble_eq_true rfl) (t_X12_berthOf hr s a2 (nI 1) e_x3) ?_
    refine jg_aload_n dX12_mayHave_14 rfl ?_
    refine jg_iload_n dX12_mayHave_15 rfl ?_
    refine jg_iconst (v := nI 3) dX12_mayHave_16 (by decide) ?_
    obtain ⟨x4, e_x4, h⟩ := bd_some h
    refine rs_call (As := [.int a1, .int (nI 3)]) kv_X12_137 dX12_mayHave_17 hr rfl rfl (by decide) (Nat.le_of_ble_eq_true rfl) rfl (by decide) (Nat.le_of_ble_eq_true rfl) (t_X12_of hr s a1 (nI 3) e_x4) ?_
    refine jg_icmp_lt (x := x3) (y := x4) (tgt := 27) dX12_mayHave_20 (by decide) (fun c5 => ?_) (fun c5 => ?_)
    · replace h := it_t c5 h
      refine jg_iconst (v := nI 0) dX12_mayHave_27 (by decide) ?_
      obtain rfl := Option.some.inj h
      exact jg_zreturn dX12_mayHave_28 rfl (rfl) ⟨rfl, rfl⟩
    · replace h := it_f c5 h
      refine jg_iconst (v := nI 1) dX12_mayHave_23 (by decide) ?_
      refine jg_goto (tgt := 28) dX12_mayHave_24 (by decide) ?_
      obtain rfl := Option.some.inj h
      exact jg_zreturn dX12_mayHave_28 rfl (rfl) ⟨rfl, rfl⟩
theorem dX12_comes_0 : decode cX12_comes 0 = .ok (.aload_n 0, 1) := by decide +kernel
theorem dX12_comes_1 : decode cX12_comes 1 = .ok (.invokevirtual 156, 3) := by decide +kernel
theorem dX12_comes_4 : decode cX12_comes 4 = .ok (.ifCond .ne 4, 3) := by decide +kernel
theorem dX12_comes_7 : decode cX12_comes 7 = .ok (.return_, 1) := by decide +kernel
theorem dX12_comes_8 : decode cX12_comes 8 = .ok (.iconst 0, 1) := by decide +kernel
theorem dX12_comes_9 : decode cX12_comes 9 = .ok (.istore_n 2, 1) := by decide +kernel
theorem dX12_comes_10 : decode cX12_comes 10 = .ok (.iload_n 2, 1) := by decide +kernel
theorem dX12_comes_11 : decode cX12_comes 11 = .ok (.aload_n 0, 1) := by decide +kernel
theorem dX12_comes_12 : decode cX12_comes 12 = .ok (.getfield 13, 3) := by decide +kernel
theorem dX12_comes_15 : decode cX12_comes 15 = .ok (.sipush 999, 3) := by decide +kernel
theorem dX12_comes_18 : decode cX12_comes 18 = .ok (.iaload, 1) := by decide +kernel
theorem dX12_comes_19 : decode cX12_comes 19 = .ok (.if_icmp .ge 131, 3) := by decide +kernel
theorem dX12_comes_22 : decode cX12_comes 22 = .ok (.aload_n 0, 1) := by decide +kernel
theorem dX12_comes_23 : decode cX12_comes 23 = .ok (.iload_n 2, 1) := by decide +kernel
theorem dX12_comes_24 : decode cX12_comes 24 = .ok (.iconst 0, 1) := by decide +kernel
theorem dX12_comes_25 : decode cX12_comes 25 = .ok (.invokevirtual 140, 3) := by decide +kernel
theorem dX12_comes_28 : decode cX12_comes 28 = .ok (.istore_n 3, 1) := by decide +kernel
theorem dX12_comes_29 : decode cX12_comes 29 = .ok (.aload_n 0, 1) := by decide +kernel
theorem dX12_comes_30 : decode cX12_comes 30 = .ok (.iload_n 2, 1) := by decide +kernel
theorem dX12_comes_31 : decode cX12_comes 31 = .ok (.bipush 6, 2) := by decide +kernel
theorem dX12_comes_33 : decode cX12_comes 33 = .ok (.invokevirtual 140, 3) := by decide +kernel
theorem dX12_comes_36 : decode cX12_comes 36 = .ok (.ifCond .ge 108, 3) := by decide +kernel
theorem dX12_comes_39 : decode cX12_comes 39 = .ok (.aload_n 0, 1) := by decide +kernel
theorem dX12_comes_40 : decode cX12_comes 40 = .ok (.iload_n 1, 1) := by decide +kernel
theorem dX12_comes_41 : decode cX12_comes 41 = .ok (.iload_n 2, 1) := by decide +kernel
theorem dX12_comes_42 : decode cX12_comes 42 = .ok (.invokevirtual 180, 3) := by decide +kernel
theorem dX12_comes_45 : decode cX12_comes 45 = .ok (.ifCond .eq 99, 3) := by decide +kernel
theorem dX12_comes_48 : decode cX12_comes 48 = .ok (.aload_n 0, 1) := by decide +kernel
theorem dX12_comes_49 : decode cX12_comes 49 = .ok (.aload_n 0, 1) := by decide +kernel
theorem dX12_comes_50 : decode cX12_comes 50 = .ok (.iload_n 1, 1) := by decide +kernel
theorem dX12_comes_51 : decode cX12_comes 51 = .ok (.iconst 4, 1) := by decide +kernel
theorem dX12_comes_52 : decode cX12_comes 52 = .ok (.invokevirtual 137, 3) := by decide +kernel
theorem dX12_comes_55 : decode cX12_comes 55 = .ok (.iload_n 3, 1) := by decide +kernel
theorem dX12_comes_56 : decode cX12_comes 56 = .ok (.aload_n 0, 1) := by decide +kernel
theorem dX12_comes_57 : decode cX12_comes 57 = .ok (.invokevirtual 73, 3) := by decide +kernel
theorem dX12_comes_60 : decode cX12_comes 60 = .ok (.iconst 0, 1) := by decide +kernel
theorem dX12_comes_61 : decode cX12_comes 61 = .ok (.invokevirtual 143, 3) := by decide +kernel
theorem dX12_comes_64 : decode cX12_comes 64 = .ok (.ifCond .ne 6, 3) := by decide +kernel
theorem dX12_comes_67 : decode cX12_comes 67 = .ok (.goto 77, 3) := by decide +kernel
theorem dX12_comes_70 : decode cX12_comes 70 = .ok (.aload_n 0, 1) := by decide +kernel
theorem dX12_comes_71 : decode cX12_comes 71 = .ok (.iload_n 1, 1) := by decide +kernel
theorem dX12_comes_72 : decode cX12_comes 72 = .ok (.aload_n 0, 1) := by decide +kernel
theorem dX12_comes_73 : decode cX12_comes 73 = .ok (.iload_n 1, 1) := by decide +kernel
theorem dX12_comes_74 : decode cX12_comes 74 = .ok (.iconst 4, 1) := by decide +kernel
theorem dX12_comes_75 : decode cX12_comes 75 = .ok (.invokevirtual 137, 3) := by decide +kernel
theorem dX12_comes_78 : decode cX12_comes 78 = .ok (.iload_n 3, 1) := by decide +kernel
theorem dX12_comes_79 : decode cX12_comes 79 = .ok (.iconst 0, 1) := by decide +kernel
theorem dX12_comes_80 : decode cX12_comes 80 = .ok (.invokevirtual 159, 3) := by decide +kernel
theorem dX12_comes_83 : decode cX12_comes 83 = .ok (.aload_n 0, 1) := by decide +kernel
theorem dX12_comes_84 : decode cX12_comes 84 = .ok (.iload_n 3, 1) := by decide +kernel
theorem dX12_comes_85 : decode cX12_comes 85 = .ok (.invokevirtual 163, 3) := by decide +kernel
theorem dX12_comes_88 : decode cX12_comes 88 = .ok (.aload_n 0, 1) := by decide +kernel
theorem dX12_comes_89 : decode cX12_comes 89 = .ok (.getfield 13, 3) := by decide +kernel
theorem dX12_comes_92 : decode cX12_comes 92 = .ok (.iload_n 2, 1) := by decide +kernel
theorem dX12_comes_93 : decode cX12_comes 93 = .ok (.bipush 6, 2) := by decide +kernel
theorem dX12_comes_95 : decode cX12_comes 95 = .ok (.invokestatic 100, 3) := by decide +kernel
theorem dX12_comes_98 : decode cX12_comes 98 = .ok (.iload_n 1, 1) := by decide +kernel
theorem dX12_comes_99 : decode cX12_comes 99 = .ok (.iastore, 1) := by decide +kernel
theorem dX12_comes_100 : decode cX12_comes 100 = .ok (.aload_n 0, 1) := by decide +kernel
theorem dX12_comes_101 : decode cX12_comes 101 = .ok (.iload_n 1, 1) := by decide +kernel
theorem dX12_comes_102 : decode cX12_comes 102 = .ok (.bipush 10, 2) := by decide +kernel
theorem dX12_comes_104 : decode cX12_comes 104 = .ok (.iload_n 2, 1) := by decide +kernel
theorem dX12_comes_105 : decode cX12_comes 105 = .ok (.invokevirtual 111, 3) := by decide +kernel
theorem dX12_comes_108 : decode cX12_comes 108 = .ok (.aload_n 0, 1) := by decide +kernel
theorem dX12_comes_109 : decode cX12_comes 109 = .ok (.iload_n 1, 1) := by decide +kernel
theorem dX12_comes_110 : decode cX12_comes 110 = .ok (.bipush 12, 2) := by decide +kernel
theorem dX12_comes_112 : decode cX12_comes 112 = .ok (.aload_n 0, 1) := by decide +kernel
theorem dX12_comes_113 : decode cX12_comes 113 = .ok (.invokevirtual 73, 3) := by decide +kernel
theorem dX12_comes_116 : decode cX12_comes 116 = .ok (.iload_n 3, 1) := by decide +kernel
theorem dX12_comes_117 : decode cX12_comes 117 = .ok (.bipush 6, 2) := by decide +kernel
theorem dX12_comes_119 : decode cX12_comes 119 = .ok (.idiv, 1) := by decide +kernel
theorem dX12_comes_120 : decode cX12_comes 120 = .ok (.iadd, 1) := by decide +kernel
theorem dX12_comes_121 : decode cX12_comes 121 = .ok (.invokevirtual 111, 3) := by decide +kernel
theorem dX12_comes_124 : decode cX12_comes 124 = .ok (.aload_n 0, 1) := by decide +kernel
theorem dX12_comes_125 : decode cX12_comes 125 = .ok (.iload_n 1, 1) := by decide +kernel
theorem dX12_comes_126 : decode cX12_comes 126 = .ok (.bipush 9, 2) := by decide +kernel
theorem dX12_comes_128 : decode cX12_comes 128 = .ok (.iload_n 3, 1) := by decide +kernel
theorem dX12_comes_129 : decode cX12_comes 129 = .ok (.bipush 6, 2) := by decide +kernel
theorem dX12_comes_131 : decode cX12_comes 131 = .ok (.idiv, 1) := by decide +kernel
theorem dX12_comes_132 : decode cX12_comes 132 = .ok (.ifCond .ne 7, 3) := by decide +kernel
theorem dX12_comes_135 : decode cX12_comes 135 = .ok (.iconst 2, 1) := by decide +kernel
theorem dX12_comes_136 : decode cX12_comes 136 = .ok (.goto 4, 3) := by decide +kernel
theorem dX12_comes_139 : decode cX12_comes 139 = .ok (.iconst 1, 1) := by decide +kernel
theorem dX12_comes_140 : decode cX12_comes 140 = .ok (.invokevirtual 111, 3) := by decide +kernel
theorem dX12_comes_143 : decode cX12_comes 143 = .ok (.return_, 1) := by decide +kernel
theorem dX12_comes_144 : decode cX12_comes 144 = .ok (.iinc 2 1, 3) := by decide +kernel
theorem dX12_comes_147 : decode cX12_comes 147 = .ok (.goto (-137), 3) := by decide +kernel
theorem dX12_comes_150 : decode cX12_comes 150 = .ok (.return_, 1) := by decide +kernel
noncomputable def o_X12_comes_10 (F : Nat) (l1 : Int32) (s : rs_S) : Nat → Int32 → Option ((Unit) ⊕ (rs_S))
  | 0, _ => none
  | f + 1, l2 => if (gW s (nI 999)) ≤ l2 then (some (.inl ())) else ((o_X12_berthOf s l2 (nI 0)).bind fun x4 => ((o_X12_berthOf s l2 (nI 6)).bind fun x5 => (if 0 ≤ x5 then (o_X12_comes_10 F l1 s f (l2 + nI 1)) else ((o_X12_mayHave s l1 l2).bind fun x7 => (if x7 = 0 then (o_X12_comes_10 F l1 s f (l2 + nI 1)) else ((o_X12_of s l1 (nI 4)).bind fun x9 => ((o_X12_hour s).bind fun x10 => ((o_X12_isSafe F s x9 x4 x10 (nI 0)).bind fun x11 => (if x11 = 0 then (o_X12_comes_10 F l1 s f (l2 + nI 1)) else ((o_X12_of s l1 (nI 4)).bind fun x13 => ((o_X12_touches F s l1 x13 x4 (nI 0)).bind fun x14 => ((o_X12_pilots x14 x4).bind fun x15 => ((o_X12_berthAt x15 l2 (nI 6)).bind fun x16 => (if iL x16 22216 then ((o_X12_sets (pW x15 x16 l1) l1 (nI 10) l2).bind fun x18 => ((o_X12_hour x18).bind fun x19 => ((o_X12_sets x18 l1 (nI 12) (x19 + (x4 / (nI 6)))).bind fun x20 => (if (x4 / (nI 6)) = 0 then ((o_X12_sets x20 l1 (nI 9) (nI 2)).bind fun x23 => (some (.inr x23))) else ((o_X12_sets x20 l1 (nI 9) (nI 1)).bind fun x22 => (some (.inr x22))))))) else none))))))))))))))
set_option maxHeartbeats 4000000 in
theorem t_X12_comes_10 {Γ : jg_G} {g : Nat → jg_C} {n r : Nat} (hr : r + 11 ≤ n) (F : Nat) (l1 : Int32) (s : rs_S)  (Q : jg_Q) {x : (Unit) ⊕ (rs_S)} (K1 : ∀ y, x = .inl y → jg Γ mX12_comes 5 0 0 150 [none, none, none, none] [] (rs_h g r s, n) Q) (K2 : ∀ z, x = .inr z → Q (.inl none) (rs_h g r z, n)) : ∀ (f : Nat) (l2 : Int32), o_X12_comes_10 F l1 s f l2 = some x → jg Γ mX12_comes 5 0 0 10 [some (.ref r), some (.int l1), some (.int l2), none] [] (rs_h g r s, n) Q := by
  intro f
  induction f with
  | zero => intro l2 h; rw [o_X12_comes_10] at h; cases h
  | succ f ih =>
   intro l2 h
   rw [o_X12_comes_10] at h
   refine jg_iload_n dX12_comes_10 rfl ?_
   refine jg_aload_n dX12_comes_11 rfl ?_
   refine rs_ga fl_X12_13 dX12_comes_12 hr rfl ?_
   refine jg_sipush (v := nI 999) dX12_comes_15 (by decide) ?_
   refine rs_lwD (s := s) (i := (nI 999)) dX12_comes_18 hr (by decide) ?_
   refine jg_icmp_ge (x := l2) (y := (gW s (nI 999))) (tgt := 150) dX12_comes_19 (by decide) (fun c3 => ?_) (fun c3 => ?_)
   · replace h := it_t c3 h
     refine jg_fg (L' := [none, none, none, none]) (by repeat (first | exact trivial | refine ⟨rfl, ?_⟩ | show jg_le _ _)) ?_
     obtain rfl := Option.some.inj h
     exact K1 _ rfl
   · replace h := it_f c3 h
     refine jg_aload_n dX12_comes_22 rfl ?_
     refine jg_iload_n dX12_comes_23 rfl ?_
     refine jg_iconst (v := nI 0) dX12_comes_24 (by decide) ?_
     obtain ⟨x4, e_x4, h⟩ := bd_some h
     refine rs_call (As := [.int l2, .int (nI 0)]) kv_X12_140 dX12_comes_25 hr rfl rfl (by decide) (Nat.le_of_ble_eq_true rfl) rfl (by decide) (Nat.le_of_ble_eq_true rfl) (t_X12_berthOf hr s l2 (nI 0) e_x4) ?_
     refine jg_istore_n (L' := [some (.ref r), some (.int l1), some (.int l2), some (.int x4)]) dX12_comes_28 (by decide) rfl ?_
     refine jg_aload_n dX12_comes_29 rfl ?_
     refine jg_iload_n dX12_comes_30 rfl ?_
     refine jg_bipush (v := nI 6) dX12_comes_31 (by decide) ?_
     obtain ⟨x5, e_x5, h⟩ := bd_some h
     refine rs_call (As := [.int l2, .int (nI 6)]) kv_X12_140 dX12_comes_33 hr rfl rfl (by decide) (Nat.le_of_ble_eq_true rfl) rfl (by decide) (Nat.le_of_ble_eq_true rfl) (t_X12_berthOf hr s l2 (nI 6) e_x5) ?_
     refine jg_if_ge (x := x5) (tgt := 144) dX12_comes_36 (by decide) (fun c6 => ?_) (fun c6 => ?_)
     · replace h := it_t c6 h
       refine jg_iinc (x := l2) (v := l2 + nI 1) (L' := [some (.ref r), some (.int l1), some (.int (l2 + nI 1)), some (.int x4)]) dX12_comes_144 rfl (ic_k _ (by decide)) (by decide) rfl ?_
       refine jg_goto (tgt := 10) dX12_comes_147 (by decide) ?_
       refine jg_fg (L' := [some (.ref r), some (.int l1), some (.int (l2 + nI 1)), none]) (by repeat (first | exact trivial | refine ⟨rfl, ?_⟩ | show jg_le _ _)) ?_
       exact ih (l2 + nI 1) h
     · replace h := it_f c6 h
       refine jg_aload_n dX12_comes_39 rfl ?_
       refine jg_iload_n dX12_comes_40 rfl ?_
       refine jg_iload_n dX12_comes_41 rfl ?_
       obtain ⟨x7, e_x7, h⟩ := bd_some h
       refine rs_call (As := [.int l1, .int l2]) kv_X12_180 dX12_comes_42 hr rfl rfl (by decide) (Nat.le_of_ble_eq_true rfl) rfl (by decide) (Nat.le_of_ble_eq_true rfl) (t_X12_mayHave hr s l1 l2 e_x7) ?_
       refine jg_if_eq (x := x7) (tgt := 144) dX12_comes_45 (by decide) (fun c8 => ?_) (fun c8 => ?_)
       · replace h := it_t c8 h
         refine jg_iinc (x := l2) (v := l2 + nI 1) (L' := [some (.ref r), some (.int l1), some (.int (l2 + nI 1)), some (.int x4)]) dX12_comes_144 rfl (ic_k _ (by decide)) (by decide) rfl ?_
         refine jg_goto (tgt := 10) dX12_comes_147 (by decide) ?_
         refine jg_fg (L' := [some (.ref r), some (.int l1), some (.int (l2 + nI 1)), none]) (by repeat (first | exact trivial | refine ⟨rfl, ?_⟩ | show jg_le _ _)) ?_
         exact ih (l2 + nI 1) h
       · replace h := it_f c8 h
         refine jg_aload_n dX12_comes_48 rfl ?_
         refine jg_aload_n dX12_comes_49 rfl ?_
         refine jg_iload_n dX12_comes_50 rfl ?_
         refine jg_iconst (v := nI 4) dX12_comes_51 (by decide) ?_
         obtain ⟨x9, e_x9, h⟩ := bd_some h
         refine rs_call (As := [.int l1, .int (nI 4)]) kv_X12_137 dX12_comes_52 hr rfl rfl (by decide) (Nat.le_of_ble_eq_true rfl) rfl (by decide) (Nat.le_of_ble_eq_true rfl) (t_X12_of hr s l1 (nI 4) e_x9) ?_
         refine jg_iload_n dX12_comes_55 rfl ?_
         refine jg_aload_n dX12_comes_56 rfl ?_
         obtain ⟨x10, e_x10, h⟩ := bd_some h
         refine rs_call (As := []) kv_X12_73 dX12_comes_57 hr rfl rfl (by decide) (Nat.le_of_ble_eq_true rfl) rfl (by decide) (Nat.le_of_ble_eq_true rfl) (t_X12_hour hr s e_x10) ?_
         refine jg_iconst (v := nI 0) dX12_comes_60 (by decide) ?_
         obtain ⟨x11, e_x11, h⟩ := bd_some h
         refine rs_call (As := [.int x9, .int x4, .int x10, .int (nI 0)]) kv_X12_143 dX12_comes_61 hr rfl rfl (by decide) (Nat.le_of_ble_eq_true rfl) rfl (by decide) (Nat.le_of_ble_eq_true rfl) (t_X12_isSafe hr F s x9 x4 x10 (nI 0) e_x11) ?_
         refine jg_if_ne (x := x11) (tgt := 70) dX12_comes_64 (by decide) (fun c12 => ?_) (fun c12 => ?_)
         · replace h := it_f c12 h
           refine jg_aload_n dX12_comes_70 rfl ?_
           refine jg_iload_n dX12_comes_71 rfl ?_
           refine jg_aload_n dX12_comes_72 rfl ?_
           refine jg_iload_n dX12_comes_73 rfl ?_
           refine jg_iconst (v := nI 4) dX12_comes_74 (by decide) ?_
           obtain ⟨x13, e_x13, h⟩ := bd_some h
           refine rs_call (As := [.int l1, .int (nI 4)]) kv_X12_137 dX12_comes_75 hr rfl rfl (by decide) (Nat.le_of_ble_eq_true rfl) rfl (by decide) (Nat.le_of_ble_eq_true rfl) (t_X12_of hr s l1 (nI 4) e_x13) ?_
           refine jg_iload_n dX12_comes_78 rfl ?_
           refine jg_iconst (v := nI 0) dX12_comes_79 (by decide) ?_
           obtain ⟨x14, e_x14, h⟩ := bd_some h
           refine rs_call (As := [.int l1, .int x13, .int x4, .int (nI 0)]) kv_X12_159 dX12_comes_80 hr rfl rfl (by decide) (Nat.le_of_ble_eq_true rfl) rfl (by decide) (Nat.le_of_ble_eq_true rfl) (t_X12_touches hr F s l1 x13 x4 (nI 0) e_x14) ?_
           refine jg_aload_n dX12_comes_83 rfl ?_
           refine jg_iload_n dX12_comes_84 rfl ?_
           obtain ⟨x15, e_x15, h⟩ := bd_some h
           refine rs_call (As := [.int x4]) kv_X12_163 dX12_comes_85 hr rfl rfl (by decide) (Nat.le_of_ble_eq_true rfl) rfl (by decide) (Nat.le_of_ble_eq_true rfl) (t_X12_pilots hr x14 x4 e_x15) ?_
           refine jg_aload_n dX12_comes_88 rfl ?_
           refine rs_ga fl_X12_13 dX12_comes_89 hr rfl ?_
           refine jg_iload_n dX12_comes_92 rfl ?_
           refine jg_bipush (v := nI 6) dX12_comes_93 (by decide) ?_
           obtain ⟨x16, e_x16, h⟩ := bd_some h
           refine rs_callS (As := [.int l2, .int (nI 6)]) ks_X12_100 dX12_comes_95 rfl (by decide) (Nat.le_of_ble_eq_true rfl) rfl (by decide) (Nat.le_of_ble_eq_true rfl) (t_X12_berthAt hr x15 l2 (nI 6) e_x16) ?_
           refine jg_iload_n dX12_comes_98 rfl ?_
           obtain ⟨q17, h⟩ := gd_some h
           refine rs_swD (s := x15) (i := x16) (x := l1) dX12_comes_99 hr q17 ?_
           refine jg_aload_n dX12_comes_100 rfl ?_
           refine jg_iload_n dX12_comes_101 rfl ?_
           refine jg_bipush (v := nI 10) dX12_comes_102 (by decide) ?_
           refine jg_iload_n dX12_comes_104 rfl ?_
           obtain ⟨x18, e_x18, h⟩ := bd_some h
           refine rs_call (As := [.int l1, .int (nI 10), .int l2]) kv_X12_111 dX12_comes_105 hr rfl rfl (by decide) (Nat.le_of_ble_eq_true rfl) rfl (by decide) (Nat.le_of_ble_eq_true rfl) (t_X12_sets hr (pW x15 x16 l1) l1 (nI 10) l2 e_x18) ?_
           refine jg_aload_n dX12_comes_108 rfl ?_
           refine jg_iload_n dX12_comes_109 rfl ?_
           refine jg_bipush (v := nI 12) dX12_comes_110 (by decide) ?_
           refine jg_aload_n dX12_comes_112 rfl ?_
           obtain ⟨x19, e_x19, h⟩ := bd_some h
           refine rs_call (As := []) kv_X12_73 dX12_comes_113 hr rfl rfl (by decide) (Nat.le_of_ble_eq_true rfl) rfl (by decide) (Nat.le_of_ble_eq_true rfl) (t_X12_hour hr x18 e_x19) ?_
           refine jg_iload_n dX12_comes_116 rfl ?_
           refine jg_bipush (v := nI 6) dX12_comes_117 (by decide) ?_
           refine jg_idiv (x := x4) (y := (nI 6)) dX12_comes_119 (by decide) ?_
           refine jg_iadd (x := x19) (y := (x4 / (nI 6))) dX12_comes_120  ?_
           obtain ⟨x20, e_x20, h⟩ := bd_some h
           refine rs_call (As := [.int l1, .int (nI 12), .int (x19 + (x4 / (nI 6)))]) kv_X12_111 dX12_comes_121 hr rfl rfl (by decide) (Nat.le_of_ble_eq_true rfl) rfl (by decide) (Nat.le_of_ble_eq_true rfl) (t_X12_sets hr x18 l1 (nI 12) (x19 + (x4 / (nI 6))) e_x20) ?_
           refine jg_aload_n dX12_comes_124 rfl ?_
           refine jg_iload_n dX12_comes_125 rfl ?_
           refine jg_bipush (v := nI 9) dX12_comes_126 (by decide) ?_
           refine jg_iload_n dX12_comes_128 rfl ?_
           refine jg_bipush (v := nI 6) dX12_comes_129 (by decide) ?_
           refine jg_idiv (x := x4) (y := (nI 6)) dX12_comes_131 (by decide) ?_
           refine jg_if_ne (x := (x4 / (nI 6))) (tgt := 139) dX12_comes_132 (by decide) (fun c21 => ?_) (fun c21 => ?_)
           · replace h := it_f c21 h
             refine jg_iconst (v := nI 1) dX12_comes_139 (by decide) ?_
             obtain ⟨x22, e_x22, h⟩ := bd_some h
             refine rs_call (As := [.int l1, .int (nI 9), .int (nI 1)]) kv_X12_111 dX12_comes_140 hr rfl rfl (by decide) (Nat.le_of_ble_eq_true rfl) rfl (by decide) (Nat.le_of_ble_eq_true rfl) (t_X12_sets hr x20 l1 (nI 9) (nI 1) e_x22) ?_
             obtain rfl := Option.some.inj h
             exact jg_return dX12_comes_143 rfl (K2 _ rfl)
           · replace h := it_t c21 h
             refine jg_iconst (v := nI 2) dX12_comes_135 (by decide) ?_
             refine jg_goto (tgt := 140) dX12_comes_136 (by decide) ?_
             obtain ⟨x23, e_x23, h⟩ := bd_some h
             refine rs_call (As := [.int l1, .int (nI 9), .int (nI 2)]) kv_X12_111 dX12_comes_140 hr rfl rfl (by decide) (Nat.le_of_ble_eq_true rfl) rfl (by decide) (Nat.le_of_ble_eq_true rfl) (t_X12_sets hr x20 l1 (nI 9) (nI 2) e_x23) ?_
             obtain rfl := Option.some.inj h
             exact jg_return dX12_comes_143 rfl (K2 _ rfl)
         · replace h := it_t c12 h
           refine jg_goto (tgt := 144) dX12_comes_67 (by decide) ?_
           refine jg_iinc (x := l2) (v := l2 + nI 1) (L' := [some (.ref r), some (.int l1), some (.int (l2 + nI 1)), some (.int x4)]) dX12_comes_144 rfl (ic_k _ (by decide)) (by decide) rfl ?_
           refine jg_goto (tgt := 10) dX12_comes_147 (by decide) ?_
           refine jg_fg (L' := [some (.ref r), some (.int l1), some (.int (l2 + nI 1)), none]) (by repeat (first | exact trivial | refine ⟨rfl, ?_⟩ | show jg_le _ _)) ?_
           exact ih (l2 + nI 1) h
noncomputable def o_X12_comes (F : Nat) (s : rs_S) (a1 : Int32) : Option (rs_S) := (o_X12_freePilots F s).bind fun x1 => (if x1 = 0 then (some s) else ((o_X12_comes_10 F a1 s F (nI 0)).bind fun x24 => (Sum.elim (fun y25 => some s) (fun z26 => some z26) x24)))
set_option maxHeartbeats 4000000 in
theorem t_X12_comes {Γ : jg_G} {g : Nat → jg_C} {n r : Nat} (hr : r + 11 ≤ n) (F : Nat) (s : rs_S) (a1 : Int32)  {x : rs_S} (h : o_X12_comes F s a1 = some x) : jc Γ mX12_comes 5 0 0 [some (.ref r), some (.int a1), none, none] (rs_h g r s, n) (.inl none) (rs_h g r x, n) := by
  refine jc_of ?_
  rw [o_X12_comes] at h
  refine jg_aload_n dX12_comes_0 rfl ?_
  obtain ⟨x1, e_x1, h⟩ := bd_some h
  refine rs_call (As := []) kv_X12_156 dX12_comes_1 hr rfl rfl (by decide) (Nat.le_of_ble_eq_true rfl) rfl (by decide) (Nat.le_of_ble_eq_true rfl) (t_X12_freePilots hr F s e_x1) ?_
  refine jg_if_ne (x := x1) (tgt := 8) dX12_comes_4 (by decide) (fun c2 => ?_) (fun c2 => ?_)
  · replace h := it_f c2 h
    refine jg_iconst (v := nI 0) dX12_comes_8 (by decide) ?_
    refine jg_istore_n (L' := [some (.ref r), some (.int a1), some (.int (nI 0)), none]) dX12_comes_9 (by decide) rfl ?_
    obtain ⟨x24, e_x24, h⟩ := bd_some h
    refine jg_fg (L' := [some (.ref r), some (.int a1), some (.int (nI 0)), none]) (by repeat (first | exact trivial | refine ⟨rfl, ?_⟩ | show jg_le _ _)) ?_
    refine t_X12_comes_10 hr F a1 s  _ (x := x24) ?_ ?_ F (nI 0) e_x24
    · intro y25 ey; subst ey; replace h := se_l h
      obtain rfl := Option.some.inj h
      exact jg_return dX12_comes_150 rfl ⟨rfl, rfl⟩
    · intro z26 ez; subst ez; replace h := se_r h
      obtain rfl := Option.some.inj h
      exact ⟨rfl, rfl⟩
  · replace h := it_t c2 h
    obtain rfl := Option.some.inj h
    exact jg_return dX12_comes_7 rfl ⟨rfl, rfl⟩
theorem dX12_unloads_0 : decode cX12_unloads 0 = .ok (.aload_n 0, 1) := by decide +kernel
theorem dX12_unloads_1 : decode cX12_unloads 1 = .ok (.iload_n 1, 1) := by decide +kernel
theorem dX12_unloads_2 : decode cX12_unloads 2 = .ok (.bipush 10, 2) := by decide +kernel
theorem dX12_unloads_4 : decode cX12_unloads 4 = .ok (.invokevirtual 137, 3) := by decide +kernel
theorem dX12_unloads_7 : decode cX12_unloads 7 = .ok (.istore_n 2, 1) := by decide +kernel
theorem dX12_unloads_8 : decode cX12_unloads 8 = .ok (.aload_n 0, 1) := by decide +kernel
theorem dX12_unloads_9 : decode cX12_unloads 9 = .ok (.iload_n 2, 1) := by decide +kernel
theorem dX12_unloads_10 : decode cX12_unloads 10 = .ok (.iconst 2, 1) := by decide +kernel
theorem dX12_unloads_11 : decode cX12_unloads 11 = .ok (.invokevirtual 140, 3) := by decide +kernel
theorem dX12_unloads_14 : decode cX12_unloads 14 = .ok (.aload_n 0, 1) := by decide +kernel
theorem dX12_unloads_15 : decode cX12_unloads 15 = .ok (.iload_n 1, 1) := by decide +kernel
theorem dX12_unloads_16 : decode cX12_unloads 16 = .ok (.bipush 11, 2) := by decide +kernel
theorem dX12_unloads_18 : decode cX12_unloads 18 = .ok (.invokevirtual 137, 3) := by decide +kernel
theorem dX12_unloads_21 : decode cX12_unloads 21 = .ok (.invokestatic 91, 3) := by decide +kernel
theorem dX12_unloads_24 : decode cX12_unloads 24 = .ok (.istore_n 3, 1) := by decide +kernel
theorem dX12_unloads_25 : decode cX12_unloads 25 = .ok (.aload_n 0, 1) := by decide +kernel
theorem dX12_unloads_26 : decode cX12_unloads 26 = .ok (.iload_n 1, 1) := by decide +kernel
theorem dX12_unloads_27 : decode cX12_unloads 27 = .ok (.bipush 11, 2) := by decide +kernel
theorem dX12_unloads_29 : decode cX12_unloads 29 = .ok (.aload_n 0, 1) := by decide +kernel
theorem dX12_unloads_30 : decode cX12_unloads 30 = .ok (.iload_n 1, 1) := by decide +kernel
theorem dX12_unloads_31 : decode cX12_unloads 31 = .ok (.bipush 11, 2) := by decide +kernel
theorem dX12_unloads_33 : decode cX12_unloads 33 = .ok (.invokevirtual 137, 3) := by decide +kernel
theorem dX12_unloads_36 : decode cX12_unloads 36 = .ok (.iload_n 3, 1) := by decide +kernel
theorem dX12_unloads_37 : decode cX12_unloads 37 = .ok (.isub, 1) := by decide +kernel
theorem dX12_unloads_38 : decode cX12_unloads 38 = .ok (.invokevirtual 111, 3) := by decide +kernel
theorem dX12_unloads_41 : decode cX12_unloads 41 = .ok (.aload_n 0, 1) := by decide +kernel
theorem dX12_unloads_42 : decode cX12_unloads 42 = .ok (.getfield 13, 3) := by decide +kernel
theorem dX12_unloads_45 : decode cX12_unloads 45 = .ok (.iload_n 2, 1) := by decide +kernel
theorem dX12_unloads_46 : decode cX12_unloads 46 = .ok (.iconst 4, 1) := by decide +kernel
theorem dX12_unloads_47 : decode cX12_unloads 47 = .ok (.invokestatic 100, 3) := by decide +kernel
theorem dX12_unloads_50 : decode cX12_unloads 50 = .ok (.dup2, 1) := by decide +kernel
theorem dX12_unloads_51 : decode cX12_unloads 51 = .ok (.iaload, 1) := by decide +kernel
theorem dX12_unloads_52 : decode cX12_unloads 52 = .ok (.iload_n 3, 1) := by decide +kernel
theorem dX12_unloads_53 : decode cX12_unloads 53 = .ok (.iadd, 1) := by decide +kernel
theorem dX12_unloads_54 : decode cX12_unloads 54 = .ok (.iastore, 1) := by decide +kernel
theorem dX12_unloads_55 : decode cX12_unloads 55 = .ok (.aload_n 0, 1) := by decide +kernel
theorem dX12_unloads_56 : decode cX12_unloads 56 = .ok (.getfield 13, 3) := by decide +kernel
theorem dX12_unloads_59 : decode cX12_unloads 59 = .ok (.iload_n 2, 1) := by decide +kernel
theorem dX12_unloads_60 : decode cX12_unloads 60 = .ok (.bipush 7, 2) := by decide +kernel
theorem dX12_unloads_62 : decode cX12_unloads 62 = .ok (.invokestatic 100, 3) := by decide +kernel
theorem dX12_unloads_65 : decode cX12_unloads 65 = .ok (.dup2, 1) := by decide +kernel
theorem dX12_unloads_66 : decode cX12_unloads 66 = .ok (.iaload, 1) := by decide +kernel
theorem dX12_unloads_67 : decode cX12_unloads 67 = .ok (.iload_n 3, 1) := by decide +kernel
theorem dX12_unloads_68 : decode cX12_unloads 68 = .ok (.iadd, 1) := by decide +kernel
theorem dX12_unloads_69 : decode cX12_unloads 69 = .ok (.iastore, 1) := by decide +kernel
theorem dX12_unloads_70 : decode cX12_unloads 70 = .ok (.aload_n 0, 1) := by decide +kernel
theorem dX12_unloads_71 : decode cX12_unloads 71 = .ok (.iload_n 1, 1) := by decide +kernel
theorem dX12_unloads_72 : decode cX12_unloads 72 = .ok (.bipush 11, 2) := by decide +kernel
theorem dX12_unloads_74 : decode cX12_unloads 74 = .ok (.invokevirtual 137, 3) := by decide +kernel
theorem dX12_unloads_77 : decode cX12_unloads 77 = .ok (.ifCond .ne 11, 3) := by decide +kernel
theorem dX12_unloads_80 : decode cX12_unloads 80 = .ok (.aload_n 0, 1) := by decide +kernel
theorem dX12_unloads_81 : decode cX12_unloads 81 = .ok (.iload_n 1, 1) := by decide +kernel
theorem dX12_unloads_82 : decode cX12_unloads 82 = .ok (.bipush 9, 2) := by decide +kernel
theorem dX12_unloads_84 : decode cX12_unloads 84 = .ok (.iconst 3, 1) := by decide +kernel
theorem dX12_unloads_85 : decode cX12_unloads 85 = .ok (.invokevirtual 111, 3) := by decide +kernel
theorem dX12_unloads_88 : decode cX12_unloads 88 = .ok (.return_, 1) := by decide +kernel
noncomputable def o_X12_unloads (s : rs_S) (a1 : Int32) : Option (rs_S) := (o_X12_of s a1 (nI 10)).bind fun x1 => ((o_X12_berthOf s x1 (nI 2)).bind fun x2 => ((o_X12_of s a1 (nI 11)).bind fun x3 => ((o_X12_of s a1 (nI 11)).bind fun x4 => ((o_X12_sets s a1 (nI 11) (x4 - (mni x2 x3))).bind fun x5 => ((o_X12_berthAt x5 x1 (nI 4)).bind fun x6 => (if iL x6 22216 then ((o_X12_berthAt (pW x5 x6 ((gW x5 x6) + (mni x2 x3))) x1 (nI 7)).bind fun x8 => (if iL x8 22216 then ((o_X12_of (pW (pW x5 x6 ((gW x5 x6) + (mni x2 x3))) x8 ((gW (pW x5 x6 ((gW x5 x6) + (mni x2 x3))) x8) + (mni x2 x3))) a1 (nI 11)).bind fun x10 => (if x10 = 0 then ((o_X12_sets (pW (pW x5 x6 ((gW x5 x6) + (mni x2 x3))) x8 ((gW (pW x5 x6 ((gW x5 x6) + (mni x2 x3))) x8) + (mni x2 x3))) a1 (nI 9) (nI 3)).bind fun x12 => (some x12)) else (some (pW (pW x5 x6 ((gW x5 x6) + (mni x2 x3))) x8 ((gW (pW x5 x6 ((gW x5 x6) + (mni x2 x3))) x8) + (mni x2 x3)))))) else none)) else none))))))
set_option maxHeartbeats 4000000 in
theorem t_X12_unloads {Γ : jg_G} {g : Nat → jg_C} {n r : Nat} (hr : r + 11 ≤ n) (s : rs_S) (a1 : Int32)  {x : rs_S} (h : o_X12_unloads s a1 = some x) : jc Γ mX12_unloads 2 0 0 [some (.ref r), some (.int a1), none, none] (rs_h g r s, n) (.inl none) (rs_h g r x, n) := by
  refine jc_of ?_
  rw [o_X12_unloads] at h
  refine jg_aload_n dX12_unloads_0 rfl ?_
  refine jg_iload_n dX12_unloads_1 rfl ?_
  refine jg_bipush (v := nI 10) dX12_unloads_2 (by decide) ?_
  obtain ⟨x1, e_x1, h⟩ := bd_some h
  refine rs_call (As := [.int a1, .int (nI 10)]) kv_X12_137 dX12_unloads_4 hr rfl rfl (by decide) (Nat.le_of_ble_eq_true rfl) rfl (by decide) (Nat.le_of_ble_eq_true rfl) (t_X12_of hr s a1 (nI 10) e_x1) ?_
  refine jg_istore_n (L' := [some (.ref r), some (.int a1), some (.int x1), none]) dX12_unloads_7 (by decide) rfl ?_
  refine jg_aload_n dX12_unloads_8 rfl ?_
  refine jg_iload_n dX12_unloads_9 rfl ?_
  refine jg_iconst (v := nI 2) dX12_unloads_10 (by decide) ?_
  obtain ⟨x2, e_x2, h⟩ := bd_some h
  refine rs_call (As := [.int x1, .int (nI 2)]) kv_X12_140 dX12_unloads_11 hr rfl rfl (by decide) (Nat.le_of_ble_eq_true rfl) rfl (by decide) (Nat.le_of_ble_eq_true rfl) (t_X12_berthOf hr s x1 (nI 2) e_x2) ?_
  refine jg_aload_n dX12_unloads_14 rfl ?_
  refine jg_iload_n dX12_unloads_15 rfl ?_
  refine jg_bipush (v := nI 11) dX12_unloads_16 (by decide) ?_
  obtain ⟨x3, e_x3, h⟩ := bd_some h
  refine rs_call (As := [.int a1, .int (nI 11)]) kv_X12_137 dX12_unloads_18 hr rfl rfl (by decide) (Nat.le_of_ble_eq_true rfl) rfl (by decide) (Nat.le_of_ble_eq_true rfl) (t_X12_of hr s a1 (nI 11) e_x3) ?_
  refine jg_mmin (x := x2) (y := x3) km_X12_91 jw_min.1 jw_min.2 dX12_unloads_21 (by decide) (Nat.le_of_ble_eq_true rfl) ?_
  refine jg_istore_n (L' := [some (.ref r), some (.int a1), some (.int x1), some (.int (mni x2 x3))]) dX12_unloads_24 (by decide) rfl ?_
  refine jg_aload_n dX12_unloads_25 rfl ?_
  refine jg_iload_n dX12_unloads_26 rfl ?_
  refine jg_bipush (v := nI 11) dX12_unloads_27 (by decide) ?_
  refine jg_aload_n dX12_unloads_29 rfl ?_
  refine jg_iload_n dX12_unloads_30 rfl ?_
  refine jg_bipush (v := nI 11) dX12_unloads_31 (by decide) ?_
  obtain ⟨x4, e_x4, h⟩ := bd_some h
  refine rs_call (As := [.int a1, .int (nI 11)]) kv_X12_137 dX12_unloads_33 hr rfl rfl (by decide) (Nat.le_of_ble_eq_true rfl) rfl (by decide) (Nat.le_of_ble_eq_true rfl) (t_X12_of hr s a1 (nI 11) e_x4) ?_
  refine jg_iload_n dX12_unloads_36 rfl ?_
  refine jg_isub (x := x4) (y := (mni x2 x3)) dX12_unloads_37  ?_
  obtain ⟨x5, e_x5, h⟩ := bd_some h
  refine rs_call (As := [.int a1, .int (nI 11), .int (x4 - (mni x2 x3))]) kv_X12_111 dX12_unloads_38 hr rfl rfl (by decide) (Nat.le_of_ble_eq_true rfl) rfl (by decide) (Nat.le_of_ble_eq_true rfl) (t_X12_sets hr s a1 (nI 11) (x4 - (mni x2 x3)) e_x5) ?_
  refine jg_aload_n dX12_unloads_41 rfl ?_
  refine rs_ga fl_X12_13 dX12_unloads_42 hr rfl ?_
  refine jg_iload_n dX12_unloads_45 rfl ?_
  refine jg_iconst (v := nI 4) dX12_unloads_46 (by decide) ?_
  obtain ⟨x6, e_x6, h⟩ := bd_some h
  refine rs_callS (As := [.int x1, .int (nI 4)]) ks_X12_100 dX12_unloads_47 rfl (by decide) (Nat.le_of_ble_eq_true rfl) rfl (by decide) (Nat.le_of_ble_eq_true rfl) (t_X12_berthAt hr x5 x1 (nI 4) e_x6) ?_
  refine jg_dup2 dX12_unloads_50 rfl rfl ?_
  obtain ⟨q7, h⟩ := gd_some h
  refine rs_lwD (s := x5) (i := x6) dX12_unloads_51 hr q7 ?_
  refine jg_iload_n dX12_unloads_52 rfl ?_
  refine jg_iadd (x := (gW x5 x6)) (y := (mni x2 x3)) dX12_unloads_53  ?_
  refine rs_swD (s := x5) (i := x6) (x := ((gW x5 x6) + (mni x2 x3))) dX12_unloads_54 hr q7 ?_
  refine jg_aload_n dX12_unloads_55 rfl ?_
  refine rs_ga fl_X12_13 dX12_unloads_56 hr rfl ?_
  refine jg_iload_n dX12_unloads_59 rfl ?_
  refine jg_bipush (v := nI 7) dX12_unloads_60 (by decide) ?_
  obtain ⟨x8, e_x8, h⟩ := bd_some h
  refine rs_callS (As := [.int x1, .int (nI 7)]) ks_X12_100 dX12_unloads_62 rfl (by decide) (Nat.le_of_ble_eq_true rfl) rfl (by decide) (Nat.le_of_ble_eq_true rfl) (t_X12_berthAt hr (pW x5 x6 ((gW x5 x6) + (mni x2 x3))) x1 (nI 7) e_x8) ?_
  refine jg_dup2 dX12_unloads_65 rfl rfl ?_
  obtain ⟨q9, h⟩ := gd_some h
  refine rs_lwD (s := (pW x5 x6 ((gW x5 x6) + (mni x2 x3)))) (i := x8) dX12_unloads_66 hr q9 ?_
  refine jg_iload_n dX12_unloads_67 rfl ?_
  refine jg_iadd (x := (gW (pW x5 x6 ((gW x5 x6) + (mni x2 x3))) x8)) (y := (mni x2 x3)) dX12_unloads_68  ?_
  refine rs_swD (s := (pW x5 x6 ((gW x5 x6) + (mni x2 x3)))) (i := x8) (x := ((gW (pW x5 x6 ((gW x5 x6) + (mni x2 x3))) x8) + (mni x2 x3))) dX12_unloads_69 hr q9 ?_
  refine jg_aload_n dX12_unloads_70 rfl ?_
  refine jg_iload_n dX12_unloads_71 rfl ?_
  refine jg_bipush (v := nI 11) dX12_unloads_72 (by decide) ?_
  obtain ⟨x10, e_x10, h⟩ := bd_some h
  refine rs_call (As := [.int a1, .int (nI 11)]) kv_X12_137 dX12_unloads_74 hr rfl rfl (by decide) (Nat.le_of_ble_eq_true rfl) rfl (by decide) (Nat.le_of_ble_eq_true rfl) (t_X12_of hr (pW (pW x5 x6 ((gW x5 x6) + (mni x2 x3))) x8 ((gW (pW x5 x6 ((gW x5 x6) + (mni x2 x3))) x8) + (mni x2 x3))) a1 (nI 11) e_x10) ?_
  refine jg_if_ne (x := x10) (tgt := 88) dX12_unloads_77 (by decide) (fun c11 => ?_) (fun c11 => ?_)
  · replace h := it_f c11 h
    obtain rfl := Option.some.inj h
    exact jg_return dX12_unloads_88 rfl ⟨rfl, rfl⟩
  · replace h := it_t c11 h
    refine jg_aload_n dX12_unloads_80 rfl ?_
    refine jg_iload_n dX12_unloads_81 rfl ?_
    refine jg_bipush (v := nI 9) dX12_unloads_82 (by decide) ?_
    refine jg_iconst (v := nI 3) dX12_unloads_84 (by decide) ?_
    obtain ⟨x12, e_x12, h⟩ := bd_some h
    refine rs_call (As := [.int a1, .int (nI 9), .int (nI 3)]) kv_X12_111 dX12_unloads_85 hr rfl rfl (by decide) (Nat.le_of_ble_eq_true rfl) rfl (by decide) (Nat.le_of_ble_eq_true rfl) (t_X12_sets hr (pW (pW x5 x6 ((gW x5 x6) + (mni x2 x3))) x8 ((gW (pW x5 x6 ((gW x5 x6) + (mni x2 x3))) x8) + (mni x2 x3))) a1 (nI 9) (nI 3) e_x12) ?_
    obtain rfl := Option.some.inj h
    exact jg_return dX12_unloads_88 rfl ⟨rfl, rfl⟩
theorem dX12_hauls_0 : decode cX12_hauls 0 = .ok (.iconst (-1), 1) := by decide +kernel
theorem dX12_hauls_1 : decode cX12_hauls 1 = .ok (.istore_n 1, 1) := by decide +kernel
theorem dX12_hauls_2 : decode cX12_hauls 2 = .ok (.iconst 0, 1) := by decide +kernel
theorem dX12_hauls_3 : decode cX12_hauls 3 = .ok (.istore_n 2, 1) := by decide +kernel
theorem dX12_hauls_4 : decode cX12_hauls 4 = .ok (.iload_n 2, 1) := by decide +kernel
theorem dX12_hauls_5 : decode cX12_hauls 5 = .ok (.aload_n 0, 1) := by decide +kernel
theorem dX12_hauls_6 : decode cX12_hauls 6 = .ok (.getfield 13, 3) := by decide +kernel
theorem dX12_hauls_9 : decode cX12_hauls 9 = .ok (.sipush 999, 3) := by decide +kernel
theorem dX12_hauls_12 : decode cX12_hauls 12 = .ok (.iaload, 1) := by decide +kernel
theorem dX12_hauls_13 : decode cX12_hauls 13 = .ok (.if_icmp .ge 30, 3) := by decide +kernel
theorem dX12_hauls_16 : decode cX12_hauls 16 = .ok (.iload_n 1, 1) := by decide +kernel
theorem dX12_hauls_17 : decode cX12_hauls 17 = .ok (.ifCond .lt 18, 3) := by decide +kernel
theorem dX12_hauls_20 : decode cX12_hauls 20 = .ok (.aload_n 0, 1) := by decide +kernel
theorem dX12_hauls_21 : decode cX12_hauls 21 = .ok (.iload_n 2, 1) := by decide +kernel
theorem dX12_hauls_22 : decode cX12_hauls 22 = .ok (.iconst 4, 1) := by decide +kernel
theorem dX12_hauls_23 : decode cX12_hauls 23 = .ok (.invokevirtual 140, 3) := by decide +kernel
theorem dX12_hauls_26 : decode cX12_hauls 26 = .ok (.aload_n 0, 1) := by decide +kernel
theorem dX12_hauls_27 : decode cX12_hauls 27 = .ok (.iload_n 1, 1) := by decide +kernel
theorem dX12_hauls_28 : decode cX12_hauls 28 = .ok (.iconst 4, 1) := by decide +kernel
theorem dX12_hauls_29 : decode cX12_hauls 29 = .ok (.invokevirtual 140, 3) := by decide +kernel
theorem dX12_hauls_32 : decode cX12_hauls 32 = .ok (.if_icmp .le 5, 3) := by decide +kernel
theorem dX12_hauls_35 : decode cX12_hauls 35 = .ok (.iload_n 2, 1) := by decide +kernel
theorem dX12_hauls_36 : decode cX12_hauls 36 = .ok (.istore_n 1, 1) := by decide +kernel
theorem dX12_hauls_37 : decode cX12_hauls 37 = .ok (.iinc 2 1, 3) := by decide +kernel
theorem dX12_hauls_40 : decode cX12_hauls 40 = .ok (.goto (-36), 3) := by decide +kernel
theorem dX12_hauls_43 : decode cX12_hauls 43 = .ok (.iload_n 1, 1) := by decide +kernel
theorem dX12_hauls_44 : decode cX12_hauls 44 = .ok (.ifCond .ge 4, 3) := by decide +kernel
theorem dX12_hauls_47 : decode cX12_hauls 47 = .ok (.return_, 1) := by decide +kernel
theorem dX12_hauls_48 : decode cX12_hauls 48 = .ok (.bipush 10, 2) := by decide +kernel
theorem dX12_hauls_50 : decode cX12_hauls 50 = .ok (.aload_n 0, 1) := by decide +kernel
theorem dX12_hauls_51 : decode cX12_hauls 51 = .ok (.iload_n 1, 1) := by decide +kernel
theorem dX12_hauls_52 : decode cX12_hauls 52 = .ok (.iconst 4, 1) := by decide +kernel
theorem dX12_hauls_53 : decode cX12_hauls 53 = .ok (.invokevirtual 140, 3) := by decide +kernel
theorem dX12_hauls_56 : decode cX12_hauls 56 = .ok (.invokestatic 91, 3) := by decide +kernel
theorem dX12_hauls_59 : decode cX12_hauls 59 = .ok (.istore_n 2, 1) := by decide +kernel
theorem dX12_hauls_60 : decode cX12_hauls 60 = .ok (.aload_n 0, 1) := by decide +kernel
theorem dX12_hauls_61 : decode cX12_hauls 61 = .ok (.getfield 13, 3) := by decide +kernel
theorem dX12_hauls_64 : decode cX12_hauls 64 = .ok (.iload_n 1, 1) := by decide +kernel
theorem dX12_hauls_65 : decode cX12_hauls 65 = .ok (.iconst 4, 1) := by decide +kernel
theorem dX12_hauls_66 : decode cX12_hauls 66 = .ok (.invokestatic 100, 3) := by decide +kernel
theorem dX12_hauls_69 : decode cX12_hauls 69 = .ok (.dup2, 1) := by decide +kernel
theorem dX12_hauls_70 : decode cX12_hauls 70 = .ok (.iaload, 1) := by decide +kernel
theorem dX12_hauls_71 : decode cX12_hauls 71 = .ok (.iload_n 2, 1) := by decide +kernel
theorem dX12_hauls_72 : decode cX12_hauls 72 = .ok (.isub, 1) := by decide +kernel
theorem dX12_hauls_73 : decode cX12_hauls 73 = .ok (.iastore, 1) := by decide +kernel
theorem dX12_hauls_74 : decode cX12_hauls 74 = .ok (.aload_n 0, 1) := by decide +kernel
theorem dX12_hauls_75 : decode cX12_hauls 75 = .ok (.getfield 13, 3) := by decide +kernel
theorem dX12_hauls_78 : decode cX12_hauls 78 = .ok (.sipush 2659, 3) := by decide +kernel
theorem dX12_hauls_81 : decode cX12_hauls 81 = .ok (.dup2, 1) := by decide +kernel
theorem dX12_hauls_82 : decode cX12_hauls 82 = .ok (.iaload, 1) := by decide +kernel
theorem dX12_hauls_83 : decode cX12_hauls 83 = .ok (.iload_n 2, 1) := by decide +kernel
theorem dX12_hauls_84 : decode cX12_hauls 84 = .ok (.iadd, 1) := by decide +kernel
theorem dX12_hauls_85 : decode cX12_hauls 85 = .ok (.iastore, 1) := by decide +kernel
theorem dX12_hauls_86 : decode cX12_hauls 86 = .ok (.return_, 1) := by decide +kernel
noncomputable def o_X12_hauls_4 (F : Nat)  (s : rs_S) : Nat → Int32 → Int32 → Option (Int32)
  | 0, _, _ => none
  | f + 1, l1, l2 => if (gW s (nI 999)) ≤ l2 then (some l1) else (if l1 < 0 then (o_X12_hauls_4 F s f l2 (l2 + nI 1)) else ((o_X12_berthOf s l2 (nI 4)).bind fun x3 => ((o_X12_berthOf s l1 (nI 4)).bind fun x4 => (if x3 ≤ x4 then (o_X12_hauls_4 F s f l1 (l2 + nI 1)) else (o_X12_hauls_4 F s f l2 (l2 + nI 1))))))
set_option maxHeartbeats 4000000 in
theorem t_X12_hauls_4 {Γ : jg_G} {g : Nat → jg_C} {n r : Nat} (hr : r + 11 ≤ n) (F : Nat)  (s : rs_S)  (Q : jg_Q) {x : Int32} (K1 : jg Γ mX12_hauls 2 0 0 43 [some (.ref r), some (.int x), none] [] (rs_h g r s, n) Q)  : ∀ (f : Nat) (l1 : Int32) (l2 : Int32), o_X12_hauls_4 F s f l1 l2 = some x → jg Γ mX12_hauls 2 0 0 4 [some (.ref r), some (.int l1), some (.int l2)] [] (rs_h g r s, n) Q := by
  intro f
  induction f with
  | zero => intro l1 l2 h; rw [o_X12_hauls_4] at h; cases h
  | succ f ih =>
   intro l1 l2 h
   rw [o_X12_hauls_4] at h
   refine jg_iload_n dX12_hauls_4 rfl ?_
   refine jg_aload_n dX12_hauls_5 rfl ?_
   refine rs_ga fl_X12_13 dX12_hauls_6 hr rfl ?_
   refine jg_sipush (v := nI 999) dX12_hauls_9 (by decide) ?_
   refine rs_lwD (s := s) (i := (nI 999)) dX12_hauls_12 hr (by decide) ?_
   refine jg_icmp_ge (x := l2) (y := (gW s (nI 999))) (tgt := 43) dX12_hauls_13 (by decide) (fun c1 => ?_) (fun c1 => ?_)
   · replace h := it_t c1 h
     refine jg_fg (L' := [some (.ref r), some (.int l1), none]) (by repeat (first | exact trivial | refine ⟨rfl, ?_⟩ | show jg_le _ _)) ?_
     obtain rfl := Option.some.inj h
     exact K1
   · replace h := it_f c1 h
     refine jg_iload_n dX12_hauls_16 rfl ?_
     refine jg_if_lt (x := l1) (tgt := 35) dX12_hauls_17 (by decide) (fun c2 => ?_) (fun c2 => ?_)
     · replace h := it_t c2 h
       refine jg_iload_n dX12_hauls_35 rfl ?_
       refine jg_istore_n (L' := [some (.ref r), some (.int l2), some (.int l2)]) dX12_hauls_36 (by decide) rfl ?_
       refine jg_iinc (x := l2) (v := l2 + nI 1) (L' := [some (.ref r), some (.int l2), some (.int (l2 + nI 1))]) dX12_hauls_37 rfl (ic_k _ (by decide)) (by decide) rfl ?_
       refine jg_goto (tgt := 4) dX12_hauls_40 (by decide) ?_
       refine jg_fg (L' := [some (.ref r), some (.int l2), some (.int (l2 + nI 1))]) (by repeat (first | exact trivial | refine ⟨rfl, ?_⟩ | show jg_le _ _)) ?_
       exact ih l2 (l2 + nI 1) h
     · replace h := it_f c2 h
       refine jg_aload_n dX12_hauls_20 rfl ?_
       refine jg_iload_n dX12_hauls_21 rfl ?_
       refine jg_iconst (v := nI 4) dX12_hauls_22 (by decide) ?_
       obtain ⟨x3, e_x3, h⟩ := bd_some h
       refine rs_call (As := [.int l2, .int (nI 4)]) kv_X12_140 dX12_hauls_23 hr rfl rfl (by decide) (Nat.le_of_ble_eq_true rfl) rfl (by decide) (Nat.le_of_ble_eq_true rfl) (t_X12_berthOf hr s l2 (nI 4) e_x3) ?_
       refine jg_aload_n dX12_hauls_26 rfl ?_
       refine jg_iload_n dX12_hauls_27 rfl ?_
       refine jg_iconst (v := nI 4) dX12_hauls_28 (by decide) ?_
       obtain ⟨x4, e_x4, h⟩ := bd_some h
       refine rs_call (As := [.int l1, .int (nI 4)]) kv_X12_140 dX12_hauls_29 hr rfl rfl (by decide) (Nat.le_of_ble_eq_true rfl) rfl (by decide) (Nat.le_of_ble_eq_true rfl) (t_X12_berthOf hr s l1 (nI 4) e_x4) ?_
       refine jg_icmp_le (x := x3) (y := x4) (tgt := 37) dX12_hauls_32 (by decide) (fun c5 => ?_) (fun c5 => ?_)
       · replace h := it_t c5 h
         refine jg_iinc (x := l2) (v := l2 + nI 1) (L' := [some (.ref r), some (.int l1), some (.int (l2 + nI 1))]) dX12_hauls_37 rfl (ic_k _ (by decide)) (by decide) rfl ?_
         refine jg_goto (tgt := 4) dX12_hauls_40 (by decide) ?_
         refine jg_fg (L' := [some (.ref r), some (.int l1), some (.int (l2 + nI 1))]) (by repeat (first | exact trivial | refine ⟨rfl, ?_⟩ | show jg_le _ _)) ?_
         exact ih l1 (l2 + nI 1) h
       · replace h := it_f c5 h
         refine jg_iload_n dX12_hauls_35 rfl ?_
         refine jg_istore_n (L' := [some (.ref r), some (.int l2), some (.int l2)]) dX12_hauls_36 (by decide) rfl ?_
         refine jg_iinc (x := l2) (v := l2 + nI 1) (L' := [some (.ref r), some (.int l2), some (.int (l2 + nI 1))]) dX12_hauls_37 rfl (ic_k _ (by decide)) (by decide) rfl ?_
         refine jg_goto (tgt := 4) dX12_hauls_40 (by decide) ?_
         refine jg_fg (L' := [some (.ref r), some (.int l2), some (.int (l2 + nI 1))]) (by repeat (first | exact trivial | refine ⟨rfl, ?_⟩ | show jg_le _ _)) ?_
         exact ih l2 (l2 + nI 1) h
noncomputable def o_X12_hauls (F : Nat) (s : rs_S) : Option (rs_S) := (o_X12_hauls_4 F s F (-1) (nI 0)).bind fun x6 => (if 0 ≤ x6 then ((o_X12_berthOf s x6 (nI 4)).bind fun x8 => ((o_X12_berthAt s x6 (nI 4)).bind fun x9 => (if iL x9 22216 then (some (pW (pW s x9 ((gW s x9) - (mni (nI 10) x8))) (nI 2659) ((gW (pW s x9 ((gW s x9) - (mni (nI 10) x8))) (nI 2659)) + (mni (nI 10) x8)))) else none))) else (some s))
set_option maxHeartbeats 4000000 in
theorem t_X12_hauls {Γ : jg_G} {g : Nat → jg_C} {n r : Nat} (hr : r + 11 ≤ n) (F : Nat) (s : rs_S)  {x : rs_S} (h : o_X12_hauls F s = some x) : jc Γ mX12_hauls 2 0 0 [some (.ref r), none, none] (rs_h g r s, n) (.inl none) (rs_h g r x, n) := by
  refine jc_of ?_
  rw [o_X12_hauls] at h
  refine jg_iconst (v := (-1)) dX12_hauls_0 (by decide) ?_
  refine jg_istore_n (L' := [some (.ref r), some (.int (-1)), none]) dX12_hauls_1 (by decide) rfl ?_
  refine jg_iconst (v := nI 0) dX12_hauls_2 (by decide) ?_
  refine jg_istore_n (L' := [some (.ref r), some (.int (-1)), some (.int (nI 0))]) dX12_hauls_3 (by decide) rfl ?_
  obtain ⟨x6, e_x6, h⟩ := bd_some h
  refine jg_fg (L' := [some (.ref r), some (.int (-1)), some (.int (nI 0))]) (by repeat (first | exact trivial | refine ⟨rfl, ?_⟩ | show jg_le _ _)) ?_
  refine t_X12_hauls_4 hr F s  _ (x := x6) ?_ F (-1) (nI 0) e_x6
  refine jg_iload_n dX12_hauls_43 rfl ?_
  refine jg_if_ge (x := x6) (tgt := 48) dX12_hauls_44 (by decide) (fun c7 => ?_) (fun c7 => ?_)
  · replace h := it_t c7 h
    refine jg_bipush (v := nI 10) dX12_hauls_48 (by decide) ?_
    refine jg_aload_n dX12_hauls_50 rfl ?_
    refine jg_iload_n dX12_hauls_51 rfl ?_
    refine jg_iconst (v := nI 4) dX12_hauls_52 (by decide) ?_
    obtain ⟨x8, e_x8, h⟩ := bd_some h
    refine rs_call (As := [.int x6, .int (nI 4)]) kv_X12_140 dX12_hauls_53 hr rfl rfl (by decide) (Nat.le_of_ble_eq_true rfl) rfl (by decide) (Nat.le_of_ble_eq_true rfl) (t_X12_berthOf hr s x6 (nI 4) e_x8) ?_
    refine jg_mmin (x := (nI 10)) (y := x8) km_X12_91 jw_min.1 jw_min.2 dX12_hauls_56 (by decide) (Nat.le_of_ble_eq_true rfl) ?_
    refine jg_istore_n (L' := [some (.ref r), some (.int x6), some (.int (mni (nI 10) x8))]) dX12_hauls_59 (by decide) rfl ?_
    refine jg_aload_n dX12_hauls_60 rfl ?_
    refine rs_ga fl_X12_13 dX12_hauls_61 hr rfl ?_
    refine jg_iload_n dX12_hauls_64 rfl ?_
    refine jg_iconst (v := nI 4) dX12_hauls_65 (by decide) ?_
    obtain ⟨x9, e_x9, h⟩ := bd_some h
    refine rs_callS (As := [.int x6, .int (nI 4)]) ks_X12_100 dX12_hauls_66 rfl (by decide) (Nat.le_of_ble_eq_true rfl) rfl (by decide) (Nat.le_of_ble_eq_true rfl) (t_X12_berthAt hr s x6 (nI 4) e_x9) ?_
    refine jg_dup2 dX12_hauls_69 rfl rfl ?_
    obtain ⟨q10, h⟩ := gd_some h
    refine rs_lwD (s := s) (i := x9) dX12_hauls_70 hr q10 ?_
    refine jg_iload_n dX12_hauls_71 rfl ?_
    refine jg_isub (x := (gW s x9)) (y := (mni (nI 10) x8)) dX12_hauls_72  ?_
    refine rs_swD (s := s) (i := x9) (x := ((gW s x9) - (mni (nI 10) x8))) dX12_hauls_73 hr q10 ?_
    refine jg_aload_n dX12_hauls_74 rfl ?_
    refine rs_ga fl_X12_13 dX12_hauls_75 hr rfl ?_
    refine jg_sipush (v := nI 2659) dX12_hauls_78 (by decide) ?_
    refine jg_dup2 dX12_hauls_81 rfl rfl ?_
    refine rs_lwD (s := (pW s x9 ((gW s x9) - (mni (nI 10) x8)))) (i := (nI 2659)) dX12_hauls_82 hr (by decide) ?_
    refine jg_iload_n dX12_hauls_83 rfl ?_
    refine jg_iadd (x := (gW (pW s x9 ((gW s x9) - (mni (nI 10) x8))) (nI 2659))) (y := (mni (nI 10) x8)) dX12_hauls_84  ?_
    refine rs_swD (s := (pW s x9 ((gW s x9) - (mni (nI 10) x8)))) (i := (nI 2659)) (x := ((gW (pW s x9 ((gW s x9) - (mni (nI 10) x8))) (nI 2659)) + (mni (nI 10) x8))) dX12_hauls_85 hr (by decide) ?_
    obtain rfl := Option.some.inj h
    exact jg_return dX12_hauls_86 rfl ⟨rfl, rfl⟩
  · replace h := it_f c7 h
    obtain rfl := Option.some.inj h
    exact jg_return dX12_hauls_47 rfl ⟨rfl, rfl⟩
theorem dX12_runOf_0 : decode cX12_runOf 0 = .ok (.iconst (-1), 1) := by decide +kernel
theorem dX12_runOf_1 : decode cX12_runOf 1 = .ok (.istore_n 2, 1) := by decide +kernel
theorem dX12_runOf_2 : decode cX12_runOf 2 = .ok (.bipush 99, 2) := by decide +kernel
theorem dX12_runOf_4 : decode cX12_runOf 4 = .ok (.istore_n 3, 1) := by decide +kernel
theorem dX12_runOf_5 : decode cX12_runOf 5 = .ok (.iload_n 3, 1) := by decide +kernel
theorem dX12_runOf_6 : decode cX12_runOf 6 = .ok (.bipush 99, 2) := by decide +kernel
theorem dX12_runOf_8 : decode cX12_runOf 8 = .ok (.iconst 2, 1) := by decide +kernel
theorem dX12_runOf_9 : decode cX12_runOf 9 = .ok (.aload_n 0, 1) := by decide +kernel
theorem dX12_runOf_10 : decode cX12_runOf 10 = .ok (.getfield 13, 3) := by decide +kernel
theorem dX12_runOf_13 : decode cX12_runOf 13 = .ok (.bipush 98, 2) := by decide +kernel
theorem dX12_runOf_15 : decode cX12_runOf 15 = .ok (.iaload, 1) := by decide +kernel
theorem dX12_runOf_16 : decode cX12_runOf 16 = .ok (.imul, 1) := by decide +kernel
theorem dX12_runOf_17 : decode cX12_runOf 17 = .ok (.iadd, 1) := by decide +kernel
theorem dX12_runOf_18 : decode cX12_runOf 18 = .ok (.if_icmp .ge 40, 3) := by decide +kernel
theorem dX12_runOf_21 : decode cX12_runOf 21 = .ok (.aload_n 0, 1) := by decide +kernel
theorem dX12_runOf_22 : decode cX12_runOf 22 = .ok (.getfield 13, 3) := by decide +kernel
theorem dX12_runOf_25 : decode cX12_runOf 25 = .ok (.iload_n 3, 1) := by decide +kernel
theorem dX12_runOf_26 : decode cX12_runOf 26 = .ok (.iaload, 1) := by decide +kernel
theorem dX12_runOf_27 : decode cX12_runOf 27 = .ok (.iload_n 1, 1) := by decide +kernel
theorem dX12_runOf_28 : decode cX12_runOf 28 = .ok (.if_icmp .gt 24, 3) := by decide +kernel
theorem dX12_runOf_31 : decode cX12_runOf 31 = .ok (.iload_n 2, 1) := by decide +kernel
theorem dX12_runOf_32 : decode cX12_runOf 32 = .ok (.ifCond .lt 18, 3) := by decide +kernel
theorem dX12_runOf_35 : decode cX12_runOf 35 = .ok (.aload_n 0, 1) := by decide +kernel
theorem dX12_runOf_36 : decode cX12_runOf 36 = .ok (.getfield 13, 3) := by decide +kernel
theorem dX12_runOf_39 : decode cX12_runOf 39 = .ok (.iload_n 3, 1) := by decide +kernel
theorem dX12_runOf_40 : decode cX12_runOf 40 = .ok (.iaload, 1) := by decide +kernel
theorem dX12_runOf_41 : decode cX12_runOf 41 = .ok (.aload_n 0, 1) := by decide +kernel
theorem dX12_runOf_42 : decode cX12_runOf 42 = .ok (.getfield 13, 3) := by decide +kernel
theorem dX12_runOf_45 : decode cX12_runOf 45 = .ok (.iload_n 2, 1) := by decide +kernel
theorem dX12_runOf_46 : decode cX12_runOf 46 = .ok (.iaload, 1) := by decide +kernel
theorem dX12_runOf_47 : decode cX12_runOf 47 = .ok (.if_icmp .lt 5, 3) := by decide +kernel
theorem dX12_runOf_50 : decode cX12_runOf 50 = .ok (.iload_n 3, 1) := by decide +kernel
theorem dX12_runOf_51 : decode cX12_runOf 51 = .ok (.istore_n 2, 1) := by decide +kernel
theorem dX12_runOf_52 : decode cX12_runOf 52 = .ok (.iinc 3 2, 3) := by decide +kernel
theorem dX12_runOf_55 : decode cX12_runOf 55 = .ok (.goto (-50), 3) := by decide +kernel
theorem dX12_runOf_58 : decode cX12_runOf 58 = .ok (.iload_n 2, 1) := by decide +kernel
theorem dX12_runOf_59 : decode cX12_runOf 59 = .ok (.ifCond .ge 7, 3) := by decide +kernel
theorem dX12_runOf_62 : decode cX12_runOf 62 = .ok (.iconst 0, 1) := by decide +kernel
theorem dX12_runOf_63 : decode cX12_runOf 63 = .ok (.goto 11, 3) := by decide +kernel
theorem dX12_runOf_66 : decode cX12_runOf 66 = .ok (.aload_n 0, 1) := by decide +kernel
theorem dX12_runOf_67 : decode cX12_runOf 67 = .ok (.getfield 13, 3) := by decide +kernel
theorem dX12_runOf_70 : decode cX12_runOf 70 = .ok (.iload_n 2, 1) := by decide +kernel
theorem dX12_runOf_71 : decode cX12_runOf 71 = .ok (.iconst 1, 1) := by decide +kernel
theorem dX12_runOf_72 : decode cX12_runOf 72 = .ok (.iadd, 1) := by decide +kernel
theorem dX12_runOf_73 : decode cX12_runOf 73 = .ok (.iaload, 1) := by decide +kernel
theorem dX12_runOf_74 : decode cX12_runOf 74 = .ok (.ireturn, 1) := by decide +kernel
noncomputable def o_X12_runOf_5 (F : Nat) (l1 : Int32) (s : rs_S) : Nat → Int32 → Int32 → Option (Int32)
  | 0, _, _ => none
  | f + 1, l2, l3 => if ((nI 99) + ((nI 2) * (gW s (nI 98)))) ≤ l3 then (some l2) else (if iL l3 22216 then (if l1 < (gW s l3) then (o_X12_runOf_5 F l1 s f l2 (l3 + nI 2)) else (if l2 < 0 then (o_X12_runOf_5 F l1 s f l3 (l3 + nI 2)) else (if iL l2 22216 then (if (gW s l3) < (gW s l2) then (o_X12_runOf_5 F l1 s f l2 (l3 + nI 2)) else (o_X12_runOf_5 F l1 s f l3 (l3 + nI 2))) else none))) else none)
set_option maxHeartbeats 4000000 in
theorem t_X12_runOf_5 {Γ : jg_G} {g : Nat → jg_C} {n r : Nat} (hr : r + 11 ≤ n) (F : Nat) (l1 : Int32) (s : rs_S)  (Q : jg_Q) {x : Int32} (K1 : jg Γ mX12_runOf 0 0 0 58 [some (.ref r), none, some (.int x), none] [] (rs_h g r s, n) Q)  : ∀ (f : Nat) (l2 : Int32) (l3 : Int32), o_X12_runOf_5 F l1 s f l2 l3 = some x → jg Γ mX12_runOf 0 0 0 5 [some (.ref r), some (.int l1), some (.int l2), some (.int l3)] [] (rs_h g r s, n) Q := by
  intro f
  induction f with
  | zero => intro l2 l3 h; rw [o_X12_runOf_5] at h; cases h
  | succ f ih =>
   intro l2 l3 h
   rw [o_X12_runOf_5] at h
   refine jg_iload_n dX12_runOf_5 rfl ?_
   refine jg_bipush (v := nI 99) dX12_runOf_6 (by decide) ?_
   refine jg_iconst (v := nI 2) dX12_runOf_8 (by decide) ?_
   refine jg_aload_n dX12_runOf_9 rfl ?_
   refine rs_ga fl_X12_13 dX12_runOf_10 hr rfl ?_
   refine jg_bipush (v := nI 98) dX12_runOf_13 (by decide) ?_
   refine rs_lwD (s := s) (i := (nI 98)) dX12_runOf_15 hr (by decide) ?_
   refine jg_imul (x := (nI 2)) (y := (gW s (nI 98))) dX12_runOf_16  ?_
   refine jg_iadd (x := (nI 99)) (y := ((nI 2) * (gW s (nI 98)))) dX12_runOf_17  ?_
   refine jg_icmp_ge (x := l3) (y := ((nI 99) + ((nI 2) * (gW s (nI 98))))) (tgt := 58) dX12_runOf_18 (by decide) (fun c1 => ?_) (fun c1 => ?_)
   · replace h := it_t c1 h
     refine jg_fg (L' := [some (.ref r), none, some (.int l2), none]) (by repeat (first | exact trivial | refine ⟨rfl, ?_⟩ | show jg_le _ _)) ?_
     obtain rfl := Option.some.inj h
     exact K1
   · replace h := it_f c1 h
     refine jg_aload_n dX12_runOf_21 rfl ?_
     refine rs_ga fl_X12_13 dX12_runOf_22 hr rfl ?_
     refine jg_iload_n dX12_runOf_25 rfl ?_
     obtain ⟨q2, h⟩ := gd_some h
     refine rs_lwD (s := s) (i := l3) dX12_runOf_26 hr q2 ?_
     refine jg_iload_n dX12_runOf_27 rfl ?_
     refine jg_icmp_gt (x := (gW s l3)) (y := l1) (tgt := 52) dX12_runOf_28 (by decide) (fun c3 => ?_) (fun c3 => ?_)
     · replace h := it_t c3 h
       refine jg_iinc (x := l3) (v := l3 + nI 2) (L' := [some (.ref r), some (.int l1), some (.int l2), some (.int (l3 + nI 2))]) dX12_runOf_52 rfl (ic_k _ (by decide)) (by decide) rfl ?_
       refine jg_goto (tgt := 5) dX12_runOf_55 (by decide) ?_
       refine jg_fg (L' := [some (.ref r), some (.int l1), some (.int l2), some (.int (l3 + nI 2))]) (by repeat (first | exact trivial | refine ⟨rfl, ?_⟩ | show jg_le _ _)) ?_
       exact ih l2 (l3 + nI 2) h
     · replace h := it_f c3 h
       refine jg_iload_n dX12_runOf_31 rfl ?_
       refine jg_if_lt (x := l2) (tgt := 50) dX12_runOf_32 (by decide) (fun c4 => ?_) (fun c4 => ?_)
       · replace h := it_t c4 h
         refine jg_iload_n dX12_runOf_50 rfl ?_
         refine jg_istore_n (L' := [some (.ref r), some (.int l1), some (.int l3), some (.int l3)]) dX12_runOf_51 (by decide) rfl ?_
         refine jg_iinc (x := l3) (v := l3 + nI 2) (L' := [some (.ref r), some (.int l1), some (.int l3), some (.int (l3 + nI 2))]) dX12_runOf_52 rfl (ic_k _ (by decide)) (by decide) rfl ?_
         refine jg_goto (tgt := 5) dX12_runOf_55 (by decide) ?_
         refine jg_fg (L' := [some (.ref r), some (.int l1), some (.int l3), some (.int (l3 + nI 2))]) (by repeat (first | exact trivial | refine ⟨rfl, ?_⟩ | show jg_le _ _)) ?_
         exact ih l3 (l3 + nI 2) h
       · replace h := it_f c4 h
         refine jg_aload_n dX12_runOf_35 rfl ?_
         refine rs_ga fl_X12_13 dX12_runOf_36 hr rfl ?_
         refine jg_iload_n dX12_runOf_39 rfl ?_
         refine rs_lwD (s := s) (i := l3) dX12_runOf_40 hr q2 ?_
         refine jg_aload_n dX12_runOf_41 rfl ?_
         refine rs_ga fl_X12_13 dX12_runOf_42 hr rfl ?_
         refine jg_iload_n dX12_runOf_45 rfl ?_
         obtain ⟨q5, h⟩ := gd_some h
         refine rs_lwD (s := s) (i := l2) dX12_runOf_46 hr q5 ?_
         refine jg_icmp_lt (x := (gW s l3)) (y := (gW s l2)) (tgt := 52) dX12_runOf_47 (by decide) (fun c6 => ?_) (fun c6 => ?_)
         · replace h := it_t c6 h
           refine jg_iinc (x := l3) (v := l3 + nI 2) (L' := [some (.ref r), some (.int l1), some (.int l2), some (.int (l3 + nI 2))]) dX12_runOf_52 rfl (ic_k _ (by decide)) (by decide) rfl ?_
           refine jg_goto (tgt := 5) dX12_runOf_55 (by decide) ?_
           refine jg_fg (L' := [some (.ref r), some (.int l1), some (.int l2), some (.int (l3 + nI 2))]) (by repeat (first | exact trivial | refine ⟨rfl, ?_⟩ | show jg_le _ _)) ?_
           exact ih l2 (l3 + nI 2) h
         · replace h := it_f c6 h
           refine jg_iload_n dX12_runOf_50 rfl ?_
           refine jg_istore_n (L' := [some (.ref r), some (.int l1), some (.int l3), some (.int l3)]) dX12_runOf_51 (by decide) rfl ?_
           refine jg_iinc (x := l3) (v := l3 + nI 2) (L' := [some (.ref r), some (.int l1), some (.int l3), some (.int (l3 + nI 2))]) dX12_runOf_52 rfl (ic_k _ (by decide)) (by decide) rfl ?_
           refine jg_goto (tgt := 5) dX12_runOf_55 (by decide) ?_
           refine jg_fg (L' := [some (.ref r), some (.int l1), some (.int l3), some (.int (l3 + nI 2))]) (by repeat (first | exact trivial | refine ⟨rfl, ?_⟩ | show jg_le _ _)) ?_
           exact ih l3 (l3 + nI 2) h
noncomputable def o_X12_runOf (F : Nat) (s : rs_S) (a1 : Int32) : Option (Int32) := (o_X12_runOf_5 F a1 s F (-1) (nI 99)).bind fun x7 => (if 0 ≤ x7 then (if iL (x7 + (nI 1)) 22216 then (some (gW s (x7 + (nI 1)))) else none) else (some (nI 0)))
set_option maxHeartbeats 4000000 in
theorem t_X12_runOf {Γ : jg_G} {g : Nat → jg_C} {n r : Nat} (hr : r + 11 ≤ n) (F : Nat) (s : rs_S) (a1 : Int32)  {x : Int32} (h : o_X12_runOf F s a1 = some x) : jc Γ mX12_runOf 0 0 0 [some (.ref r), some (.int a1), none, none] (rs_h g r s, n) (.inl (some (.int x))) (rs_h g r s, n) := by
  refine jc_of ?_
  rw [o_X12_runOf] at h
  refine jg_iconst (v := (-1)) dX12_runOf_0 (by decide) ?_
  refine jg_istore_n (L' := [some (.ref r), some (.int a1), some (.int (-1)), none]) dX12_runOf_1 (by decide) rfl ?_
  refine jg_bipush (v := nI 99) dX12_runOf_2 (by decide) ?_
  refine jg_istore_n (L' := [some (.ref r), some (.int a1), some (.int (-1)), some (.int (nI 99))]) dX12_runOf_4 (by decide) rfl ?_
  obtain ⟨x7, e_x7, h⟩ := bd_some h
  refine jg_fg (L' := [some (.ref r), some (.int a1), some (.int (-1)), some (.int (nI 99))]) (by repeat (first | exact trivial | refine ⟨rfl, ?_⟩ | show jg_le _ _)) ?_
  refine t_X12_runOf_5 hr F a1 s  _ (x := x7) ?_ F (-1) (nI 99) e_x7
  refine jg_iload_n dX12_runOf_58 rfl ?_
  refine jg_if_ge (x := x7) (tgt := 66) dX12_runOf_59 (by decide) (fun c8 => ?_) (fun c8 => ?_)
  · replace h := it_t c8 h
    refine jg_aload_n dX12_runOf_66 rfl ?_
    refine rs_ga fl_X12_13 dX12_runOf_67 hr rfl ?_
    refine jg_iload_n dX12_runOf_70 rfl ?_
    refine jg_iconst (v := nI 1) dX12_runOf_71 (by decide) ?_
    refine jg_iadd (x := x7) (y := (nI 1)) dX12_runOf_72  ?_
    obtain ⟨q9, h⟩ := gd_some h
    refine rs_lwD (s := s) (i := (x7 + (nI 1))) dX12_runOf_73 hr q9 ?_
    obtain rfl := Option.some.inj h
    exact jg_ireturn dX12_runOf_74 rfl ⟨rfl, rfl⟩
  · replace h := it_f c8 h
    refine jg_iconst (v := nI 0) dX12_runOf_62 (by decide) ?_
    refine jg_goto (tgt := 74) dX12_runOf_63 (by decide) ?_
    obtain rfl := Option.some.inj h
    exact jg_ireturn dX12_runOf_74 rfl ⟨rfl, rfl⟩
theorem dX12_settles_0 : decode cX12_settles 0 = .ok (.aload_n 0, 1) := by decide +kernel
theorem dX12_settles_1 : decode cX12_settles 1 = .ok (.aload_n 0, 1) := by decide +kernel
theorem dX12_settles_2 : decode cX12_settles 2 = .ok (.invokevirtual 77, 3) := by decide +kernel
theorem dX12_settles_5 : decode cX12_settles 5 = .ok (.iconst 1, 1) := by decide +kernel
theorem dX12_settles_6 : decode cX12_settles 6 = .ok (.isub, 1) := by decide +kernel
theorem dX12_settles_7 : decode cX12_settles 7 = .ok (.invokevirtual 84, 3) := by decide +kernel
theorem dX12_settles_10 : decode cX12_settles 10 = .ok (.istore_n 1, 1) := by decide +kernel
theorem dX12_settles_11 : decode cX12_settles 11 = .ok (.aload_n 0, 1) := by decide +kernel
theorem dX12_settles_12 : decode cX12_settles 12 = .ok (.getfield 13, 3) := by decide +kernel
theorem dX12_settles_15 : decode cX12_settles 15 = .ok (.sipush 2656, 3) := by decide +kernel
theorem dX12_settles_18 : decode cX12_settles 18 = .ok (.dup2, 1) := by decide +kernel
theorem dX12_settles_19 : decode cX12_settles 19 = .ok (.iaload, 1) := by decide +kernel
theorem dX12_settles_20 : decode cX12_settles 20 = .ok (.iload_n 1, 1) := by decide +kernel
theorem dX12_settles_21 : decode cX12_settles 21 = .ok (.iadd, 1) := by decide +kernel
theorem dX12_settles_22 : decode cX12_settles 22 = .ok (.iastore, 1) := by decide +kernel
theorem dX12_settles_23 : decode cX12_settles 23 = .ok (.bipush 23, 2) := by decide +kernel
theorem dX12_settles_25 : decode cX12_settles 25 = .ok (.istore_n 2, 1) := by decide +kernel
theorem dX12_settles_26 : decode cX12_settles 26 = .ok (.iload_n 2, 1) := by decide +kernel
theorem dX12_settles_27 : decode cX12_settles 27 = .ok (.ifCond .lt 61, 3) := by decide +kernel
theorem dX12_settles_30 : decode cX12_settles 30 = .ok (.iload_n 1, 1) := by decide +kernel
theorem dX12_settles_31 : decode cX12_settles 31 = .ok (.bipush 60, 2) := by decide +kernel
theorem dX12_settles_33 : decode cX12_settles 33 = .ok (.iconst 5, 1) := by decide +kernel
theorem dX12_settles_34 : decode cX12_settles 34 = .ok (.iconst 0, 1) := by decide +kernel
theorem dX12_settles_35 : decode cX12_settles 35 = .ok (.aload_n 0, 1) := by decide +kernel
theorem dX12_settles_36 : decode cX12_settles 36 = .ok (.getfield 13, 3) := by decide +kernel
theorem dX12_settles_39 : decode cX12_settles 39 = .ok (.iconst 1, 1) := by decide +kernel
theorem dX12_settles_40 : decode cX12_settles 40 = .ok (.iload_n 2, 1) := by decide +kernel
theorem dX12_settles_41 : decode cX12_settles 41 = .ok (.iadd, 1) := by decide +kernel
theorem dX12_settles_42 : decode cX12_settles 42 = .ok (.iaload, 1) := by decide +kernel
theorem dX12_settles_43 : decode cX12_settles 43 = .ok (.aload_n 0, 1) := by decide +kernel
theorem dX12_settles_44 : decode cX12_settles 44 = .ok (.getfield 13, 3) := by decide +kernel
theorem dX12_settles_47 : decode cX12_settles 47 = .ok (.bipush 25, 2) := by decide +kernel
theorem dX12_settles_49 : decode cX12_settles 49 = .ok (.iload_n 2, 1) := by decide +kernel
theorem dX12_settles_50 : decode cX12_settles 50 = .ok (.iadd, 1) := by decide +kernel
theorem dX12_settles_51 : decode cX12_settles 51 = .ok (.iaload, 1) := by decide +kernel
theorem dX12_settles_52 : decode cX12_settles 52 = .ok (.isub, 1) := by decide +kernel
theorem dX12_settles_53 : decode cX12_settles 53 = .ok (.invokestatic 88, 3) := by decide +kernel
theorem dX12_settles_56 : decode cX12_settles 56 = .ok (.iadd, 1) := by decide +kernel
theorem dX12_settles_57 : decode cX12_settles 57 = .ok (.invokestatic 91, 3) := by decide +kernel
theorem dX12_settles_60 : decode cX12_settles 60 = .ok (.imul, 1) := by decide +kernel
theorem dX12_settles_61 : decode cX12_settles 61 = .ok (.bipush 100, 2) := by decide +kernel
theorem dX12_settles_63 : decode cX12_settles 63 = .ok (.idiv, 1) := by decide +kernel
theorem dX12_settles_64 : decode cX12_settles 64 = .ok (.istore_n 3, 1) := by decide +kernel
theorem dX12_settles_65 : decode cX12_settles 65 = .ok (.aload_n 0, 1) := by decide +kernel
theorem dX12_settles_66 : decode cX12_settles 66 = .ok (.getfield 13, 3) := by decide +kernel
theorem dX12_settles_69 : decode cX12_settles 69 = .ok (.bipush 49, 2) := by decide +kernel
theorem dX12_settles_71 : decode cX12_settles 71 = .ok (.iload_n 2, 1) := by decide +kernel
theorem dX12_settles_72 : decode cX12_settles 72 = .ok (.iadd, 1) := by decide +kernel
theorem dX12_settles_73 : decode cX12_settles 73 = .ok (.dup2, 1) := by decide +kernel
theorem dX12_settles_74 : decode cX12_settles 74 = .ok (.iaload, 1) := by decide +kernel
theorem dX12_settles_75 : decode cX12_settles 75 = .ok (.iload_n 3, 1) := by decide +kernel
theorem dX12_settles_76 : decode cX12_settles 76 = .ok (.iadd, 1) := by decide +kernel
theorem dX12_settles_77 : decode cX12_settles 77 = .ok (.iastore, 1) := by decide +kernel
theorem dX12_settles_78 : decode cX12_settles 78 = .ok (.iload_n 1, 1) := by decide +kernel
theorem dX12_settles_79 : decode cX12_settles 79 = .ok (.iload_n 3, 1) := by decide +kernel
theorem dX12_settles_80 : decode cX12_settles 80 = .ok (.isub, 1) := by decide +kernel
theorem dX12_settles_81 : decode cX12_settles 81 = .ok (.istore_n 1, 1) := by decide +kernel
theorem dX12_settles_82 : decode cX12_settles 82 = .ok (.iinc 2 (-1), 3) := by decide +kernel
theorem dX12_settles_85 : decode cX12_settles 85 = .ok (.goto (-59), 3) := by decide +kernel
theorem dX12_settles_88 : decode cX12_settles 88 = .ok (.aload_n 0, 1) := by decide +kernel
theorem dX12_settles_89 : decode cX12_settles 89 = .ok (.getfield 13, 3) := by decide +kernel
theorem dX12_settles_92 : decode cX12_settles 92 = .ok (.sipush 2657, 3) := by decide +kernel
theorem dX12_settles_95 : decode cX12_settles 95 = .ok (.dup2, 1) := by decide +kernel
theorem dX12_settles_96 : decode cX12_settles 96 = .ok (.iaload, 1) := by decide +kernel
theorem dX12_settles_97 : decode cX12_settles 97 = .ok (.iload_n 1, 1) := by decide +kernel
theorem dX12_settles_98 : decode cX12_settles 98 = .ok (.iadd, 1) := by decide +kernel
theorem dX12_settles_99 : decode cX12_settles 99 = .ok (.iastore, 1) := by decide +kernel
theorem dX12_settles_100 : decode cX12_settles 100 = .ok (.return_, 1) := by decide +kernel
noncomputable def o_X12_settles_26 (F : Nat)   : Nat → Int32 → Int32 → rs_S → Option (Int32 × rs_S)
  | 0, _, _, _ => none
  | f + 1, l1, l2, s => if l2 < 0 then (some (l1, s)) else (if iL ((nI 1) + l2) 22216 then (if iL ((nI 25) + l2) 22216 then (if iL ((nI 49) + l2) 22216 then (o_X12_settles_26 F f (l1 - ((l1 * (mni (nI 60) ((nI 5) + (mxi (nI 0) ((gW s ((nI 1) + l2)) - (gW s ((nI 25) + l2))))))) / (nI 100))) (l2 + (-1)) (pW s ((nI 49) + l2) ((gW s ((nI 49) + l2)) + ((l1 * (mni (nI 60) ((nI 5) + (mxi (nI 0) ((gW s ((nI 1) + l2)) - (gW s ((nI 25) + l2))))))) / (nI 100))))) else none) else none) else none)
set_option maxHeartbeats 4000000 in
theorem t_X12_settles_26 {Γ : jg_G} {g : Nat → jg_C} {n r : Nat} (hr : r + 11 ≤ n) (F : Nat)    (Q : jg_Q) {x : Int32 × rs_S} (K1 : jg Γ mX12_settles 1 0 0 88 [some (.ref r), some (.int x.1), none, none] [] (rs_h g r x.2, n) Q)  : ∀ (f : Nat) (l1 : Int32) (l2 : Int32) (s : rs_S), o_X12_settles_26 F f l1 l2 s = some x → jg Γ mX12_settles 1 0 0 26 [some (.ref r), some (.int l1), some (.int l2), none] [] (rs_h g r s, n) Q := by
  intro f
  induction f with
  | zero => intro l1 l2 s h; rw [o_X12_settles_26] at h; cases h
  | succ f ih =>
   intro l1 l2 s h
   rw [o_X12_settles_26] at h
   refine jg_iload_n dX12_settles_26 rfl ?_
   refine jg_if_lt (x := l2) (tgt := 88) dX12_settles_27 (by decide) (fun c3 => ?_) (fun c3 => ?_)
   · replace h := it_t c3 h
     refine jg_fg (L' := [some (.ref r), some (.int l1), none, none]) (by repeat (first | exact trivial | refine ⟨rfl, ?_⟩ | show jg_le _ _)) ?_
     obtain rfl := Option.some.inj h
     exact K1
   · replace h := it_f c3 h
     refine jg_iload_n dX12_settles_30 rfl ?_
     refine jg_bipush (v := nI 60) dX12_settles_31 (by decide) ?_
     refine jg_iconst (v := nI 5) dX12_settles_33 (by decide) ?_
     refine jg_iconst (v := nI 0) dX12_settles_34 (by decide) ?_
     refine jg_aload_n dX12_settles_35 rfl ?_
     refine rs_ga fl_X12_13 dX12_settles_36 hr rfl ?_
     refine jg_iconst (v := nI 1) dX12_settles_39 (by decide) ?_
     refine jg_iload_n dX12_settles_40 rfl ?_
     refine jg_iadd (x := (nI 1)) (y := l2) dX12_settles_41  ?_
     obtain ⟨q4, h⟩ := gd_some h
     refine rs_lwD (s := s) (i := ((nI 1) + l2)) dX12_settles_42 hr q4 ?_
     refine jg_aload_n dX12_settles_43 rfl ?_
     refine rs_ga fl_X12_13 dX12_settles_44 hr rfl ?_
     refine jg_bipush (v := nI 25) dX12_settles_47 (by decide) ?_
     refine jg_iload_n dX12_settles_49 rfl ?_
     refine jg_iadd (x := (nI 25)) (y := l2) dX12_settles_50  ?_
     obtain ⟨q5, h⟩ := gd_some h
     refine rs_lwD (s := s) (i := ((nI 25) + l2)) dX12_settles_51 hr q5 ?_
     refine jg_isub (x := (gW s ((nI 1) + l2))) (y := (gW s ((nI 25) + l2))) dX12_settles_52  ?_
     refine jg_mmax (x := (nI 0)) (y := ((gW s ((nI 1) + l2)) - (gW s ((nI 25) + l2)))) km_X12_88 jw_max.1 jw_max.2 dX12_settles_53 (by decide) (Nat.le_of_ble_eq_true rfl) ?_
     refine jg_iadd (x := (nI 5)) (y := (mxi (nI 0) ((gW s ((nI 1) + l2)) - (gW s ((nI 25) + l2))))) dX12_settles_56  ?_
     refine jg_mmin (x := (nI 60)) (y := ((nI 5) + (mxi (nI 0) ((gW s ((nI 1) + l2)) - (gW s ((nI 25) + l2)))))) km_X12_91 jw_min.1 jw_min.2 dX12_settles_57 (by decide) (Nat.le_of_ble_eq_true rfl) ?_
     refine jg_imul (x := l1) (y := (mni (nI 60) ((nI 5) + (mxi (nI 0) ((gW s ((nI 1) + l2)) - (gW s ((nI 25) + l2))))))) dX12_settles_60  ?_
     refine jg_bipush (v := nI 100) dX12_settles_61 (by decide) ?_
     refine jg_idiv (x := (l1 * (mni (nI 60) ((nI 5) + (mxi (nI 0) ((gW s ((nI 1) + l2)) - (gW s ((nI 25) + l2)))))))) (y := (nI 100)) dX12_settles_63 (by decide) ?_
     refine jg_istore_n (L' := [some (.ref r), some (.int l1), some (.int l2), some (.int ((l1 * (mni (nI 60) ((nI 5) + (mxi (nI 0) ((gW s ((nI 1) + l2)) - (gW s ((nI 25) + l2))))))) / (nI 100)))]) dX12_settles_64 (by decide) rfl ?_
     refine jg_aload_n dX12_settles_65 rfl ?_
     refine rs_ga fl_X12_13 dX12_settles_66 hr rfl ?_
     refine jg_bipush (v := nI 49) dX12_settles_69 (by decide) ?_
     refine jg_iload_n dX12_settles_71 rfl ?_
     refine jg_iadd (x := (nI 49)) (y := l2) dX12_settles_72  ?_
     refine jg_dup2 dX12_settles_73 rfl rfl ?_
     obtain ⟨q6, h⟩ := gd_some h
     refine rs_lwD (s := s) (i := ((nI 49) + l2)) dX12_settles_74 hr q6 ?_
     refine jg_iload_n dX12_settles_75 rfl ?_
     refine jg_iadd (x := (gW s ((nI 49) + l2))) (y := ((l1 * (mni (nI 60) ((nI 5) + (mxi (nI 0) ((gW s ((nI 1) + l2)) - (gW s ((nI 25) + l2))))))) / (nI 100))) dX12_settles_76  ?_
     refine rs_swD (s := s) (i := ((nI 49) + l2)) (x := ((gW s ((nI 49) + l2)) + ((l1 * (mni (nI 60) ((nI 5) + (mxi (nI 0) ((gW s ((nI 1) + l2)) - (gW s ((nI 25) + l2))))))) / (nI 100)))) dX12_settles_77 hr q6 ?_
     refine jg_iload_n dX12_settles_78 rfl ?_
     refine jg_iload_n dX12_settles_79 rfl ?_
     refine jg_isub (x := l1) (y := ((l1 * (mni (nI 60) ((nI 5) + (mxi (nI 0) ((gW s ((nI 1) + l2)) - (gW s ((nI 25) + l2))))))) / (nI 100))) dX12_settles_80  ?_
     refine jg_istore_n (L' := [some (.ref r), some (.int (l1 - ((l1 * (mni (nI 60) ((nI 5) + (mxi (nI 0) ((gW s ((nI 1) + l2)) - (gW s ((nI 25) + l2))))))) / (nI 100)))), some (.int l2), some (.int ((l1 * (mni (nI 60) ((nI 5) + (mxi (nI 0) ((gW s ((nI 1) + l2)) - (gW s ((nI 25) + l2))))))) / (nI 100)))]) dX12_settles_81 (by decide) rfl ?_
     refine jg_iinc (x := l2) (v := l2 + (-1)) (L' := [some (.ref r), some (.int (l1 - ((l1 * (mni (nI 60) ((nI 5) + (mxi (nI 0) ((gW s ((nI 1) + l2)) - (gW s ((nI 25) + l2))))))) / (nI 100)))), some (.int (l2 + (-1))), some (.int ((l1 * (mni (nI 60) ((nI 5) + (mxi (nI 0) ((gW s ((nI 1) + l2)) - (gW s ((nI 25) + l2))))))) / (nI 100)))]) dX12_settles_82 rfl (ic_k _ (by decide)) (by decide) rfl ?_
     refine jg_goto (tgt := 26) dX12_settles_85 (by decide) ?_
     refine jg_fg (L' := [some (.ref r), some (.int (l1 - ((l1 * (mni (nI 60) ((nI 5) + (mxi (nI 0) ((gW s ((nI 1) + l2)) - (gW s ((nI 25) + l2))))))) / (nI 100)))), some (.int (l2 + (-1))), none]) (by repeat (first | exact trivial | refine ⟨rfl, ?_⟩ | show jg_le _ _)) ?_
     exact ih (l1 - ((l1 * (mni (nI 60) ((nI 5) + (mxi (nI 0) ((gW s ((nI 1) + l2)) - (gW s ((nI 25) + l2))))))) / (nI 100))) (l2 + (-1)) (pW s ((nI 49) + l2) ((gW s ((nI 49) + l2)) + ((l1 * (mni (nI 60) ((nI 5) + (mxi (nI 0) ((gW s ((nI 1) + l2)) - (gW s ((nI 25) + l2))))))) / (nI 100)))) h
noncomputable def o_X12_settles (F : Nat) (s : rs_S) : Option (rs_S) := (o_X12_today s).bind fun x1 => ((o_X12_runOf F s (x1 - (nI 1))).bind fun x2 => ((o_X12_settles_26 F F x2 (nI 23) (pW s (nI 2656) ((gW s (nI 2656)) + x2))).bind fun x7 => (some (pW x7.2 (nI 2657) ((gW x7.2 (nI 2657)) + x7.1)))))
set_option maxHeartbeats 4000000 in
theorem t_X12_settles {Γ : jg_G} {g : Nat → jg_C} {n r : Nat} (hr : r + 11 ≤ n) (F : Nat) (s : rs_S)  {x : rs_S} (h : o_X12_settles F s = some x) : jc Γ mX12_settles 1 0 0 [some (.ref r), none, none, none] (rs_h g r s, n) (.inl none) (rs_h g r x, n) := by
  refine jc_of ?_
  rw [o_X12_settles] at h
  refine jg_aload_n dX12_settles_0 rfl ?_
  refine jg_aload_n dX12_settles_1 rfl ?_
  obtain ⟨x1, e_x1, h⟩ := bd_some h
  refine rs_call (As := []) kv_X12_77 dX12_settles_2 hr rfl rfl (by decide) (Nat.le_of_ble_eq_true rfl) rfl (by decide) (Nat.le_of_ble_eq_true rfl) (t_X12_today hr s e_x1) ?_
  refine jg_iconst (v := nI 1) dX12_settles_5 (by decide) ?_
  refine jg_isub (x := x1) (y := (nI 1)) dX12_settles_6  ?_
  obtain ⟨x2, e_x2, h⟩ := bd_some h
  refine rs_call (As := [.int (x1 - (nI 1))]) kv_X12_84 dX12_settles_7 hr rfl rfl (by decide) (Nat.le_of_ble_eq_true rfl) rfl (by decide) (Nat.le_of_ble_eq_true rfl) (t_X12_runOf hr F s (x1 - (nI 1)) e_x2) ?_
  refine jg_istore_n (L' := [some (.ref r), some (.int x2), none, none]) dX12_settles_10 (by decide) rfl ?_
  refine jg_aload_n dX12_settles_11 rfl ?_
  refine rs_ga fl_X12_13 dX12_settles_12 hr rfl ?_
  refine jg_sipush (v := nI 2656) dX12_settles_15 (by decide) ?_
  refine jg_dup2 dX12_settles_18 rfl rfl ?_
  refine rs_lwD (s := s) (i := (nI 2656)) dX12_settles_19 hr (by decide) ?_
  refine jg_iload_n dX12_settles_20 rfl ?_
  refine jg_iadd (x := (gW s (nI 2656))) (y := x2) dX12_settles_21  ?_
  refine rs_swD (s := s) (i := (nI 2656)) (x := ((gW s (nI 2656)) + x2)) dX12_settles_22 hr (by decide) ?_
  refine jg_bipush (v := nI 23) dX12_settles_23 (by decide) ?_
  refine jg_istore_n (L' := [some (.ref r), some (.int x2), some (.int (nI 23)), none]) dX12_settles_25 (by decide) rfl ?_
  obtain ⟨x7, e_x7, h⟩ := bd_some h
  refine jg_fg (L' := [some (.ref r), some (.int x2), some (.int (nI 23)), none]) (by repeat (first | exact trivial | refine ⟨rfl, ?_⟩ | show jg_le _ _)) ?_
  refine t_X12_settles_26 hr F  _ (x := x7) ?_ F x2 (nI 23) (pW s (nI 2656) ((gW s (nI 2656)) + x2)) e_x7
  refine jg_aload_n dX12_settles_88 rfl ?_
  refine rs_ga fl_X12_13 dX12_settles_89 hr rfl ?_
  refine jg_sipush (v := nI 2657) dX12_settles_92 (by decide) ?_
  refine jg_dup2 dX12_settles_95 rfl rfl ?_
  refine rs_lwD (s := x7.2) (i := (nI 2657)) dX12_settles_96 hr (by decide) ?_
  refine jg_iload_n dX12_settles_97 rfl ?_
  refine jg_iadd (x := (gW x7.2 (nI 2657))) (y := x7.1) dX12_settles_98  ?_
  refine rs_swD (s := x7.2) (i := (nI 2657)) (x := ((gW x7.2 (nI 2657)) + x7.1)) dX12_settles_99 hr (by decide) ?_
  obtain rfl := Option.some.inj h
  exact jg_return dX12_settles_100 rfl ⟨rfl, rfl⟩
theorem dX12_digs_0 : decode cX12_digs 0 = .ok (.aload_n 0, 1) := by decide +kernel
theorem dX12_digs_1 : decode cX12_digs 1 = .ok (.getfield 13, 3) := by decide +kernel
theorem dX12_digs_4 : decode cX12_digs 4 = .ok (.iload_n 1, 1) := by decide +kernel
theorem dX12_digs_5 : decode cX12_digs 5 = .ok (.iconst 1, 1) := by decide +kernel
theorem dX12_digs_6 : decode cX12_digs 6 = .ok (.iadd, 1) := by decide +kernel
theorem dX12_digs_7 : decode cX12_digs 7 = .ok (.iaload, 1) := by decide +kernel
theorem dX12_digs_8 : decode cX12_digs 8 = .ok (.istore_n 2, 1) := by decide +kernel
theorem dX12_digs_9 : decode cX12_digs 9 = .ok (.iload_n 2, 1) := by decide +kernel
theorem dX12_digs_10 : decode cX12_digs 10 = .ok (.ifCond .ge 4, 3) := by decide +kernel
theorem dX12_digs_13 : decode cX12_digs 13 = .ok (.return_, 1) := by decide +kernel
theorem dX12_digs_14 : decode cX12_digs 14 = .ok (.aload_n 0, 1) := by decide +kernel
theorem dX12_digs_15 : decode cX12_digs 15 = .ok (.getfield 13, 3) := by decide +kernel
theorem dX12_digs_18 : decode cX12_digs 18 = .ok (.iload_n 1, 1) := by decide +kernel
theorem dX12_digs_19 : decode cX12_digs 19 = .ok (.iaload, 1) := by decide +kernel
theorem dX12_digs_20 : decode cX12_digs 20 = .ok (.istore_n 3, 1) := by decide +kernel
theorem dX12_digs_21 : decode cX12_digs 21 = .ok (.aload_n 0, 1) := by decide +kernel
theorem dX12_digs_22 : decode cX12_digs 22 = .ok (.getfield 13, 3) := by decide +kernel
theorem dX12_digs_25 : decode cX12_digs 25 = .ok (.bipush 49, 2) := by decide +kernel
theorem dX12_digs_27 : decode cX12_digs 27 = .ok (.iload_n 2, 1) := by decide +kernel
theorem dX12_digs_28 : decode cX12_digs 28 = .ok (.iadd, 1) := by decide +kernel
theorem dX12_digs_29 : decode cX12_digs 29 = .ok (.dup2, 1) := by decide +kernel
theorem dX12_digs_30 : decode cX12_digs 30 = .ok (.iaload, 1) := by decide +kernel
theorem dX12_digs_31 : decode cX12_digs 31 = .ok (.iload_n 3, 1) := by decide +kernel
theorem dX12_digs_32 : decode cX12_digs 32 = .ok (.isub, 1) := by decide +kernel
theorem dX12_digs_33 : decode cX12_digs 33 = .ok (.iastore, 1) := by decide +kernel
theorem dX12_digs_34 : decode cX12_digs 34 = .ok (.aload_n 0, 1) := by decide +kernel
theorem dX12_digs_35 : decode cX12_digs 35 = .ok (.getfield 13, 3) := by decide +kernel
theorem dX12_digs_38 : decode cX12_digs 38 = .ok (.bipush 49, 2) := by decide +kernel
theorem dX12_digs_40 : decode cX12_digs 40 = .ok (.iload_n 2, 1) := by decide +kernel
theorem dX12_digs_41 : decode cX12_digs 41 = .ok (.iadd, 1) := by decide +kernel
theorem dX12_digs_42 : decode cX12_digs 42 = .ok (.iaload, 1) := by decide +kernel
theorem dX12_digs_43 : decode cX12_digs 43 = .ok (.ifCond .ge 46, 3) := by decide +kernel
theorem dX12_digs_46 : decode cX12_digs 46 = .ok (.aload_n 0, 1) := by decide +kernel
theorem dX12_digs_47 : decode cX12_digs 47 = .ok (.getfield 13, 3) := by decide +kernel
theorem dX12_digs_50 : decode cX12_digs 50 = .ok (.iconst 1, 1) := by decide +kernel
theorem dX12_digs_51 : decode cX12_digs 51 = .ok (.iload_n 2, 1) := by decide +kernel
theorem dX12_digs_52 : decode cX12_digs 52 = .ok (.iadd, 1) := by decide +kernel
theorem dX12_digs_53 : decode cX12_digs 53 = .ok (.iaload, 1) := by decide +kernel
theorem dX12_digs_54 : decode cX12_digs 54 = .ok (.sipush 200, 3) := by decide +kernel
theorem dX12_digs_57 : decode cX12_digs 57 = .ok (.if_icmp .ge 32, 3) := by decide +kernel
theorem dX12_digs_60 : decode cX12_digs 60 = .ok (.aload_n 0, 1) := by decide +kernel
theorem dX12_digs_61 : decode cX12_digs 61 = .ok (.getfield 13, 3) := by decide +kernel
theorem dX12_digs_64 : decode cX12_digs 64 = .ok (.iconst 1, 1) := by decide +kernel
theorem dX12_digs_65 : decode cX12_digs 65 = .ok (.iload_n 2, 1) := by decide +kernel
theorem dX12_digs_66 : decode cX12_digs 66 = .ok (.iadd, 1) := by decide +kernel
theorem dX12_digs_67 : decode cX12_digs 67 = .ok (.dup2, 1) := by decide +kernel
theorem dX12_digs_68 : decode cX12_digs 68 = .ok (.iaload, 1) := by decide +kernel
theorem dX12_digs_69 : decode cX12_digs 69 = .ok (.iconst 1, 1) := by decide +kernel
theorem dX12_digs_70 : decode cX12_digs 70 = .ok (.iadd, 1) := by decide +kernel
theorem dX12_digs_71 : decode cX12_digs 71 = .ok (.iastore, 1) := by decide +kernel
theorem dX12_digs_72 : decode cX12_digs 72 = .ok (.aload_n 0, 1) := by decide +kernel
theorem dX12_digs_73 : decode cX12_digs 73 = .ok (.getfield 13, 3) := by decide +kernel
theorem dX12_digs_76 : decode cX12_digs 76 = .ok (.bipush 49, 2) := by decide +kernel
theorem dX12_digs_78 : decode cX12_digs 78 = .ok (.iload_n 2, 1) := by decide +kernel
theorem dX12_digs_79 : decode cX12_digs 79 = .ok (.iadd, 1) := by decide +kernel
theorem dX12_digs_80 : decode cX12_digs 80 = .ok (.dup2, 1) := by decide +kernel
theorem dX12_digs_81 : decode cX12_digs 81 = .ok (.iaload, 1) := by decide +kernel
theorem dX12_digs_82 : decode cX12_digs 82 = .ok (.bipush 50, 2) := by decide +kernel
theorem dX12_digs_84 : decode cX12_digs 84 = .ok (.iadd, 1) := by decide +kernel
theorem dX12_digs_85 : decode cX12_digs 85 = .ok (.iastore, 1) := by decide +kernel
theorem dX12_digs_86 : decode cX12_digs 86 = .ok (.goto (-52), 3) := by decide +kernel
theorem dX12_digs_89 : decode cX12_digs 89 = .ok (.aload_n 0, 1) := by decide +kernel
theorem dX12_digs_90 : decode cX12_digs 90 = .ok (.getfield 13, 3) := by decide +kernel
theorem dX12_digs_93 : decode cX12_digs 93 = .ok (.bipush 49, 2) := by decide +kernel
theorem dX12_digs_95 : decode cX12_digs 95 = .ok (.iload_n 2, 1) := by decide +kernel
theorem dX12_digs_96 : decode cX12_digs 96 = .ok (.iadd, 1) := by decide +kernel
theorem dX12_digs_97 : decode cX12_digs 97 = .ok (.iaload, 1) := by decide +kernel
theorem dX12_digs_98 : decode cX12_digs 98 = .ok (.ifCond .ge 25, 3) := by decide +kernel
theorem dX12_digs_101 : decode cX12_digs 101 = .ok (.iload_n 3, 1) := by decide +kernel
theorem dX12_digs_102 : decode cX12_digs 102 = .ok (.aload_n 0, 1) := by decide +kernel
theorem dX12_digs_103 : decode cX12_digs 103 = .ok (.getfield 13, 3) := by decide +kernel
theorem dX12_digs_106 : decode cX12_digs 106 = .ok (.bipush 49, 2) := by decide +kernel
theorem dX12_digs_108 : decode cX12_digs 108 = .ok (.iload_n 2, 1) := by decide +kernel
theorem dX12_digs_109 : decode cX12_digs 109 = .ok (.iadd, 1) := by decide +kernel
theorem dX12_digs_110 : decode cX12_digs 110 = .ok (.iaload, 1) := by decide +kernel
theorem dX12_digs_111 : decode cX12_digs 111 = .ok (.iadd, 1) := by decide +kernel
theorem dX12_digs_112 : decode cX12_digs 112 = .ok (.istore_n 3, 1) := by decide +kernel
theorem dX12_digs_113 : decode cX12_digs 113 = .ok (.aload_n 0, 1) := by decide +kernel
theorem dX12_digs_114 : decode cX12_digs 114 = .ok (.getfield 13, 3) := by decide +kernel
theorem dX12_digs_117 : decode cX12_digs 117 = .ok (.bipush 49, 2) := by decide +kernel
theorem dX12_digs_119 : decode cX12_digs 119 = .ok (.iload_n 2, 1) := by decide +kernel
theorem dX12_digs_120 : decode cX12_digs 120 = .ok (.iadd, 1) := by decide +kernel
theorem dX12_digs_121 : decode cX12_digs 121 = .ok (.iconst 0, 1) := by decide +kernel
theorem dX12_digs_122 : decode cX12_digs 122 = .ok (.iastore, 1) := by decide +kernel
theorem dX12_digs_123 : decode cX12_digs 123 = .ok (.aload_n 0, 1) := by decide +kernel
theorem dX12_digs_124 : decode cX12_digs 124 = .ok (.getfield 13, 3) := by decide +kernel
theorem dX12_digs_127 : decode cX12_digs 127 = .ok (.iload_n 1, 1) := by decide +kernel
theorem dX12_digs_128 : decode cX12_digs 128 = .ok (.iconst 2, 1) := by decide +kernel
theorem dX12_digs_129 : decode cX12_digs 129 = .ok (.iadd, 1) := by decide +kernel
theorem dX12_digs_130 : decode cX12_digs 130 = .ok (.iaload, 1) := by decide +kernel
theorem dX12_digs_131 : decode cX12_digs 131 = .ok (.ifCond .ge 18, 3) := by decide +kernel
theorem dX12_digs_134 : decode cX12_digs 134 = .ok (.aload_n 0, 1) := by decide +kernel
theorem dX12_digs_135 : decode cX12_digs 135 = .ok (.getfield 13, 3) := by decide +kernel
theorem dX12_digs_138 : decode cX12_digs 138 = .ok (.sipush 2658, 3) := by decide +kernel
theorem dX12_digs_141 : decode cX12_digs 141 = .ok (.dup2, 1) := by decide +kernel
theorem dX12_digs_142 : decode cX12_digs 142 = .ok (.iaload, 1) := by decide +kernel
theorem dX12_digs_143 : decode cX12_digs 143 = .ok (.iload_n 3, 1) := by decide +kernel
theorem dX12_digs_144 : decode cX12_digs 144 = .ok (.iadd, 1) := by decide +kernel
theorem dX12_digs_145 : decode cX12_digs 145 = .ok (.iastore, 1) := by decide +kernel
theorem dX12_digs_146 : decode cX12_digs 146 = .ok (.goto 23, 3) := by decide +kernel
theorem dX12_digs_149 : decode cX12_digs 149 = .ok (.aload_n 0, 1) := by decide +kernel
theorem dX12_digs_150 : decode cX12_digs 150 = .ok (.getfield 13, 3) := by decide +kernel
theorem dX12_digs_153 : decode cX12_digs 153 = .ok (.bipush 49, 2) := by decide +kernel
theorem dX12_digs_155 : decode cX12_digs 155 = .ok (.aload_n 0, 1) := by decide +kernel
theorem dX12_digs_156 : decode cX12_digs 156 = .ok (.getfield 13, 3) := by decide +kernel
theorem dX12_digs_159 : decode cX12_digs 159 = .ok (.iload_n 1, 1) := by decide +kernel
theorem dX12_digs_160 : decode cX12_digs 160 = .ok (.iconst 2, 1) := by decide +kernel
theorem dX12_digs_161 : decode cX12_digs 161 = .ok (.iadd, 1) := by decide +kernel
theorem dX12_digs_162 : decode cX12_digs 162 = .ok (.iaload, 1) := by decide +kernel
theorem dX12_digs_163 : decode cX12_digs 163 = .ok (.iadd, 1) := by decide +kernel
theorem dX12_digs_164 : decode cX12_digs 164 = .ok (.dup2, 1) := by decide +kernel
theorem dX12_digs_165 : decode cX12_digs 165 = .ok (.iaload, 1) := by decide +kernel
theorem dX12_digs_166 : decode cX12_digs 166 = .ok (.iload_n 3, 1) := by decide +kernel
theorem dX12_digs_167 : decode cX12_digs 167 = .ok (.iadd, 1) := by decide +kernel
theorem dX12_digs_168 : decode cX12_digs 168 = .ok (.iastore, 1) := by decide +kernel
theorem dX12_digs_169 : decode cX12_digs 169 = .ok (.return_, 1) := by decide +kernel
noncomputable def o_X12_digs_34 (F : Nat) (l1 : Int32) (l2 : Int32) (l3 : Int32)  : Nat → rs_S → Option (rs_S)
  | 0, _ => none
  | f + 1, s => if iL ((nI 49) + l2) 22216 then (if 0 ≤ (gW s ((nI 49) + l2)) then (some s) else (if iL ((nI 1) + l2) 22216 then (if (nI 200) ≤ (gW s ((nI 1) + l2)) then (some s) else (o_X12_digs_34 F l1 l2 l3 f (pW (pW s ((nI 1) + l2) ((gW s ((nI 1) + l2)) + (nI 1))) ((nI 49) + l2) ((gW (pW s ((nI 1) + l2) ((gW s ((nI 1) + l2)) + (nI 1))) ((nI 49) + l2)) + (nI 50))))) else none)) else none
set_option maxHeartbeats 4000000 in
theorem t_X12_digs_34 {Γ : jg_G} {g : Nat → jg_C} {n r : Nat} (hr : r + 11 ≤ n) (F : Nat) (l1 : Int32) (l2 : Int32) (l3 : Int32)   (Q : jg_Q) {x : rs_S} (K1 : jg Γ mX12_digs 0 0 0 89 [some (.ref r), some (.int l1), some (.int l2), some (.int l3)] [] (rs_h g r x, n) Q)  : ∀ (f : Nat) (s : rs_S), o_X12_digs_34 F l1 l2 l3 f s = some x → jg Γ mX12_digs 0 0 0 34 [some (.ref r), some (.int l1), some (.int l2), some (.int l3)] [] (rs_h g r s, n) Q := by
  intro f
  induction f with
  | zero => intro s h; rw [o_X12_digs_34] at h; cases h
  | succ f ih =>
   intro s h
   rw [o_X12_digs_34] at h
   refine jg_aload_n dX12_digs_34 rfl ?_
   refine rs_ga fl_X12_13 dX12_digs_35 hr rfl ?_
   refine jg_bipush (v := nI 49) dX12_digs_38 (by decide) ?_
   refine jg_iload_n dX12_digs_40 rfl ?_
   refine jg_iadd (x := (nI 49)) (y := l2) dX12_digs_41  ?_
   obtain ⟨q5, h⟩ := gd_some h
   refine rs_lwD (s := s) (i := ((nI 49) + l2)) dX12_digs_42 hr q5 ?_
   refine jg_if_ge (x := (gW s ((nI 49) + l2))) (tgt := 89) dX12_digs_43 (by decide) (fun c6 => ?_) (fun c6 => ?_)
   · replace h := it_t c6 h
     refine jg_fg (L' := [some (.ref r), some (.int l1), some (.int l2), some (.int l3)]) (by repeat (first | exact trivial | refine ⟨rfl, ?_⟩ | show jg_le _ _)) ?_
     obtain rfl := Option.some.inj h
     exact K1
   · replace h := it_f c6 h
     refine jg_aload_n dX12_digs_46 rfl ?_
     refine rs_ga fl_X12_13 dX12_digs_47 hr rfl ?_
     refine jg_iconst (v := nI 1) dX12_digs_50 (by decide) ?_
     refine jg_iload_n dX12_digs_51 rfl ?_
     refine jg_iadd (x := (nI 1)) (y := l2) dX12_digs_52  ?_
     obtain ⟨q7, h⟩ := gd_some h
     refine rs_lwD (s := s) (i := ((nI 1) + l2)) dX12_digs_53 hr q7 ?_
     refine jg_sipush (v := nI 200) dX12_digs_54 (by decide) ?_
     refine jg_icmp_ge (x := (gW s ((nI 1) + l2))) (y := (nI 200)) (tgt := 89) dX12_digs_57 (by decide) (fun c8 => ?_) (fun c8 => ?_)
     · replace h := it_t c8 h
       refine jg_fg (L' := [some (.ref r), some (.int l1), some (.int l2), some (.int l3)]) (by repeat (first | exact trivial | refine ⟨rfl, ?_⟩ | show jg_le _ _)) ?_
       obtain rfl := Option.some.inj h
       exact K1
     · replace h := it_f c8 h
       refine jg_aload_n dX12_digs_60 rfl ?_
       refine rs_ga fl_X12_13 dX12_digs_61 hr rfl ?_
       refine jg_iconst (v := nI 1) dX12_digs_64 (by decide) ?_
       refine jg_iload_n dX12_digs_65 rfl ?_
       refine jg_iadd (x := (nI 1)) (y := l2) dX12_digs_66  ?_
       refine jg_dup2 dX12_digs_67 rfl rfl ?_
       refine rs_lwD (s := s) (i := ((nI 1) + l2)) dX12_digs_68 hr q7 ?_
       refine jg_iconst (v := nI 1) dX12_digs_69 (by decide) ?_
       refine jg_iadd (x := (gW s ((nI 1) + l2))) (y := (nI 1)) dX12_digs_70  ?_
       refine rs_swD (s := s) (i := ((nI 1) + l2)) (x := ((gW s ((nI 1) + l2)) + (nI 1))) dX12_digs_71 hr q7 ?_
       refine jg_aload_n dX12_digs_72 rfl ?_
       refine rs_ga fl_X12_13 dX12_digs_73 hr rfl ?_
       refine jg_bipush (v := nI 49) dX12_digs_76 (by decide) ?_
       refine jg_iload_n dX12_digs_78 rfl ?_
       refine jg_iadd (x := (nI 49)) (y := l2) dX12_digs_79  ?_
       refine jg_dup2 dX12_digs_80 rfl rfl ?_
       refine rs_lwD (s := (pW s ((nI 1) + l2) ((gW s ((nI 1) + l2)) + (nI 1)))) (i := ((nI 49) + l2)) dX12_digs_81 hr q5 ?_
       refine jg_bipush (v := nI 50) dX12_digs_82 (by decide) ?_
       refine jg_iadd (x := (gW (pW s ((nI 1) + l2) ((gW s ((nI 1) + l2)) + (nI 1))) ((nI 49) + l2))) (y := (nI 50)) dX12_digs_84  ?_
       refine rs_swD (s := (pW s ((nI 1) + l2) ((gW s ((nI 1) + l2)) + (nI 1)))) (i := ((nI 49) + l2)) (x := ((gW (pW s ((nI 1) + l2) ((gW s ((nI 1) + l2)) + (nI 1))) ((nI 49) + l2)) + (nI 50))) dX12_digs_85 hr q5 ?_
       refine jg_goto (tgt := 34) dX12_digs_86 (by decide) ?_
       refine jg_fg (L' := [some (.ref r), some (.int l1), some (.int l2), some (.int l3)]) (by repeat (first | exact trivial | refine ⟨rfl, ?_⟩ | show jg_le _ _)) ?_
       exact ih (pW (pW s ((nI 1) + l2) ((gW s ((nI 1) + l2)) + (nI 1))) ((nI 49) + l2) ((gW (pW s ((nI 1) + l2) ((gW s ((nI 1) + l2)) + (nI 1))) ((nI 49) + l2)) + (nI 50))) h
noncomputable def o_X12_digs (F : Nat) (s : rs_S) (a1 : Int32) : Option (rs_S) := if iL (a1 + (nI 1)) 22216 then (if 0 ≤ (gW s (a1 + (nI 1))) then (if iL a1 22216 then (if iL ((nI 49) + (gW s (a1 + (nI 1)))) 22216 then ((o_X12_digs_34 F a1 (gW s (a1 + (nI 1))) (gW s a1) F (pW s ((nI 49) + (gW s (a1 + (nI 1)))) ((gW s ((nI 49) + (gW s (a1 + (nI 1))))) - (gW s a1)))).bind fun x9 => (if 0 ≤ (gW x9 ((nI 49) + (gW s (a1 + (nI 1))))) then (if iL (a1 + (nI 2)) 22216 then (if 0 ≤ (gW x9 (a1 + (nI 2))) then (if iL ((nI 49) + (gW x9 (a1 + (nI 2)))) 22216 then (some (pW x9 ((nI 49) + (gW x9 (a1 + (nI 2)))) ((gW x9 ((nI 49) + (gW x9 (a1 + (nI 2))))) + (gW s a1)))) else none) else (some (pW x9 (nI 2658) ((gW x9 (nI 2658)) + (gW s a1))))) else none) else (if iL (a1 + (nI 2)) 22216 then (if 0 ≤ (gW (pW x9 ((nI 49) + (gW s (a1 + (nI 1)))) (nI 0)) (a1 + (nI 2))) then (if iL ((nI 49) + (gW (pW x9 ((nI 49) + (gW s (a1 + (nI 1)))) (nI 0)) (a1 + (nI 2)))) 22216 then (some (pW (pW x9 ((nI 49) + (gW s (a1 + (nI 1)))) (nI 0)) ((nI 49) + (gW (pW x9 ((nI 49) + (gW s (a1 + (nI 1)))) (nI 0)) (a1 + (nI 2)))) ((gW (pW x9 ((nI 49) + (gW s (a1 + (nI 1)))) (nI 0)) ((nI 49) + (gW (pW x9 ((nI 49) + (gW s (a1 + (nI 1)))) (nI 0)) (a1 + (nI 2))))) + ((gW s a1) + (gW x9 ((nI 49) + (gW s (a1 + (nI 1))))))))) else none) else (some (pW (pW x9 ((nI 49) + (gW s (a1 + (nI 1)))) (nI 0)) (nI 2658) ((gW (pW x9 ((nI 49) + (gW s (a1 + (nI 1)))) (nI 0)) (nI 2658)) + ((gW s a1) + (gW x9 ((nI 49) + (gW s (a1 + (nI 1)))))))))) else none))) else none) else none) else (some s)) else none
set_option maxHeartbeats 4000000 in
theorem t_X12_digs {Γ : jg_G} {g : Nat → jg_C} {n r : Nat} (hr : r + 11 ≤ n) (F : Nat) (s : rs_S) (a1 : Int32)  {x : rs_S} (h : o_X12_digs F s a1 = some x) : jc Γ mX12_digs 0 0 0 [some (.ref r), some (.int a1), none, none] (rs_h g r s, n) (.inl none) (rs_h g r x, n) := by
  refine jc_of ?_
  rw [o_X12_digs] at h
  refine jg_aload_n dX12_digs_0 rfl ?_
  refine rs_ga fl_X12_13 dX12_digs_1 hr rfl ?_
  refine jg_iload_n dX12_digs_4 rfl ?_
  refine jg_iconst (v := nI 1) dX12_digs_5 (by decide) ?_
  refine jg_iadd (x := a1) (y := (nI 1)) dX12_digs_6  ?_
  obtain ⟨q1, h⟩ := gd_some h
  refine rs_lwD (s := s) (i := (a1 + (nI 1))) dX12_digs_7 hr q1 ?_
  refine jg_istore_n (L' := [some (.ref r), some (.int a1), some (.int (gW s (a1 + (nI 1)))), none]) dX12_digs_8 (by decide) rfl ?_
  refine jg_iload_n dX12_digs_9 rfl ?_
  refine jg_if_ge (x := (gW s (a1 + (nI 1)))) (tgt := 14) dX12_digs_10 (by decide) (fun c2 => ?_) (fun c2 => ?_)
  · replace h := it_t c2 h
    refine jg_aload_n dX12_digs_14 rfl ?_
    refine rs_ga fl_X12_13 dX12_digs_15 hr rfl ?_
    refine jg_iload_n dX12_digs_18 rfl ?_
    obtain ⟨q3, h⟩ := gd_some h
    refine rs_lwD (s := s) (i := a1) dX12_digs_19 hr q3 ?_
    refine jg_istore_n (L' := [some (.ref r), some (.int a1), some (.int (gW s (a1 + (nI 1)))), some (.int (gW s a1))]) dX12_digs_20 (by decide) rfl ?_
    refine jg_aload_n dX12_digs_21 rfl ?_
    refine rs_ga fl_X12_13 dX12_digs_22 hr rfl ?_
    refine jg_bipush (v := nI 49) dX12_digs_25 (by decide) ?_
    refine jg_iload_n dX12_digs_27 rfl ?_
    refine jg_iadd (x := (nI 49)) (y := (gW s (a1 + (nI 1)))) dX12_digs_28  ?_
    refine jg_dup2 dX12_digs_29 rfl rfl ?_
    obtain ⟨q4, h⟩ := gd_some h
    refine rs_lwD (s := s) (i := ((nI 49) + (gW s (a1 + (nI 1))))) dX12_digs_30 hr q4 ?_
    refine jg_iload_n dX12_digs_31 rfl ?_
    refine jg_isub (x := (gW s ((nI 49) + (gW s (a1 + (nI 1)))))) (y := (gW s a1)) dX12_digs_32  ?_
    refine rs_swD (s := s) (i := ((nI 49) + (gW s (a1 + (nI 1))))) (x := ((gW s ((nI 49) + (gW s (a1 + (nI 1))))) - (gW s a1))) dX12_digs_33 hr q4 ?_
    obtain ⟨x9, e_x9, h⟩ := bd_some h
    refine jg_fg (L' := [some (.ref r), some (.int a1), some (.int (gW s (a1 + (nI 1)))), some (.int (gW s a1))]) (by repeat (first | exact trivial | refine ⟨rfl, ?_⟩ | show jg_le _ _)) ?_
    refine t_X12_digs_34 hr F a1 (gW s (a1 + (nI 1))) (gW s a1)  _ (x := x9) ?_ F (pW s ((nI 49) + (gW s (a1 + (nI 1)))) ((gW s ((nI 49) + (gW s (a1 + (nI 1))))) - (gW s a1))) e_x9
    refine jg_aload_n dX12_digs_89 rfl ?_
    refine rs_ga fl_X12_13 dX12_digs_90 hr rfl ?_
    refine jg_bipush (v := nI 49) dX12_digs_93 (by decide) ?_
    refine jg_iload_n dX12_digs_95 rfl ?_
    refine jg_iadd (x := (nI 49)) (y := (gW s (a1 + (nI 1)))) dX12_digs_96  ?_
    refine rs_lwD (s := x9) (i := ((nI 49) + (gW s (a1 + (nI 1))))) dX12_digs_97 hr q4 ?_
    refine jg_if_ge (x := (gW x9 ((nI 49) + (gW s (a1 + (nI 1)))))) (tgt := 123) dX12_digs_98 (by decide) (fun c10 => ?_) (fun c10 => ?_)
    · replace h := it_t c10 h
      refine jg_aload_n dX12_digs_123 rfl ?_
      refine rs_ga fl_X12_13 dX12_digs_124 hr rfl ?_
      refine jg_iload_n dX12_digs_127 rfl ?_
      refine jg_iconst (v := nI 2) dX12_digs_128 (by decide) ?_
      refine jg_iadd (x := a1) (y := (nI 2)) dX12_digs_129  ?_
      obtain ⟨q11, h⟩ := gd_some h
      refine rs_lwD (s := x9) (i := (a1 + (nI 2))) dX12_digs_130 hr q11 ?_
      refine jg_if_ge (x := (gW x9 (a1 + (nI 2)))) (tgt := 149) dX12_digs_131 (by decide) (fun c12 => ?_) (fun c12 => ?_)
      · replace h := it_t c12 h
        refine jg_aload_n dX12_digs_149 rfl ?_
        refine rs_ga fl_X12_13 dX12_digs_150 hr rfl ?_
        refine jg_bipush (v := nI 49) dX12_digs_153 (by decide) ?_
        refine jg_aload_n dX12_digs_155 rfl ?_
        refine rs_ga fl_X12_13 dX12_digs_156 hr rfl ?_
        refine jg_iload_n dX12_digs_159 rfl ?_
        refine jg_iconst (v := nI 2) dX12_digs_160 (by decide) ?_
        refine jg_iadd (x := a1) (y := (nI 2)) dX12_digs_161  ?_
        refine rs_lwD (s := x9) (i := (a1 + (nI 2))) dX12_digs_162 hr q11 ?_
        refine jg_iadd (x := (nI 49)) (y := (gW x9 (a1 + (nI 2)))) dX12_digs_163  ?_
        refine jg_dup2 dX12_digs_164 rfl rfl ?_
        obtain ⟨q13, h⟩ := gd_some h
        refine rs_lwD (s := x9) (i := ((nI 49) + (gW x9 (a1 + (nI 2))))) dX12_digs_165 hr q13 ?_
        refine jg_iload_n dX12_digs_166 rfl ?_
        refine jg_iadd (x := (gW x9 ((nI 49) + (gW x9 (a1 + (nI 2)))))) (y := (gW s a1)) dX12_digs_167  ?_
        refine rs_swD (s := x9) (i := ((nI 49) + (gW x9 (a1 + (nI 2))))) (x := ((gW x9 ((nI 49) + (gW x9 (a1 + (nI 2))))) + (gW s a1))) dX12_digs_168 hr q13 ?_
        obtain rfl := Option.some.inj h
        exact jg_return dX12_digs_169 rfl ⟨rfl, rfl⟩
      · replace h := it_f c12 h
        refine jg_aload_n dX12_digs_134 rfl ?_
        refine rs_ga fl_X12_13 dX12_digs_135 hr rfl ?_
        refine jg_sipush (v := nI 2658) dX12_digs_138 (by decide) ?_
        refine jg_dup2 dX12_digs_141 rfl rfl ?_
        refine rs_lwD (s := x9) (i := (nI 2658)) dX12_digs_142 hr (by decide) ?_
        refine jg_iload_n dX12_digs_143 rfl ?_
        refine jg_iadd (x := (gW x9 (nI 2658))) (y := (gW s a1)) dX12_digs_144  ?_
        refine rs_swD (s := x9) (i := (nI 2658)) (x := ((gW x9 (nI 2658)) + (gW s a1))) dX12_digs_145 hr (by decide) ?_
        refine jg_goto (tgt := 169) dX12_digs_146 (by decide) ?_
        obtain rfl := Option.some.inj h
        exact jg_return dX12_digs_169 rfl ⟨rfl, rfl⟩
    · replace h := it_f c10 h
      refine jg_iload_n dX12_digs_101 rfl ?_
      refine jg_aload_n dX12_digs_102 rfl ?_
      refine rs_ga fl_X12_13 dX12_digs_103 hr rfl ?_
      refine jg_bipush (v := nI 49) dX12_digs_106 (by decide) ?_
      refine jg_iload_n dX12_digs_108 rfl ?_
      refine jg_iadd (x := (nI 49)) (y := (gW s (a1 + (nI 1)))) dX12_digs_109  ?_
      refine rs_lwD (s := x9) (i := ((nI 49) + (gW s (a1 + (nI 1))))) dX12_digs_110 hr q4 ?_
      refine jg_iadd (x := (gW s a1)) (y := (gW x9 ((nI 49) + (gW s (a1 + (nI 1)))))) dX12_digs_111  ?_
      refine jg_istore_n (L' := [some (.ref r), some (.int a1), some (.int (gW s (a1 + (nI 1)))), some (.int ((gW s a1) + (gW x9 ((nI 49) + (gW s (a1 + (nI 1)))))))]) dX12_digs_112 (by decide) rfl ?_
      refine jg_aload_n dX12_digs_113 rfl ?_
      refine rs_ga fl_X12_13 dX12_digs_114 hr rfl ?_
      refine jg_bipush (v := nI 49) dX12_digs_117 (by decide) ?_
      refine jg_iload_n dX12_digs_119 rfl ?_
      refine jg_iadd (x := (nI 49)) (y := (gW s (a1 + (nI 1)))) dX12_digs_120  ?_
      refine jg_iconst (v := nI 0) dX12_digs_121 (by decide) ?_
      refine rs_swD (s := x9) (i := ((nI 49) + (gW s (a1 + (nI 1))))) (x := (nI 0)) dX12_digs_122 hr q4 ?_
      refine jg_aload_n dX12_digs_123 rfl ?_
      refine rs_ga fl_X12_13 dX12_digs_124 hr rfl ?_
      refine jg_iload_n dX12_digs_127 rfl ?_
      refine jg_iconst (v := nI 2) dX12_digs_128 (by decide) ?_
      refine jg_iadd (x := a1) (y := (nI 2)) dX12_digs_129  ?_
      obtain ⟨q14, h⟩ := gd_some h
      refine rs_lwD (s := (pW x9 ((nI 49) + (gW s (a1 + (nI 1)))) (nI 0))) (i := (a1 + (nI 2))) dX12_digs_130 hr q14 ?_
      refine jg_if_ge (x := (gW (pW x9 ((nI 49) + (gW s (a1 + (nI 1)))) (nI 0)) (a1 + (nI 2)))) (tgt := 149) dX12_digs_131 (by decide) (fun c15 => ?_) (fun c15 => ?_)
      · replace h := it_t c15 h
        refine jg_aload_n dX12_digs_149 rfl ?_
        refine rs_ga fl_X12_13 dX12_digs_150 hr rfl ?_
        refine jg_bipush (v := nI 49) dX12_digs_153 (by decide) ?_
        refine jg_aload_n dX12_digs_155 rfl ?_
        refine rs_ga fl_X12_13 dX12_digs_156 hr rfl ?_
        refine jg_iload_n dX12_digs_159 rfl ?_
        refine jg_iconst (v := nI 2) dX12_digs_160 (by decide) ?_
        refine jg_iadd (x := a1) (y := (nI 2)) dX12_digs_161  ?_
        refine rs_lwD (s := (pW x9 ((nI 49) + (gW s (a1 + (nI 1)))) (nI 0))) (i := (a1 + (nI 2))) dX12_digs_162 hr q14 ?_
        refine jg_iadd (x := (nI 49)) (y := (gW (pW x9 ((nI 49) + (gW s (a1 + (nI 1)))) (nI 0)) (a1 + (nI 2)))) dX12_digs_163  ?_
        refine jg_dup2 dX12_digs_164 rfl rfl ?_
        obtain ⟨q16, h⟩ := gd_some h
        refine rs_lwD (s := (pW x9 ((nI 49) + (gW s (a1 + (nI 1)))) (nI 0))) (i := ((nI 49) + (gW (pW x9 ((nI 49) + (gW s (a1 + (nI 1)))) (nI 0)) (a1 + (nI 2))))) dX12_digs_165 hr q16 ?_
        refine jg_iload_n dX12_digs_166 rfl ?_
        refine jg_iadd (x := (gW (pW x9 ((nI 49) + (gW s (a1 + (nI 1)))) (nI 0)) ((nI 49) + (gW (pW x9 ((nI 49) + (gW s (a1 + (nI 1)))) (nI 0)) (a1 + (nI 2)))))) (y := ((gW s a1) + (gW x9 ((nI 49) + (gW s (a1 + (nI 1))))))) dX12_digs_167  ?_
        refine rs_swD (s := (pW x9 ((nI 49) + (gW s (a1 + (nI 1)))) (nI 0))) (i := ((nI 49) + (gW (pW x9 ((nI 49) + (gW s (a1 + (nI 1)))) (nI 0)) (a1 + (nI 2))))) (x := ((gW (pW x9 ((nI 49) + (gW s (a1 + (nI 1)))) (nI 0)) ((nI 49) + (gW (pW x9 ((nI 49) + (gW s (a1 + (nI 1)))) (nI 0)) (a1 + (nI 2))))) + ((gW s a1) + (gW x9 ((nI 49) + (gW s (a1 + (nI 1)))))))) dX12_digs_168 hr q16 ?_
        obtain rfl := Option.some.inj h
        exact jg_return dX12_digs_169 rfl ⟨rfl, rfl⟩
      · replace h := it_f c15 h
        refine jg_aload_n dX12_digs_134 rfl ?_
        refine rs_ga fl_X12_13 dX12_digs_135 hr rfl ?_
        refine jg_sipush (v := nI 2658) dX12_digs_138 (by decide) ?_
        refine jg_dup2 dX12_digs_141 rfl rfl ?_
        refine rs_lwD (s := (pW x9 ((nI 49) + (gW s (a1 + (nI 1)))) (nI 0))) (i := (nI 2658)) dX12_digs_142 hr (by decide) ?_
        refine jg_iload_n dX12_digs_143 rfl ?_
        refine jg_iadd (x := (gW (pW x9 ((nI 49) + (gW s (a1 + (nI 1)))) (nI 0)) (nI 2658))) (y := ((gW s a1) + (gW x9 ((nI 49) + (gW s (a1 + (nI 1))))))) dX12_digs_144  ?_
        refine rs_swD (s := (pW x9 ((nI 49) + (gW s (a1 + (nI 1)))) (nI 0))) (i := (nI 2658)) (x := ((gW (pW x9 ((nI 49) + (gW s (a1 + (nI 1)))) (nI 0)) (nI 2658)) + ((gW s a1) + (gW x9 ((nI 49) + (gW s (a1 + (nI 1)))))))) dX12_digs_145 hr (by decide) ?_
        refine jg_goto (tgt := 169) dX12_digs_146 (by decide) ?_
        obtain rfl := Option.some.inj h
        exact jg_return dX12_digs_169 rfl ⟨rfl, rfl⟩
  · replace h := it_f c2 h
    obtain rfl := Option.some.inj h
    exact jg_return dX12_digs_13 rfl ⟨rfl, rfl⟩
