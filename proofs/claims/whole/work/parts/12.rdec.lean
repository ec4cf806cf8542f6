/-! THE REFERENCE AS FUNCTIONS (by program wip/whole/rdec.py) -/
theorem dX12_in_0 : decode cX12_in 0 = .ok (.iload_n 0, 1) := by decide +kernel
theorem dX12_in_1 : decode cX12_in 1 = .ok (.iload_n 1, 1) := by decide +kernel
theorem dX12_in_2 : decode cX12_in 2 = .ok (.if_icmp .lt 12, 3) := by decide +kernel
theorem dX12_in_5 : decode cX12_in 5 = .ok (.iload_n 0, 1) := by decide +kernel
theorem dX12_in_6 : decode cX12_in 6 = .ok (.iload_n 2, 1) := by decide +kernel
theorem dX12_in_7 : decode cX12_in 7 = .ok (.if_icmp .gt 7, 3) := by decide +kernel
theorem dX12_in_10 : decode cX12_in 10 = .ok (.iconst 1, 1) := by decide +kernel
theorem dX12_in_11 : decode cX12_in 11 = .ok (.goto 4, 3) := by decide +kernel
theorem dX12_in_14 : decode cX12_in 14 = .ok (.iconst 0, 1) := by decide +kernel
theorem dX12_in_15 : decode cX12_in 15 = .ok (.ireturn, 1) := by decide +kernel
noncomputable def o_X12_in (s : rs_S) (a1 : Int32) (a2 : Int32) (a3 : Int32) : Option (Int32) := if a1 < a2 then (some (nI 0)) else (if a3 < a1 then (some (nI 0)) else (some (nI 1)))
set_option maxHeartbeats 4000000 in
theorem t_X12_in {Γ : jg_G} {g : Nat → jg_C} {n r : Nat} (hr : r + 11 ≤ n) (s : rs_S) (a1 : Int32) (a2 : Int32) (a3 : Int32) {x : Int32} (h : o_X12_in s a1 a2 a3 = some x) : jc Γ mX12_in 0 0 0 [some (.int a1), some (.int a2), some (.int a3)] (rs_h g r s, n) (.inl (some (.int x))) (rs_h g r s, n) := by
  refine jc_of ?_
  rw [o_X12_in] at h
  refine jg_iload_n dX12_in_0 rfl ?_
  refine jg_iload_n dX12_in_1 rfl ?_
  refine jg_icmp_lt (x := a1) (y := a2) (tgt := 14) dX12_in_2 (by decide) (fun c1 => ?_) (fun c1 => ?_)
  · replace h := it_t c1 h
    refine jg_iconst (v := nI 0) dX12_in_14 (by decide) ?_
    obtain rfl := Option.some.inj h
    exact jg_zreturn dX12_in_15 rfl (rfl) ⟨rfl, rfl⟩
  · replace h := it_f c1 h
    refine jg_iload_n dX12_in_5 rfl ?_
    refine jg_iload_n dX12_in_6 rfl ?_
    refine jg_icmp_gt (x := a1) (y := a3) (tgt := 14) dX12_in_7 (by decide) (fun c2 => ?_) (fun c2 => ?_)
    · replace h := it_t c2 h
      refine jg_iconst (v := nI 0) dX12_in_14 (by decide) ?_
      obtain rfl := Option.some.inj h
      exact jg_zreturn dX12_in_15 rfl (rfl) ⟨rfl, rfl⟩
    · replace h := it_f c2 h
      refine jg_iconst (v := nI 1) dX12_in_10 (by decide) ?_
      refine jg_goto (tgt := 15) dX12_in_11 (by decide) ?_
      obtain rfl := Option.some.inj h
      exact jg_zreturn dX12_in_15 rfl (rfl) ⟨rfl, rfl⟩
theorem dX12_thrown_0 : decode cX12_thrown 0 = .ok (.aload_n 0, 1) := by decide +kernel
theorem dX12_thrown_1 : decode cX12_thrown 1 = .ok (.getfield 3, 3) := by decide +kernel
theorem dX12_thrown_4 : decode cX12_thrown 4 = .ok (.ireturn, 1) := by decide +kernel
noncomputable def o_X12_thrown (s : rs_S) : Option (Int32) := some (s.1 0)
set_option maxHeartbeats 4000000 in
theorem t_X12_thrown {Γ : jg_G} {g : Nat → jg_C} {n r : Nat} (hr : r + 11 ≤ n) (s : rs_S) {x : Int32} (h : o_X12_thrown s = some x) : jc Γ mX12_thrown 0 0 0 [some (.ref r)] (rs_h g r s, n) (.inl (some (.int x))) (rs_h g r s, n) := by
  refine jc_of ?_
  rw [o_X12_thrown] at h
  refine jg_aload_n dX12_thrown_0 rfl ?_
  refine rs_ga fl_X12_3 dX12_thrown_1 hr rfl ?_
  obtain rfl := Option.some.inj h
  exact jg_ireturn dX12_thrown_4 rfl ⟨rfl, rfl⟩
theorem dX12_throwsIf_0 : decode cX12_throwsIf 0 = .ok (.iload_n 1, 1) := by decide +kernel
theorem dX12_throwsIf_1 : decode cX12_throwsIf 1 = .ok (.ifCond .eq 8, 3) := by decide +kernel
theorem dX12_throwsIf_4 : decode cX12_throwsIf 4 = .ok (.aload_n 0, 1) := by decide +kernel
theorem dX12_throwsIf_5 : decode cX12_throwsIf 5 = .ok (.iload_n 2, 1) := by decide +kernel
theorem dX12_throwsIf_6 : decode cX12_throwsIf 6 = .ok (.putfield 3, 3) := by decide +kernel
theorem dX12_throwsIf_9 : decode cX12_throwsIf 9 = .ok (.iload_n 1, 1) := by decide +kernel
theorem dX12_throwsIf_10 : decode cX12_throwsIf 10 = .ok (.ireturn, 1) := by decide +kernel
noncomputable def o_X12_throwsIf (s : rs_S) (a1 : Int32) (a2 : Int32) : Option (Int32 × rs_S) := if a1 = 0 then (if zb a1 then some (a1, s) else none) else (if zb a1 then some (a1, pN s 0 a2) else none)
set_option maxHeartbeats 4000000 in
theorem t_X12_throwsIf {Γ : jg_G} {g : Nat → jg_C} {n r : Nat} (hr : r + 11 ≤ n) (s : rs_S) (a1 : Int32) (a2 : Int32) {x : Int32 × rs_S} (h : o_X12_throwsIf s a1 a2 = some x) : jc Γ mX12_throwsIf 0 0 0 [some (.ref r), some (.int a1), some (.int a2)] (rs_h g r s, n) (.inl (some (.int x.1))) (rs_h g r x.2, n) := by
  refine jc_of ?_
  rw [o_X12_throwsIf] at h
  refine jg_iload_n dX12_throwsIf_0 rfl ?_
  refine jg_if_eq (x := a1) (tgt := 9) dX12_throwsIf_1 (by decide) (fun c1 => ?_) (fun c1 => ?_)
  · replace h := it_t c1 h
    refine jg_iload_n dX12_throwsIf_9 rfl ?_
    obtain ⟨q9, h⟩ := gd_some h
    obtain rfl := Option.some.inj h
    exact jg_zreturn dX12_throwsIf_10 rfl (zb_nar q9) ⟨rfl, rfl⟩
  · replace h := it_f c1 h
    refine jg_aload_n dX12_throwsIf_4 rfl ?_
    refine jg_iload_n dX12_throwsIf_5 rfl ?_
    refine rs_putD (s := s) (k := 0) (x := a2) fl_X12_3 dX12_throwsIf_6 hr (by decide) (rfl) rfl rfl ?_
    refine jg_iload_n dX12_throwsIf_9 rfl ?_
    obtain ⟨q9, h⟩ := gd_some h
    obtain rfl := Option.some.inj h
    exact jg_zreturn dX12_throwsIf_10 rfl (zb_nar q9) ⟨rfl, rfl⟩
theorem dX12_hour_0 : decode cX12_hour 0 = .ok (.aload_n 0, 1) := by decide +kernel
theorem dX12_hour_1 : decode cX12_hour 1 = .ok (.getfield 13, 3) := by decide +kernel
theorem dX12_hour_4 : decode cX12_hour 4 = .ok (.iconst 0, 1) := by decide +kernel
theorem dX12_hour_5 : decode cX12_hour 5 = .ok (.iaload, 1) := by decide +kernel
theorem dX12_hour_6 : decode cX12_hour 6 = .ok (.ireturn, 1) := by decide +kernel
noncomputable def o_X12_hour (s : rs_S) : Option (Int32) := if iL (nI 0) 22216 then (some (gW s (nI 0))) else none
set_option maxHeartbeats 4000000 in
theorem t_X12_hour {Γ : jg_G} {g : Nat → jg_C} {n r : Nat} (hr : r + 11 ≤ n) (s : rs_S) {x : Int32} (h : o_X12_hour s = some x) : jc Γ mX12_hour 0 0 0 [some (.ref r)] (rs_h g r s, n) (.inl (some (.int x))) (rs_h g r s, n) := by
  refine jc_of ?_
  rw [o_X12_hour] at h
  refine jg_aload_n dX12_hour_0 rfl ?_
  refine rs_ga fl_X12_13 dX12_hour_1 hr rfl ?_
  refine jg_iconst (v := nI 0) dX12_hour_4 (by decide) ?_
  obtain ⟨q1, h⟩ := gd_some h
  refine rs_lwD (s := s) (i := (nI 0)) dX12_hour_5 hr q1 ?_
  obtain rfl := Option.some.inj h
  exact jg_ireturn dX12_hour_6 rfl ⟨rfl, rfl⟩
theorem dX12_today_0 : decode cX12_today 0 = .ok (.aload_n 0, 1) := by decide +kernel
theorem dX12_today_1 : decode cX12_today 1 = .ok (.getfield 13, 3) := by decide +kernel
theorem dX12_today_4 : decode cX12_today 4 = .ok (.iconst 0, 1) := by decide +kernel
theorem dX12_today_5 : decode cX12_today 5 = .ok (.iaload, 1) := by decide +kernel
theorem dX12_today_6 : decode cX12_today 6 = .ok (.bipush 24, 2) := by decide +kernel
theorem dX12_today_8 : decode cX12_today 8 = .ok (.idiv, 1) := by decide +kernel
theorem dX12_today_9 : decode cX12_today 9 = .ok (.ireturn, 1) := by decide +kernel
noncomputable def o_X12_today (s : rs_S) : Option (Int32) := if iL (nI 0) 22216 then (some ((gW s (nI 0)) / (nI 24))) else none
set_option maxHeartbeats 4000000 in
theorem t_X12_today {Γ : jg_G} {g : Nat → jg_C} {n r : Nat} (hr : r + 11 ≤ n) (s : rs_S) {x : Int32} (h : o_X12_today s = some x) : jc Γ mX12_today 0 0 0 [some (.ref r)] (rs_h g r s, n) (.inl (some (.int x))) (rs_h g r s, n) := by
  refine jc_of ?_
  rw [o_X12_today] at h
  refine jg_aload_n dX12_today_0 rfl ?_
  refine rs_ga fl_X12_13 dX12_today_1 hr rfl ?_
  refine jg_iconst (v := nI 0) dX12_today_4 (by decide) ?_
  obtain ⟨q1, h⟩ := gd_some h
  refine rs_lwD (s := s) (i := (nI 0)) dX12_today_5 hr q1 ?_
  refine jg_bipush (v := nI 24) dX12_today_6 (by decide) ?_
  refine jg_idiv (x := (gW s (nI 0))) (y := (nI 24)) dX12_today_8 (by decide) ?_
  obtain rfl := Option.some.inj h
  exact jg_ireturn dX12_today_9 rfl ⟨rfl, rfl⟩
theorem dX12_year_0 : decode cX12_year 0 = .ok (.aload_n 0, 1) := by decide +kernel
theorem dX12_year_1 : decode cX12_year 1 = .ok (.getfield 13, 3) := by decide +kernel
theorem dX12_year_4 : decode cX12_year 4 = .ok (.iconst 0, 1) := by decide +kernel
theorem dX12_year_5 : decode cX12_year 5 = .ok (.iaload, 1) := by decide +kernel
theorem dX12_year_6 : decode cX12_year 6 = .ok (.sipush 2400, 3) := by decide +kernel
theorem dX12_year_9 : decode cX12_year 9 = .ok (.idiv, 1) := by decide +kernel
theorem dX12_year_10 : decode cX12_year 10 = .ok (.ireturn, 1) := by decide +kernel
noncomputable def o_X12_year (s : rs_S) : Option (Int32) := if iL (nI 0) 22216 then (some ((gW s (nI 0)) / (nI 2400))) else none
set_option maxHeartbeats 4000000 in
theorem t_X12_year {Γ : jg_G} {g : Nat → jg_C} {n r : Nat} (hr : r + 11 ≤ n) (s : rs_S) {x : Int32} (h : o_X12_year s = some x) : jc Γ mX12_year 0 0 0 [some (.ref r)] (rs_h g r s, n) (.inl (some (.int x))) (rs_h g r s, n) := by
  refine jc_of ?_
  rw [o_X12_year] at h
  refine jg_aload_n dX12_year_0 rfl ?_
  refine rs_ga fl_X12_13 dX12_year_1 hr rfl ?_
  refine jg_iconst (v := nI 0) dX12_year_4 (by decide) ?_
  obtain ⟨q1, h⟩ := gd_some h
  refine rs_lwD (s := s) (i := (nI 0)) dX12_year_5 hr q1 ?_
  refine jg_sipush (v := nI 2400) dX12_year_6 (by decide) ?_
  refine jg_idiv (x := (gW s (nI 0))) (y := (nI 2400)) dX12_year_9 (by decide) ?_
  obtain rfl := Option.some.inj h
  exact jg_ireturn dX12_year_10 rfl ⟨rfl, rfl⟩
theorem dX12_noCell_0 : decode cX12_noCell 0 = .ok (.iload_n 0, 1) := by decide +kernel
theorem dX12_noCell_1 : decode cX12_noCell 1 = .ok (.iconst 0, 1) := by decide +kernel
theorem dX12_noCell_2 : decode cX12_noCell 2 = .ok (.bipush 23, 2) := by decide +kernel
theorem dX12_noCell_4 : decode cX12_noCell 4 = .ok (.invokestatic 49, 3) := by decide +kernel
theorem dX12_noCell_7 : decode cX12_noCell 7 = .ok (.ifCond .ne 7, 3) := by decide +kernel
theorem dX12_noCell_10 : decode cX12_noCell 10 = .ok (.iconst 1, 1) := by decide +kernel
theorem dX12_noCell_11 : decode cX12_noCell 11 = .ok (.goto 4, 3) := by decide +kernel
theorem dX12_noCell_14 : decode cX12_noCell 14 = .ok (.iconst 0, 1) := by decide +kernel
theorem dX12_noCell_15 : decode cX12_noCell 15 = .ok (.ireturn, 1) := by decide +kernel
noncomputable def o_X12_noCell (s : rs_S) (a1 : Int32) : Option (Int32) := (o_X12_in s a1 (nI 0) (nI 23)).bind fun x1 => (if x1 = 0 then (some (nI 1)) else (some (nI 0)))
set_option maxHeartbeats 4000000 in
theorem t_X12_noCell {Γ : jg_G} {g : Nat → jg_C} {n r : Nat} (hr : r + 11 ≤ n) (s : rs_S) (a1 : Int32) {x : Int32} (h : o_X12_noCell s a1 = some x) : jc Γ mX12_noCell 1 0 0 [some (.int a1)] (rs_h g r s, n) (.inl (some (.int x))) (rs_h g r s, n) := by
  refine jc_of ?_
  rw [o_X12_noCell] at h
  refine jg_iload_n dX12_noCell_0 rfl ?_
  refine jg_iconst (v := nI 0) dX12_noCell_1 (by decide) ?_
  refine jg_bipush (v := nI 23) dX12_noCell_2 (by decide) ?_
  obtain ⟨x1, e_x1, h⟩ := bd_some h
  refine rs_callS (As := [.int a1, .int (nI 0), .int (nI 23)]) ks_X12_49 dX12_noCell_4 rfl (by decide) (Nat.le_of_ble_eq_true rfl) rfl (by decide) (Nat.le_of_ble_eq_true rfl) (t_X12_in hr s a1 (nI 0) (nI 23) e_x1) ?_
  refine jg_if_ne (x := x1) (tgt := 14) dX12_noCell_7 (by decide) (fun c2 => ?_) (fun c2 => ?_)
  · replace h := it_f c2 h
    refine jg_iconst (v := nI 0) dX12_noCell_14 (by decide) ?_
    obtain rfl := Option.some.inj h
    exact jg_zreturn dX12_noCell_15 rfl (rfl) ⟨rfl, rfl⟩
  · replace h := it_t c2 h
    refine jg_iconst (v := nI 1) dX12_noCell_10 (by decide) ?_
    refine jg_goto (tgt := 15) dX12_noCell_11 (by decide) ?_
    obtain rfl := Option.some.inj h
    exact jg_zreturn dX12_noCell_15 rfl (rfl) ⟨rfl, rfl⟩
theorem dX12_tideOf_0 : decode cX12_tideOf 0 = .ok (.aload_n 0, 1) := by decide +kernel
theorem dX12_tideOf_1 : decode cX12_tideOf 1 = .ok (.getfield 13, 3) := by decide +kernel
theorem dX12_tideOf_4 : decode cX12_tideOf 4 = .ok (.bipush 73, 2) := by decide +kernel
theorem dX12_tideOf_6 : decode cX12_tideOf 6 = .ok (.iload_n 1, 1) := by decide +kernel
theorem dX12_tideOf_7 : decode cX12_tideOf 7 = .ok (.bipush 25, 2) := by decide +kernel
theorem dX12_tideOf_9 : decode cX12_tideOf 9 = .ok (.irem, 1) := by decide +kernel
theorem dX12_tideOf_10 : decode cX12_tideOf 10 = .ok (.iadd, 1) := by decide +kernel
theorem dX12_tideOf_11 : decode cX12_tideOf 11 = .ok (.iaload, 1) := by decide +kernel
theorem dX12_tideOf_12 : decode cX12_tideOf 12 = .ok (.ireturn, 1) := by decide +kernel
noncomputable def o_X12_tideOf (s : rs_S) (a1 : Int32) : Option (Int32) := if iL ((nI 73) + (irm a1 (nI 25))) 22216 then (some (gW s ((nI 73) + (irm a1 (nI 25))))) else none
set_option maxHeartbeats 4000000 in
theorem t_X12_tideOf {Γ : jg_G} {g : Nat → jg_C} {n r : Nat} (hr : r + 11 ≤ n) (s : rs_S) (a1 : Int32) {x : Int32} (h : o_X12_tideOf s a1 = some x) : jc Γ mX12_tideOf 0 0 0 [some (.ref r), some (.int a1)] (rs_h g r s, n) (.inl (some (.int x))) (rs_h g r s, n) := by
  refine jc_of ?_
  rw [o_X12_tideOf] at h
  refine jg_aload_n dX12_tideOf_0 rfl ?_
  refine rs_ga fl_X12_13 dX12_tideOf_1 hr rfl ?_
  refine jg_bipush (v := nI 73) dX12_tideOf_4 (by decide) ?_
  refine jg_iload_n dX12_tideOf_6 rfl ?_
  refine jg_bipush (v := nI 25) dX12_tideOf_7 (by decide) ?_
  refine jg_iremR (x := a1) (y := (nI 25)) dX12_tideOf_9 (by decide) ?_
  refine jg_iadd (x := (nI 73)) (y := (irm a1 (nI 25))) dX12_tideOf_10  ?_
  obtain ⟨q1, h⟩ := gd_some h
  refine rs_lwD (s := s) (i := ((nI 73) + (irm a1 (nI 25)))) dX12_tideOf_11 hr q1 ?_
  obtain rfl := Option.some.inj h
  exact jg_ireturn dX12_tideOf_12 rfl ⟨rfl, rfl⟩
theorem dX12_berthAt_0 : decode cX12_berthAt 0 = .ok (.sipush 1000, 3) := by decide +kernel
theorem dX12_berthAt_3 : decode cX12_berthAt 3 = .ok (.bipush 8, 2) := by decide +kernel
theorem dX12_berthAt_5 : decode cX12_berthAt 5 = .ok (.iload_n 0, 1) := by decide +kernel
theorem dX12_berthAt_6 : decode cX12_berthAt 6 = .ok (.imul, 1) := by decide +kernel
theorem dX12_berthAt_7 : decode cX12_berthAt 7 = .ok (.iadd, 1) := by decide +kernel
theorem dX12_berthAt_8 : decode cX12_berthAt 8 = .ok (.iload_n 1, 1) := by decide +kernel
theorem dX12_berthAt_9 : decode cX12_berthAt 9 = .ok (.iadd, 1) := by decide +kernel
theorem dX12_berthAt_10 : decode cX12_berthAt 10 = .ok (.ireturn, 1) := by decide +kernel
noncomputable def o_X12_berthAt (s : rs_S) (a1 : Int32) (a2 : Int32) : Option (Int32) := some (((nI 1000) + ((nI 8) * a1)) + a2)
set_option maxHeartbeats 4000000 in
theorem t_X12_berthAt {Γ : jg_G} {g : Nat → jg_C} {n r : Nat} (hr : r + 11 ≤ n) (s : rs_S) (a1 : Int32) (a2 : Int32) {x : Int32} (h : o_X12_berthAt s a1 a2 = some x) : jc Γ mX12_berthAt 0 0 0 [some (.int a1), some (.int a2)] (rs_h g r s, n) (.inl (some (.int x))) (rs_h g r s, n) := by
  refine jc_of ?_
  rw [o_X12_berthAt] at h
  refine jg_sipush (v := nI 1000) dX12_berthAt_0 (by decide) ?_
  refine jg_bipush (v := nI 8) dX12_berthAt_3 (by decide) ?_
  refine jg_iload_n dX12_berthAt_5 rfl ?_
  refine jg_imul (x := (nI 8)) (y := a1) dX12_berthAt_6  ?_
  refine jg_iadd (x := (nI 1000)) (y := ((nI 8) * a1)) dX12_berthAt_7  ?_
  refine jg_iload_n dX12_berthAt_8 rfl ?_
  refine jg_iadd (x := ((nI 1000) + ((nI 8) * a1))) (y := a2) dX12_berthAt_9  ?_
  obtain rfl := Option.some.inj h
  exact jg_ireturn dX12_berthAt_10 rfl ⟨rfl, rfl⟩
theorem dX12_payerAt_0 : decode cX12_payerAt 0 = .ok (.sipush 1091, 3) := by decide +kernel
theorem dX12_payerAt_3 : decode cX12_payerAt 3 = .ok (.iconst 4, 1) := by decide +kernel
theorem dX12_payerAt_4 : decode cX12_payerAt 4 = .ok (.iload_n 0, 1) := by decide +kernel
theorem dX12_payerAt_5 : decode cX12_payerAt 5 = .ok (.imul, 1) := by decide +kernel
theorem dX12_payerAt_6 : decode cX12_payerAt 6 = .ok (.iadd, 1) := by decide +kernel
theorem dX12_payerAt_7 : decode cX12_payerAt 7 = .ok (.iload_n 1, 1) := by decide +kernel
theorem dX12_payerAt_8 : decode cX12_payerAt 8 = .ok (.iadd, 1) := by decide +kernel
theorem dX12_payerAt_9 : decode cX12_payerAt 9 = .ok (.ireturn, 1) := by decide +kernel
noncomputable def o_X12_payerAt (s : rs_S) (a1 : Int32) (a2 : Int32) : Option (Int32) := some (((nI 1091) + ((nI 4) * a1)) + a2)
set_option maxHeartbeats 4000000 in
theorem t_X12_payerAt {Γ : jg_G} {g : Nat → jg_C} {n r : Nat} (hr : r + 11 ≤ n) (s : rs_S) (a1 : Int32) (a2 : Int32) {x : Int32} (h : o_X12_payerAt s a1 a2 = some x) : jc Γ mX12_payerAt 0 0 0 [some (.int a1), some (.int a2)] (rs_h g r s, n) (.inl (some (.int x))) (rs_h g r s, n) := by
  refine jc_of ?_
  rw [o_X12_payerAt] at h
  refine jg_sipush (v := nI 1091) dX12_payerAt_0 (by decide) ?_
  refine jg_iconst (v := nI 4) dX12_payerAt_3 (by decide) ?_
  refine jg_iload_n dX12_payerAt_4 rfl ?_
  refine jg_imul (x := (nI 4)) (y := a1) dX12_payerAt_5  ?_
  refine jg_iadd (x := (nI 1091)) (y := ((nI 4) * a1)) dX12_payerAt_6  ?_
  refine jg_iload_n dX12_payerAt_7 rfl ?_
  refine jg_iadd (x := ((nI 1091) + ((nI 4) * a1))) (y := a2) dX12_payerAt_8  ?_
  obtain rfl := Option.some.inj h
  exact jg_ireturn dX12_payerAt_9 rfl ⟨rfl, rfl⟩
theorem dX12_shipAt_0 : decode cX12_shipAt 0 = .ok (.sipush 1212, 3) := by decide +kernel
theorem dX12_shipAt_3 : decode cX12_shipAt 3 = .ok (.bipush 18, 2) := by decide +kernel
theorem dX12_shipAt_5 : decode cX12_shipAt 5 = .ok (.iload_n 0, 1) := by decide +kernel
theorem dX12_shipAt_6 : decode cX12_shipAt 6 = .ok (.imul, 1) := by decide +kernel
theorem dX12_shipAt_7 : decode cX12_shipAt 7 = .ok (.iadd, 1) := by decide +kernel
theorem dX12_shipAt_8 : decode cX12_shipAt 8 = .ok (.iload_n 1, 1) := by decide +kernel
theorem dX12_shipAt_9 : decode cX12_shipAt 9 = .ok (.iadd, 1) := by decide +kernel
theorem dX12_shipAt_10 : decode cX12_shipAt 10 = .ok (.ireturn, 1) := by decide +kernel
noncomputable def o_X12_shipAt (s : rs_S) (a1 : Int32) (a2 : Int32) : Option (Int32) := some (((nI 1212) + ((nI 18) * a1)) + a2)
set_option maxHeartbeats 4000000 in
theorem t_X12_shipAt {Γ : jg_G} {g : Nat → jg_C} {n r : Nat} (hr : r + 11 ≤ n) (s : rs_S) (a1 : Int32) (a2 : Int32) {x : Int32} (h : o_X12_shipAt s a1 a2 = some x) : jc Γ mX12_shipAt 0 0 0 [some (.int a1), some (.int a2)] (rs_h g r s, n) (.inl (some (.int x))) (rs_h g r s, n) := by
  refine jc_of ?_
  rw [o_X12_shipAt] at h
  refine jg_sipush (v := nI 1212) dX12_shipAt_0 (by decide) ?_
  refine jg_bipush (v := nI 18) dX12_shipAt_3 (by decide) ?_
  refine jg_iload_n dX12_shipAt_5 rfl ?_
  refine jg_imul (x := (nI 18)) (y := a1) dX12_shipAt_6  ?_
  refine jg_iadd (x := (nI 1212)) (y := ((nI 18) * a1)) dX12_shipAt_7  ?_
  refine jg_iload_n dX12_shipAt_8 rfl ?_
  refine jg_iadd (x := ((nI 1212) + ((nI 18) * a1))) (y := a2) dX12_shipAt_9  ?_
  obtain rfl := Option.some.inj h
  exact jg_ireturn dX12_shipAt_10 rfl ⟨rfl, rfl⟩
theorem dX12_actAt_0 : decode cX12_actAt 0 = .ok (.sipush 2812, 3) := by decide +kernel
theorem dX12_actAt_3 : decode cX12_actAt 3 = .ok (.sipush 882, 3) := by decide +kernel
theorem dX12_actAt_6 : decode cX12_actAt 6 = .ok (.iload_n 0, 1) := by decide +kernel
theorem dX12_actAt_7 : decode cX12_actAt 7 = .ok (.imul, 1) := by decide +kernel
theorem dX12_actAt_8 : decode cX12_actAt 8 = .ok (.iadd, 1) := by decide +kernel
theorem dX12_actAt_9 : decode cX12_actAt 9 = .ok (.ireturn, 1) := by decide +kernel
noncomputable def o_X12_actAt (s : rs_S) (a1 : Int32) : Option (Int32) := some ((nI 2812) + ((nI 882) * a1))
set_option maxHeartbeats 4000000 in
theorem t_X12_actAt {Γ : jg_G} {g : Nat → jg_C} {n r : Nat} (hr : r + 11 ≤ n) (s : rs_S) (a1 : Int32) {x : Int32} (h : o_X12_actAt s a1 = some x) : jc Γ mX12_actAt 0 0 0 [some (.int a1)] (rs_h g r s, n) (.inl (some (.int x))) (rs_h g r s, n) := by
  refine jc_of ?_
  rw [o_X12_actAt] at h
  refine jg_sipush (v := nI 2812) dX12_actAt_0 (by decide) ?_
  refine jg_sipush (v := nI 882) dX12_actAt_3 (by decide) ?_
  refine jg_iload_n dX12_actAt_6 rfl ?_
  refine jg_imul (x := (nI 882)) (y := a1) dX12_actAt_7  ?_
  refine jg_iadd (x := (nI 2812)) (y := ((nI 882) * a1)) dX12_actAt_8  ?_
  obtain rfl := Option.some.inj h
  exact jg_ireturn dX12_actAt_9 rfl ⟨rfl, rfl⟩
theorem dX12_bondAt_0 : decode cX12_bondAt 0 = .ok (.sipush 2666, 3) := by decide +kernel
theorem dX12_bondAt_3 : decode cX12_bondAt 3 = .ok (.bipush 6, 2) := by decide +kernel
theorem dX12_bondAt_5 : decode cX12_bondAt 5 = .ok (.iload_n 0, 1) := by decide +kernel
theorem dX12_bondAt_6 : decode cX12_bondAt 6 = .ok (.imul, 1) := by decide +kernel
theorem dX12_bondAt_7 : decode cX12_bondAt 7 = .ok (.iadd, 1) := by decide +kernel
theorem dX12_bondAt_8 : decode cX12_bondAt 8 = .ok (.iload_n 1, 1) := by decide +kernel
theorem dX12_bondAt_9 : decode cX12_bondAt 9 = .ok (.iadd, 1) := by decide +kernel
theorem dX12_bondAt_10 : decode cX12_bondAt 10 = .ok (.ireturn, 1) := by decide +kernel
noncomputable def o_X12_bondAt (s : rs_S) (a1 : Int32) (a2 : Int32) : Option (Int32) := some (((nI 2666) + ((nI 6) * a1)) + a2)
set_option maxHeartbeats 4000000 in
theorem t_X12_bondAt {Γ : jg_G} {g : Nat → jg_C} {n r : Nat} (hr : r + 11 ≤ n) (s : rs_S) (a1 : Int32) (a2 : Int32) {x : Int32} (h : o_X12_bondAt s a1 a2 = some x) : jc Γ mX12_bondAt 0 0 0 [some (.int a1), some (.int a2)] (rs_h g r s, n) (.inl (some (.int x))) (rs_h g r s, n) := by
  refine jc_of ?_
  rw [o_X12_bondAt] at h
  refine jg_sipush (v := nI 2666) dX12_bondAt_0 (by decide) ?_
  refine jg_bipush (v := nI 6) dX12_bondAt_3 (by decide) ?_
  refine jg_iload_n dX12_bondAt_5 rfl ?_
  refine jg_imul (x := (nI 6)) (y := a1) dX12_bondAt_6  ?_
  refine jg_iadd (x := (nI 2666)) (y := ((nI 6) * a1)) dX12_bondAt_7  ?_
  refine jg_iload_n dX12_bondAt_8 rfl ?_
  refine jg_iadd (x := ((nI 2666) + ((nI 6) * a1))) (y := a2) dX12_bondAt_9  ?_
  obtain rfl := Option.some.inj h
  exact jg_ireturn dX12_bondAt_10 rfl ⟨rfl, rfl⟩
theorem dX12_hourAt_0 : decode cX12_hourAt 0 = .ok (.iload_n 0, 1) := by decide +kernel
theorem dX12_hourAt_1 : decode cX12_hourAt 1 = .ok (.iload_n 3, 1) := by decide +kernel
theorem dX12_hourAt_2 : decode cX12_hourAt 2 = .ok (.ifCond .eq 9, 3) := by decide +kernel
theorem dX12_hourAt_5 : decode cX12_hourAt 5 = .ok (.iload_n 2, 1) := by decide +kernel
theorem dX12_hourAt_6 : decode cX12_hourAt 6 = .ok (.iload_n 1, 1) := by decide +kernel
theorem dX12_hourAt_7 : decode cX12_hourAt 7 = .ok (.isub, 1) := by decide +kernel
theorem dX12_hourAt_8 : decode cX12_hourAt 8 = .ok (.goto 4, 3) := by decide +kernel
theorem dX12_hourAt_11 : decode cX12_hourAt 11 = .ok (.iload_n 1, 1) := by decide +kernel
theorem dX12_hourAt_12 : decode cX12_hourAt 12 = .ok (.bipush 6, 2) := by decide +kernel
theorem dX12_hourAt_14 : decode cX12_hourAt 14 = .ok (.idiv, 1) := by decide +kernel
theorem dX12_hourAt_15 : decode cX12_hourAt 15 = .ok (.iadd, 1) := by decide +kernel
theorem dX12_hourAt_16 : decode cX12_hourAt 16 = .ok (.ireturn, 1) := by decide +kernel
noncomputable def o_X12_hourAt (s : rs_S) (a1 : Int32) (a2 : Int32) (a3 : Int32) (a4 : Int32) : Option (Int32) := if a4 = 0 then (some (a1 + (a2 / (nI 6)))) else (some (a1 + ((a3 - a2) / (nI 6))))
set_option maxHeartbeats 4000000 in
theorem t_X12_hourAt {Γ : jg_G} {g : Nat → jg_C} {n r : Nat} (hr : r + 11 ≤ n) (s : rs_S) (a1 : Int32) (a2 : Int32) (a3 : Int32) (a4 : Int32) {x : Int32} (h : o_X12_hourAt s a1 a2 a3 a4 = some x) : jc Γ mX12_hourAt 0 0 0 [some (.int a1), some (.int a2), some (.int a3), some (.int a4)] (rs_h g r s, n) (.inl (some (.int x))) (rs_h g r s, n) := by
  refine jc_of ?_
  rw [o_X12_hourAt] at h
  refine jg_iload_n dX12_hourAt_0 rfl ?_
  refine jg_iload_n dX12_hourAt_1 rfl ?_
  refine jg_if_eq (x := a4) (tgt := 11) dX12_hourAt_2 (by decide) (fun c1 => ?_) (fun c1 => ?_)
  · replace h := it_t c1 h
    refine jg_iload_n dX12_hourAt_11 rfl ?_
    refine jg_bipush (v := nI 6) dX12_hourAt_12 (by decide) ?_
    refine jg_idiv (x := a2) (y := (nI 6)) dX12_hourAt_14 (by decide) ?_
    refine jg_iadd (x := a1) (y := (a2 / (nI 6))) dX12_hourAt_15  ?_
    obtain rfl := Option.some.inj h
    exact jg_ireturn dX12_hourAt_16 rfl ⟨rfl, rfl⟩
  · replace h := it_f c1 h
    refine jg_iload_n dX12_hourAt_5 rfl ?_
    refine jg_iload_n dX12_hourAt_6 rfl ?_
    refine jg_isub (x := a3) (y := a2) dX12_hourAt_7  ?_
    refine jg_goto (tgt := 12) dX12_hourAt_8 (by decide) ?_
    refine jg_bipush (v := nI 6) dX12_hourAt_12 (by decide) ?_
    refine jg_idiv (x := (a3 - a2)) (y := (nI 6)) dX12_hourAt_14 (by decide) ?_
    refine jg_iadd (x := a1) (y := ((a3 - a2) / (nI 6))) dX12_hourAt_15  ?_
    obtain rfl := Option.some.inj h
    exact jg_ireturn dX12_hourAt_16 rfl ⟨rfl, rfl⟩
theorem dX12_berthOf_0 : decode cX12_berthOf 0 = .ok (.aload_n 0, 1) := by decide +kernel
theorem dX12_berthOf_1 : decode cX12_berthOf 1 = .ok (.getfield 13, 3) := by decide +kernel
theorem dX12_berthOf_4 : decode cX12_berthOf 4 = .ok (.iload_n 1, 1) := by decide +kernel
theorem dX12_berthOf_5 : decode cX12_berthOf 5 = .ok (.iload_n 2, 1) := by decide +kernel
theorem dX12_berthOf_6 : decode cX12_berthOf 6 = .ok (.invokestatic 100, 3) := by decide +kernel
theorem dX12_berthOf_9 : decode cX12_berthOf 9 = .ok (.iaload, 1) := by decide +kernel
theorem dX12_berthOf_10 : decode cX12_berthOf 10 = .ok (.ireturn, 1) := by decide +kernel
noncomputable def o_X12_berthOf (s : rs_S) (a1 : Int32) (a2 : Int32) : Option (Int32) := (o_X12_berthAt s a1 a2).bind fun x1 => (if iL x1 22216 then (some (gW s x1)) else none)
set_option maxHeartbeats 4000000 in
theorem t_X12_berthOf {Γ : jg_G} {g : Nat → jg_C} {n r : Nat} (hr : r + 11 ≤ n) (s : rs_S) (a1 : Int32) (a2 : Int32) {x : Int32} (h : o_X12_berthOf s a1 a2 = some x) : jc Γ mX12_berthOf 1 0 0 [some (.ref r), some (.int a1), some (.int a2)] (rs_h g r s, n) (.inl (some (.int x))) (rs_h g r s, n) := by
  refine jc_of ?_
  rw [o_X12_berthOf] at h
  refine jg_aload_n dX12_berthOf_0 rfl ?_
  refine rs_ga fl_X12_13 dX12_berthOf_1 hr rfl ?_
  refine jg_iload_n dX12_berthOf_4 rfl ?_
  refine jg_iload_n dX12_berthOf_5 rfl ?_
  obtain ⟨x1, e_x1, h⟩ := bd_some h
  refine rs_callS (As := [.int a1, .int a2]) ks_X12_100 dX12_berthOf_6 rfl (by decide) (Nat.le_of_ble_eq_true rfl) rfl (by decide) (Nat.le_of_ble_eq_true rfl) (t_X12_berthAt hr s a1 a2 e_x1) ?_
  obtain ⟨q2, h⟩ := gd_some h
  refine rs_lwD (s := s) (i := x1) dX12_berthOf_9 hr q2 ?_
  obtain rfl := Option.some.inj h
  exact jg_ireturn dX12_berthOf_10 rfl ⟨rfl, rfl⟩
theorem dX12_of_0 : decode cX12_of 0 = .ok (.aload_n 0, 1) := by decide +kernel
theorem dX12_of_1 : decode cX12_of 1 = .ok (.getfield 13, 3) := by decide +kernel
theorem dX12_of_4 : decode cX12_of 4 = .ok (.iload_n 1, 1) := by decide +kernel
theorem dX12_of_5 : decode cX12_of 5 = .ok (.iload_n 2, 1) := by decide +kernel
theorem dX12_of_6 : decode cX12_of 6 = .ok (.invokestatic 104, 3) := by decide +kernel
theorem dX12_of_9 : decode cX12_of 9 = .ok (.iaload, 1) := by decide +kernel
theorem dX12_of_10 : decode cX12_of 10 = .ok (.ireturn, 1) := by decide +kernel
noncomputable def o_X12_of (s : rs_S) (a1 : Int32) (a2 : Int32) : Option (Int32) := (o_X12_shipAt s a1 a2).bind fun x1 => (if iL x1 22216 then (some (gW s x1)) else none)
set_option maxHeartbeats 4000000 in
theorem t_X12_of {Γ : jg_G} {g : Nat → jg_C} {n r : Nat} (hr : r + 11 ≤ n) (s : rs_S) (a1 : Int32) (a2 : Int32) {x : Int32} (h : o_X12_of s a1 a2 = some x) : jc Γ mX12_of 1 0 0 [some (.ref r), some (.int a1), some (.int a2)] (rs_h g r s, n) (.inl (some (.int x))) (rs_h g r s, n) := by
  refine jc_of ?_
  rw [o_X12_of] at h
  refine jg_aload_n dX12_of_0 rfl ?_
  refine rs_ga fl_X12_13 dX12_of_1 hr rfl ?_
  refine jg_iload_n dX12_of_4 rfl ?_
  refine jg_iload_n dX12_of_5 rfl ?_
  obtain ⟨x1, e_x1, h⟩ := bd_some h
  refine rs_callS (As := [.int a1, .int a2]) ks_X12_104 dX12_of_6 rfl (by decide) (Nat.le_of_ble_eq_true rfl) rfl (by decide) (Nat.le_of_ble_eq_true rfl) (t_X12_shipAt hr s a1 a2 e_x1) ?_
  obtain ⟨q2, h⟩ := gd_some h
  refine rs_lwD (s := s) (i := x1) dX12_of_9 hr q2 ?_
  obtain rfl := Option.some.inj h
  exact jg_ireturn dX12_of_10 rfl ⟨rfl, rfl⟩
theorem dX12_bondOf_0 : decode cX12_bondOf 0 = .ok (.aload_n 0, 1) := by decide +kernel
theorem dX12_bondOf_1 : decode cX12_bondOf 1 = .ok (.getfield 13, 3) := by decide +kernel
theorem dX12_bondOf_4 : decode cX12_bondOf 4 = .ok (.iload_n 1, 1) := by decide +kernel
theorem dX12_bondOf_5 : decode cX12_bondOf 5 = .ok (.iload_n 2, 1) := by decide +kernel
theorem dX12_bondOf_6 : decode cX12_bondOf 6 = .ok (.invokestatic 388, 3) := by decide +kernel
theorem dX12_bondOf_9 : decode cX12_bondOf 9 = .ok (.iaload, 1) := by decide +kernel
theorem dX12_bondOf_10 : decode cX12_bondOf 10 = .ok (.ireturn, 1) := by decide +kernel
noncomputable def o_X12_bondOf (s : rs_S) (a1 : Int32) (a2 : Int32) : Option (Int32) := (o_X12_bondAt s a1 a2).bind fun x1 => (if iL x1 22216 then (some (gW s x1)) else none)
set_option maxHeartbeats 4000000 in
theorem t_X12_bondOf {Γ : jg_G} {g : Nat → jg_C} {n r : Nat} (hr : r + 11 ≤ n) (s : rs_S) (a1 : Int32) (a2 : Int32) {x : Int32} (h : o_X12_bondOf s a1 a2 = some x) : jc Γ mX12_bondOf 1 0 0 [some (.ref r), some (.int a1), some (.int a2)] (rs_h g r s, n) (.inl (some (.int x))) (rs_h g r s, n) := by
  refine jc_of ?_
  rw [o_X12_bondOf] at h
  refine jg_aload_n dX12_bondOf_0 rfl ?_
  refine rs_ga fl_X12_13 dX12_bondOf_1 hr rfl ?_
  refine jg_iload_n dX12_bondOf_4 rfl ?_
  refine jg_iload_n dX12_bondOf_5 rfl ?_
  obtain ⟨x1, e_x1, h⟩ := bd_some h
  refine rs_callS (As := [.int a1, .int a2]) ks_X12_388 dX12_bondOf_6 rfl (by decide) (Nat.le_of_ble_eq_true rfl) rfl (by decide) (Nat.le_of_ble_eq_true rfl) (t_X12_bondAt hr s a1 a2 e_x1) ?_
  obtain ⟨q2, h⟩ := gd_some h
  refine rs_lwD (s := s) (i := x1) dX12_bondOf_9 hr q2 ?_
  obtain rfl := Option.some.inj h
  exact jg_ireturn dX12_bondOf_10 rfl ⟨rfl, rfl⟩
theorem dX12_sets_0 : decode cX12_sets 0 = .ok (.aload_n 0, 1) := by decide +kernel
theorem dX12_sets_1 : decode cX12_sets 1 = .ok (.getfield 13, 3) := by decide +kernel
theorem dX12_sets_4 : decode cX12_sets 4 = .ok (.iload_n 1, 1) := by decide +kernel
theorem dX12_sets_5 : decode cX12_sets 5 = .ok (.iload_n 2, 1) := by decide +kernel
theorem dX12_sets_6 : decode cX12_sets 6 = .ok (.invokestatic 104, 3) := by decide +kernel
theorem dX12_sets_9 : decode cX12_sets 9 = .ok (.iload_n 3, 1) := by decide +kernel
theorem dX12_sets_10 : decode cX12_sets 10 = .ok (.iastore, 1) := by decide +kernel
theorem dX12_sets_11 : decode cX12_sets 11 = .ok (.return_, 1) := by decide +kernel
noncomputable def o_X12_sets (s : rs_S) (a1 : Int32) (a2 : Int32) (a3 : Int32) : Option (rs_S) := (o_X12_shipAt s a1 a2).bind fun x1 => (if iL x1 22216 then (some (pW s x1 a3)) else none)
set_option maxHeartbeats 4000000 in
theorem t_X12_sets {Γ : jg_G} {g : Nat → jg_C} {n r : Nat} (hr : r + 11 ≤ n) (s : rs_S) (a1 : Int32) (a2 : Int32) (a3 : Int32) {x : rs_S} (h : o_X12_sets s a1 a2 a3 = some x) : jc Γ mX12_sets 1 0 0 [some (.ref r), some (.int a1), some (.int a2), some (.int a3)] (rs_h g r s, n) (.inl none) (rs_h g r x, n) := by
  refine jc_of ?_
  rw [o_X12_sets] at h
  refine jg_aload_n dX12_sets_0 rfl ?_
  refine rs_ga fl_X12_13 dX12_sets_1 hr rfl ?_
  refine jg_iload_n dX12_sets_4 rfl ?_
  refine jg_iload_n dX12_sets_5 rfl ?_
  obtain ⟨x1, e_x1, h⟩ := bd_some h
  refine rs_callS (As := [.int a1, .int a2]) ks_X12_104 dX12_sets_6 rfl (by decide) (Nat.le_of_ble_eq_true rfl) rfl (by decide) (Nat.le_of_ble_eq_true rfl) (t_X12_shipAt hr s a1 a2 e_x1) ?_
  refine jg_iload_n dX12_sets_9 rfl ?_
  obtain ⟨q2, h⟩ := gd_some h
  refine rs_swD (s := s) (i := x1) (x := a3) dX12_sets_10 hr q2 ?_
  obtain rfl := Option.some.inj h
  exact jg_return dX12_sets_11 rfl ⟨rfl, rfl⟩
theorem dX12_runOf_0 : decode cX12_runOf 0 = .ok (.iconst (-1), 1) := by decide +kernel
theorem dX12_runOf_1 : decode cX12_runOf 1 = .ok (.istore_n 2, 1) := by decide +kernel
theorem dX12_runOf_2 : decode cX12_runOf 2 = .ok (.bipush 99, 2) := by decide +kernel
theorem dX12_runOf_4 : decode cX12_runOf 4 = .ok (.istore_n 3, 1) := by decide +kernel
theorem dX12_runOf_5 : decode cX12_runOf 5 = .ok (.iload_n 3, 1) := by decide +kernel
theorem dX12_runOf_6 : decode cX12_runOf 6 = .ok (.bipush 99, 2) := by decide +kernel
theorem dX12_runOf_8 : decode cX12_runOf 8 = .ok (.iconst 2, 1) := by decide +kernel
theorem dX12_runOf_9 : decode cX12_runOf 9 = .ok (.aload_n 0, 1) := by decide +kernel
theorem dX12_runOf_10 : decode cX12_runOf 10 = .ok (.getfield 13, 3) := by decide +kernel
theorem dX12_runOf_13 : decode cX12_runOf 13 = .ok (.bipush 98, 2) := by decide +kernel
theorem dX12_runOf_15 : decode cX12_runOf 15 = .ok (.iaload, 1) := by decide +kernel
theorem dX12_runOf_16 : decode cX12_runOf 16 = .ok (.imul, 1) := by decide +kernel
theorem dX12_runOf_17 : decode cX12_runOf 17 = .ok (.iadd, 1) := by decide +kernel
theorem dX12_runOf_18 : decode cX12_runOf 18 = .ok (.if_icmp .ge 40, 3) := by decide +kernel
theorem dX12_runOf_21 : decode cX12_runOf 21 = .ok (.aload_n 0, 1) := by decide +kernel
theorem dX12_runOf_22 : decode cX12_runOf 22 = .ok (.getfield 13, 3) := by decide +kernel
theorem dX12_runOf_25 : decode cX12_runOf 25 = .ok (.iload_n 3, 1) := by decide +kernel
theorem dX12_runOf_26 : decode cX12_runOf 26 = .ok (.iaload, 1) := by decide +kernel
theorem dX12_runOf_27 : decode cX12_runOf 27 = .ok (.iload_n 1, 1) := by decide +kernel
theorem dX12_runOf_28 : decode cX12_runOf 28 = .ok (.if_icmp .gt 24, 3) := by decide +kernel
theorem dX12_runOf_31 : decode cX12_runOf 31 = .ok (.iload_n 2, 1) := by decide +kernel
theorem dX12_runOf_32 : decode cX12_runOf 32 = .ok (.ifCond .lt 18, 3) := by decide +kernel
theorem dX12_runOf_35 : decode cX12_runOf 35 = .ok (.aload_n 0, 1) := by decide +kernel
theorem dX12_runOf_36 : decode cX12_runOf 36 = .ok (.getfield 13, 3) := by decide +kernel
theorem dX12_runOf_39 : decode cX12_runOf 39 = .ok (.iload_n 3, 1) := by decide +kernel
theorem dX12_runOf_40 : decode cX12_runOf 40 = .ok (.iaload, 1) := by decide +kernel
theorem dX12_runOf_41 : decode cX12_runOf 41 = .ok (.aload_n 0, 1) := by decide +kernel
theorem dX12_runOf_42 : decode cX12_runOf 42 = .ok (.getfield 13, 3) := by decide +kernel
theorem dX12_runOf_45 : decode cX12_runOf 45 = .ok (.iload_n 2, 1) := by decide +kernel
theorem dX12_runOf_46 : decode cX12_runOf 46 = .ok (.iaload, 1) := by decide +kernel
theorem dX12_runOf_47 : decode cX12_runOf 47 = .ok (.if_icmp .lt 5, 3) := by decide +kernel
theorem dX12_runOf_50 : decode cX12_runOf 50 = .ok (.iload_n 3, 1) := by decide +kernel
theorem dX12_runOf_51 : decode cX12_runOf 51 = .ok (.istore_n 2, 1) := by decide +kernel
theorem dX12_runOf_52 : decode cX12_runOf 52 = .ok (.iinc 3 2, 3) := by decide +kernel
theorem dX12_runOf_55 : decode cX12_runOf 55 = .ok (.goto (-50), 3) := by decide +kernel
theorem dX12_runOf_58 : decode cX12_runOf 58 = .ok (.iload_n 2, 1) := by decide +kernel
theorem dX12_runOf_59 : decode cX12_runOf 59 = .ok (.ifCond .ge 7, 3) := by decide +kernel
theorem dX12_runOf_62 : decode cX12_runOf 62 = .ok (.iconst 0, 1) := by decide +kernel
theorem dX12_runOf_63 : decode cX12_runOf 63 = .ok (.goto 11, 3) := by decide +kernel
theorem dX12_runOf_66 : decode cX12_runOf 66 = .ok (.aload_n 0, 1) := by decide +kernel
theorem dX12_runOf_67 : decode cX12_runOf 67 = .ok (.getfield 13, 3) := by decide +kernel
theorem dX12_runOf_70 : decode cX12_runOf 70 = .ok (.iload_n 2, 1) := by decide +kernel
theorem dX12_runOf_71 : decode cX12_runOf 71 = .ok (.iconst 1, 1) := by decide +kernel
theorem dX12_runOf_72 : decode cX12_runOf 72 = .ok (.iadd, 1) := by decide +kernel
theorem dX12_runOf_73 : decode cX12_runOf 73 = .ok (.iaload, 1) := by decide +kernel
theorem dX12_runOf_74 : decode cX12_runOf 74 = .ok (.ireturn, 1) := by decide +kernel
noncomputable def o_X12_runOf_5 (F : Nat) (l1 : Int32) (s : rs_S) : Nat → Int32 → Int32 → Option (Int32)
  | 0, _, _ => none
  | f + 1, l2, l3 => if iL (nI 98) 22216 then (if ((nI 99) + ((nI 2) * (gW s (nI 98)))) ≤ l3 then (some l2) else (if iL l3 22216 then (if l1 < (gW s l3) then (o_X12_runOf_5 F l1 s f l2 (l3 + nI 2)) else (if l2 < 0 then (o_X12_runOf_5 F l1 s f l3 (l3 + nI 2)) else (if iL l3 22216 then (if iL l2 22216 then (if (gW s l3) < (gW s l2) then (o_X12_runOf_5 F l1 s f l2 (l3 + nI 2)) else (o_X12_runOf_5 F l1 s f l3 (l3 + nI 2))) else none) else none))) else none)) else none
set_option maxHeartbeats 4000000 in
theorem t_X12_runOf_5 {Γ : jg_G} {g : Nat → jg_C} {n r : Nat} (hr : r + 11 ≤ n) (F : Nat) (l1 : Int32) (s : rs_S) (Q : jg_Q) {x : Int32} (K1 : jg Γ mX12_runOf 0 0 0 58 [some (.ref r), none, some (.int x), none] [] (rs_h g r s, n) Q)  : ∀ (f : Nat) (l2 : Int32) (l3 : Int32), o_X12_runOf_5 F l1 s f l2 l3 = some x → jg Γ mX12_runOf 0 0 0 5 [some (.ref r), some (.int l1), some (.int l2), some (.int l3)] [] (rs_h g r s, n) Q := by
  intro f
  induction f with
  | zero => intro l2 l3 h; rw [o_X12_runOf_5] at h; cases h
  | succ f ih =>
   intro l2 l3 h
   rw [o_X12_runOf_5] at h
   refine jg_iload_n dX12_runOf_5 rfl ?_
   refine jg_bipush (v := nI 99) dX12_runOf_6 (by decide) ?_
   refine jg_iconst (v := nI 2) dX12_runOf_8 (by decide) ?_
   refine jg_aload_n dX12_runOf_9 rfl ?_
   refine rs_ga fl_X12_13 dX12_runOf_10 hr rfl ?_
   refine jg_bipush (v := nI 98) dX12_runOf_13 (by decide) ?_
   obtain ⟨q1, h⟩ := gd_some h
   refine rs_lwD (s := s) (i := (nI 98)) dX12_runOf_15 hr q1 ?_
   refine jg_imul (x := (nI 2)) (y := (gW s (nI 98))) dX12_runOf_16  ?_
   refine jg_iadd (x := (nI 99)) (y := ((nI 2) * (gW s (nI 98)))) dX12_runOf_17  ?_
   refine jg_icmp_ge (x := l3) (y := ((nI 99) + ((nI 2) * (gW s (nI 98))))) (tgt := 58) dX12_runOf_18 (by decide) (fun c2 => ?_) (fun c2 => ?_)
   · replace h := it_t c2 h
     refine jg_fg (L' := [some (.ref r), none, some (.int l2), none]) (by repeat (first | exact trivial | refine ⟨rfl, ?_⟩ | show jg_le _ _)) ?_
     obtain rfl := Option.some.inj h
     exact K1
   · replace h := it_f c2 h
     refine jg_aload_n dX12_runOf_21 rfl ?_
     refine rs_ga fl_X12_13 dX12_runOf_22 hr rfl ?_
     refine jg_iload_n dX12_runOf_25 rfl ?_
     obtain ⟨q3, h⟩ := gd_some h
     refine rs_lwD (s := s) (i := l3) dX12_runOf_26 hr q3 ?_
     refine jg_iload_n dX12_runOf_27 rfl ?_
     refine jg_icmp_gt (x := (gW s l3)) (y := l1) (tgt := 52) dX12_runOf_28 (by decide) (fun c4 => ?_) (fun c4 => ?_)
     · replace h := it_t c4 h
       refine jg_iinc (x := l3) (v := l3 + nI 2) (L' := [some (.ref r), some (.int l1), some (.int l2), some (.int (l3 + nI 2))]) dX12_runOf_52 rfl (ic_k _ (by decide)) (by decide) rfl ?_
       refine jg_goto (tgt := 5) dX12_runOf_55 (by decide) ?_
       refine jg_fg (L' := [some (.ref r), some (.int l1), some (.int l2), some (.int (l3 + nI 2))]) (by repeat (first | exact trivial | refine ⟨rfl, ?_⟩ | show jg_le _ _)) ?_
       exact ih l2 (l3 + nI 2) h
     · replace h := it_f c4 h
       refine jg_iload_n dX12_runOf_31 rfl ?_
       refine jg_if_lt (x := l2) (tgt := 50) dX12_runOf_32 (by decide) (fun c5 => ?_) (fun c5 => ?_)
       · replace h := it_t c5 h
         refine jg_iload_n dX12_runOf_50 rfl ?_
         refine jg_istore_n (L' := [some (.ref r), some (.int l1), some (.int l3), some (.int l3)]) dX12_runOf_51 (by decide) rfl ?_
         refine jg_iinc (x := l3) (v := l3 + nI 2) (L' := [some (.ref r), some (.int l1), some (.int l3), some (.int (l3 + nI 2))]) dX12_runOf_52 rfl (ic_k _ (by decide)) (by decide) rfl ?_
         refine jg_goto (tgt := 5) dX12_runOf_55 (by decide) ?_
         refine jg_fg (L' := [some (.ref r), some (.int l1), some (.int l3), some (.int (l3 + nI 2))]) (by repeat (first | exact trivial | refine ⟨rfl, ?_⟩ | show jg_le _ _)) ?_
         exact ih l3 (l3 + nI 2) h
       · replace h := it_f c5 h
         refine jg_aload_n dX12_runOf_35 rfl ?_
         refine rs_ga fl_X12_13 dX12_runOf_36 hr rfl ?_
         refine jg_iload_n dX12_runOf_39 rfl ?_
         obtain ⟨q6, h⟩ := gd_some h
         refine rs_lwD (s := s) (i := l3) dX12_runOf_40 hr q6 ?_
         refine jg_aload_n dX12_runOf_41 rfl ?_
         refine rs_ga fl_X12_13 dX12_runOf_42 hr rfl ?_
         refine jg_iload_n dX12_runOf_45 rfl ?_
         obtain ⟨q7, h⟩ := gd_some h
         refine rs_lwD (s := s) (i := l2) dX12_runOf_46 hr q7 ?_
         refine jg_icmp_lt (x := (gW s l3)) (y := (gW s l2)) (tgt := 52) dX12_runOf_47 (by decide) (fun c8 => ?_) (fun c8 => ?_)
         · replace h := it_t c8 h
           refine jg_iinc (x := l3) (v := l3 + nI 2) (L' := [some (.ref r), some (.int l1), some (.int l2), some (.int (l3 + nI 2))]) dX12_runOf_52 rfl (ic_k _ (by decide)) (by decide) rfl ?_
           refine jg_goto (tgt := 5) dX12_runOf_55 (by decide) ?_
           refine jg_fg (L' := [some (.ref r), some (.int l1), some (.int l2), some (.int (l3 + nI 2))]) (by repeat (first | exact trivial | refine ⟨rfl, ?_⟩ | show jg_le _ _)) ?_
           exact ih l2 (l3 + nI 2) h
         · replace h := it_f c8 h
           refine jg_iload_n dX12_runOf_50 rfl ?_
           refine jg_istore_n (L' := [some (.ref r), some (.int l1), some (.int l3), some (.int l3)]) dX12_runOf_51 (by decide) rfl ?_
           refine jg_iinc (x := l3) (v := l3 + nI 2) (L' := [some (.ref r), some (.int l1), some (.int l3), some (.int (l3 + nI 2))]) dX12_runOf_52 rfl (ic_k _ (by decide)) (by decide) rfl ?_
           refine jg_goto (tgt := 5) dX12_runOf_55 (by decide) ?_
           refine jg_fg (L' := [some (.ref r), some (.int l1), some (.int l3), some (.int (l3 + nI 2))]) (by repeat (first | exact trivial | refine ⟨rfl, ?_⟩ | show jg_le _ _)) ?_
           exact ih l3 (l3 + nI 2) h
noncomputable def o_X12_runOf (F : Nat) (s : rs_S) (a1 : Int32) : Option (Int32) := (o_X12_runOf_5 F a1 s F (-1) (nI 99)).bind fun x9 => (if 0 ≤ x9 then (if iL (x9 + (nI 1)) 22216 then (some (gW s (x9 + (nI 1)))) else none) else (some (nI 0)))
set_option maxHeartbeats 4000000 in
theorem t_X12_runOf {Γ : jg_G} {g : Nat → jg_C} {n r : Nat} (hr : r + 11 ≤ n) (F : Nat) (s : rs_S) (a1 : Int32) {x : Int32} (h : o_X12_runOf F s a1 = some x) : jc Γ mX12_runOf 0 0 0 [some (.ref r), some (.int a1), none, none] (rs_h g r s, n) (.inl (some (.int x))) (rs_h g r s, n) := by
  refine jc_of ?_
  rw [o_X12_runOf] at h
  refine jg_iconst (v := (-1)) dX12_runOf_0 (by decide) ?_
  refine jg_istore_n (L' := [some (.ref r), some (.int a1), some (.int (-1)), none]) dX12_runOf_1 (by decide) rfl ?_
  refine jg_bipush (v := nI 99) dX12_runOf_2 (by decide) ?_
  refine jg_istore_n (L' := [some (.ref r), some (.int a1), some (.int (-1)), some (.int (nI 99))]) dX12_runOf_4 (by decide) rfl ?_
  obtain ⟨x9, e_x9, h⟩ := bd_some h
  refine jg_fg (L' := [some (.ref r), some (.int a1), some (.int (-1)), some (.int (nI 99))]) (by repeat (first | exact trivial | refine ⟨rfl, ?_⟩ | show jg_le _ _)) ?_
  refine t_X12_runOf_5 hr F a1 s _ (x := x9) ?_ F (-1) (nI 99) e_x9
  refine jg_iload_n dX12_runOf_58 rfl ?_
  refine jg_if_ge (x := x9) (tgt := 66) dX12_runOf_59 (by decide) (fun c10 => ?_) (fun c10 => ?_)
  · replace h := it_t c10 h
    refine jg_aload_n dX12_runOf_66 rfl ?_
    refine rs_ga fl_X12_13 dX12_runOf_67 hr rfl ?_
    refine jg_iload_n dX12_runOf_70 rfl ?_
    refine jg_iconst (v := nI 1) dX12_runOf_71 (by decide) ?_
    refine jg_iadd (x := x9) (y := (nI 1)) dX12_runOf_72  ?_
    obtain ⟨q11, h⟩ := gd_some h
    refine rs_lwD (s := s) (i := (x9 + (nI 1))) dX12_runOf_73 hr q11 ?_
    obtain rfl := Option.some.inj h
    exact jg_ireturn dX12_runOf_74 rfl ⟨rfl, rfl⟩
  · replace h := it_f c10 h
    refine jg_iconst (v := nI 0) dX12_runOf_62 (by decide) ?_
    refine jg_goto (tgt := 74) dX12_runOf_63 (by decide) ?_
    obtain rfl := Option.some.inj h
    exact jg_ireturn dX12_runOf_74 rfl ⟨rfl, rfl⟩
theorem dX12_knownOf_0 : decode cX12_knownOf 0 = .ok (.iconst (-1), 1) := by decide +kernel
theorem dX12_knownOf_1 : decode cX12_knownOf 1 = .ok (.istore_n 3, 1) := by decide +kernel
theorem dX12_knownOf_2 : decode cX12_knownOf 2 = .ok (.sipush 199, 3) := by decide +kernel
theorem dX12_knownOf_5 : decode cX12_knownOf 5 = .ok (.istore 4, 2) := by decide +kernel
theorem dX12_knownOf_7 : decode cX12_knownOf 7 = .ok (.iload 4, 2) := by decide +kernel
theorem dX12_knownOf_9 : decode cX12_knownOf 9 = .ok (.sipush 199, 3) := by decide +kernel
theorem dX12_knownOf_12 : decode cX12_knownOf 12 = .ok (.iconst 4, 1) := by decide +kernel
theorem dX12_knownOf_13 : decode cX12_knownOf 13 = .ok (.aload_n 0, 1) := by decide +kernel
theorem dX12_knownOf_14 : decode cX12_knownOf 14 = .ok (.getfield 13, 3) := by decide +kernel
theorem dX12_knownOf_17 : decode cX12_knownOf 17 = .ok (.sipush 198, 3) := by decide +kernel
theorem dX12_knownOf_20 : decode cX12_knownOf 20 = .ok (.iaload, 1) := by decide +kernel
theorem dX12_knownOf_21 : decode cX12_knownOf 21 = .ok (.imul, 1) := by decide +kernel
theorem dX12_knownOf_22 : decode cX12_knownOf 22 = .ok (.iadd, 1) := by decide +kernel
theorem dX12_knownOf_23 : decode cX12_knownOf 23 = .ok (.if_icmp .ge 63, 3) := by decide +kernel
theorem dX12_knownOf_26 : decode cX12_knownOf 26 = .ok (.aload_n 0, 1) := by decide +kernel
theorem dX12_knownOf_27 : decode cX12_knownOf 27 = .ok (.getfield 13, 3) := by decide +kernel
theorem dX12_knownOf_30 : decode cX12_knownOf 30 = .ok (.iload 4, 2) := by decide +kernel
theorem dX12_knownOf_32 : decode cX12_knownOf 32 = .ok (.iaload, 1) := by decide +kernel
theorem dX12_knownOf_33 : decode cX12_knownOf 33 = .ok (.iload_n 1, 1) := by decide +kernel
theorem dX12_knownOf_34 : decode cX12_knownOf 34 = .ok (.if_icmp .ne 46, 3) := by decide +kernel
theorem dX12_knownOf_37 : decode cX12_knownOf 37 = .ok (.aload_n 0, 1) := by decide +kernel
theorem dX12_knownOf_38 : decode cX12_knownOf 38 = .ok (.getfield 13, 3) := by decide +kernel
theorem dX12_knownOf_41 : decode cX12_knownOf 41 = .ok (.iload 4, 2) := by decide +kernel
theorem dX12_knownOf_43 : decode cX12_knownOf 43 = .ok (.iconst 3, 1) := by decide +kernel
theorem dX12_knownOf_44 : decode cX12_knownOf 44 = .ok (.iadd, 1) := by decide +kernel
theorem dX12_knownOf_45 : decode cX12_knownOf 45 = .ok (.iaload, 1) := by decide +kernel
theorem dX12_knownOf_46 : decode cX12_knownOf 46 = .ok (.iload_n 2, 1) := by decide +kernel
theorem dX12_knownOf_47 : decode cX12_knownOf 47 = .ok (.if_icmp .le 6, 3) := by decide +kernel
theorem dX12_knownOf_50 : decode cX12_knownOf 50 = .ok (.goto 30, 3) := by decide +kernel
theorem dX12_knownOf_53 : decode cX12_knownOf 53 = .ok (.iload_n 3, 1) := by decide +kernel
theorem dX12_knownOf_54 : decode cX12_knownOf 54 = .ok (.ifCond .lt 23, 3) := by decide +kernel
theorem dX12_knownOf_57 : decode cX12_knownOf 57 = .ok (.aload_n 0, 1) := by decide +kernel
theorem dX12_knownOf_58 : decode cX12_knownOf 58 = .ok (.getfield 13, 3) := by decide +kernel
theorem dX12_knownOf_61 : decode cX12_knownOf 61 = .ok (.iload 4, 2) := by decide +kernel
theorem dX12_knownOf_63 : decode cX12_knownOf 63 = .ok (.iconst 1, 1) := by decide +kernel
theorem dX12_knownOf_64 : decode cX12_knownOf 64 = .ok (.iadd, 1) := by decide +kernel
theorem dX12_knownOf_65 : decode cX12_knownOf 65 = .ok (.iaload, 1) := by decide +kernel
theorem dX12_knownOf_66 : decode cX12_knownOf 66 = .ok (.aload_n 0, 1) := by decide +kernel
theorem dX12_knownOf_67 : decode cX12_knownOf 67 = .ok (.getfield 13, 3) := by decide +kernel
theorem dX12_knownOf_70 : decode cX12_knownOf 70 = .ok (.iload_n 3, 1) := by decide +kernel
theorem dX12_knownOf_71 : decode cX12_knownOf 71 = .ok (.iconst 1, 1) := by decide +kernel
theorem dX12_knownOf_72 : decode cX12_knownOf 72 = .ok (.iadd, 1) := by decide +kernel
theorem dX12_knownOf_73 : decode cX12_knownOf 73 = .ok (.iaload, 1) := by decide +kernel
theorem dX12_knownOf_74 : decode cX12_knownOf 74 = .ok (.if_icmp .lt 6, 3) := by decide +kernel
theorem dX12_knownOf_77 : decode cX12_knownOf 77 = .ok (.iload 4, 2) := by decide +kernel
theorem dX12_knownOf_79 : decode cX12_knownOf 79 = .ok (.istore_n 3, 1) := by decide +kernel
theorem dX12_knownOf_80 : decode cX12_knownOf 80 = .ok (.iinc 4 4, 3) := by decide +kernel
theorem dX12_knownOf_83 : decode cX12_knownOf 83 = .ok (.goto (-76), 3) := by decide +kernel
theorem dX12_knownOf_86 : decode cX12_knownOf 86 = .ok (.iload_n 3, 1) := by decide +kernel
theorem dX12_knownOf_87 : decode cX12_knownOf 87 = .ok (.ifCond .ge 15, 3) := by decide +kernel
theorem dX12_knownOf_90 : decode cX12_knownOf 90 = .ok (.aload_n 0, 1) := by decide +kernel
theorem dX12_knownOf_91 : decode cX12_knownOf 91 = .ok (.getfield 13, 3) := by decide +kernel
theorem dX12_knownOf_94 : decode cX12_knownOf 94 = .ok (.bipush 25, 2) := by decide +kernel
theorem dX12_knownOf_96 : decode cX12_knownOf 96 = .ok (.iload_n 1, 1) := by decide +kernel
theorem dX12_knownOf_97 : decode cX12_knownOf 97 = .ok (.iadd, 1) := by decide +kernel
theorem dX12_knownOf_98 : decode cX12_knownOf 98 = .ok (.iaload, 1) := by decide +kernel
theorem dX12_knownOf_99 : decode cX12_knownOf 99 = .ok (.goto 11, 3) := by decide +kernel
theorem dX12_knownOf_102 : decode cX12_knownOf 102 = .ok (.aload_n 0, 1) := by decide +kernel
theorem dX12_knownOf_103 : decode cX12_knownOf 103 = .ok (.getfield 13, 3) := by decide +kernel
theorem dX12_knownOf_106 : decode cX12_knownOf 106 = .ok (.iload_n 3, 1) := by decide +kernel
theorem dX12_knownOf_107 : decode cX12_knownOf 107 = .ok (.iconst 2, 1) := by decide +kernel
theorem dX12_knownOf_108 : decode cX12_knownOf 108 = .ok (.iadd, 1) := by decide +kernel
theorem dX12_knownOf_109 : decode cX12_knownOf 109 = .ok (.iaload, 1) := by decide +kernel
theorem dX12_knownOf_110 : decode cX12_knownOf 110 = .ok (.ireturn, 1) := by decide +kernel
noncomputable def o_X12_knownOf_7 (F : Nat) (l1 : Int32) (l2 : Int32) (s : rs_S) : Nat → Int32 → Int32 → Option (Int32)
  | 0, _, _ => none
  | f + 1, l3, l4 => if iL (nI 198) 22216 then (if ((nI 199) + ((nI 4) * (gW s (nI 198)))) ≤ l4 then (some l3) else (if iL l4 22216 then (if (gW s l4) = l1 then (if iL (l4 + (nI 3)) 22216 then (if (gW s (l4 + (nI 3))) ≤ l2 then (if l3 < 0 then (o_X12_knownOf_7 F l1 l2 s f l4 (l4 + nI 4)) else (if iL (l4 + (nI 1)) 22216 then (if iL (l3 + (nI 1)) 22216 then (if (gW s (l4 + (nI 1))) < (gW s (l3 + (nI 1))) then (o_X12_knownOf_7 F l1 l2 s f l3 (l4 + nI 4)) else (o_X12_knownOf_7 F l1 l2 s f l4 (l4 + nI 4))) else none) else none)) else (o_X12_knownOf_7 F l1 l2 s f l3 (l4 + nI 4))) else none) else (o_X12_knownOf_7 F l1 l2 s f l3 (l4 + nI 4))) else none)) else none
set_option maxHeartbeats 4000000 in
theorem t_X12_knownOf_7 {Γ : jg_G} {g : Nat → jg_C} {n r : Nat} (hr : r + 11 ≤ n) (F : Nat) (l1 : Int32) (l2 : Int32) (s : rs_S) (Q : jg_Q) {x : Int32} (K1 : jg Γ mX12_knownOf 0 0 0 86 [some (.ref r), some (.int l1), none, some (.int x), none] [] (rs_h g r s, n) Q)  : ∀ (f : Nat) (l3 : Int32) (l4 : Int32), o_X12_knownOf_7 F l1 l2 s f l3 l4 = some x → jg Γ mX12_knownOf 0 0 0 7 [some (.ref r), some (.int l1), some (.int l2), some (.int l3), some (.int l4)] [] (rs_h g r s, n) Q := by
  intro f
  induction f with
  | zero => intro l3 l4 h; rw [o_X12_knownOf_7] at h; cases h
  | succ f ih =>
   intro l3 l4 h
   rw [o_X12_knownOf_7] at h
   refine jg_iload dX12_knownOf_7 rfl ?_
   refine jg_sipush (v := nI 199) dX12_knownOf_9 (by decide) ?_
   refine jg_iconst (v := nI 4) dX12_knownOf_12 (by decide) ?_
   refine jg_aload_n dX12_knownOf_13 rfl ?_
   refine rs_ga fl_X12_13 dX12_knownOf_14 hr rfl ?_
   refine jg_sipush (v := nI 198) dX12_knownOf_17 (by decide) ?_
   obtain ⟨q1, h⟩ := gd_some h
   refine rs_lwD (s := s) (i := (nI 198)) dX12_knownOf_20 hr q1 ?_
   refine jg_imul (x := (nI 4)) (y := (gW s (nI 198))) dX12_knownOf_21  ?_
   refine jg_iadd (x := (nI 199)) (y := ((nI 4) * (gW s (nI 198)))) dX12_knownOf_22  ?_
   refine jg_icmp_ge (x := l4) (y := ((nI 199) + ((nI 4) * (gW s (nI 198))))) (tgt := 86) dX12_knownOf_23 (by decide) (fun c2 => ?_) (fun c2 => ?_)
   · replace h := it_t c2 h
     refine jg_fg (L' := [some (.ref r), some (.int l1), none, some (.int l3), none]) (by repeat (first | exact trivial | refine ⟨rfl, ?_⟩ | show jg_le _ _)) ?_
     obtain rfl := Option.some.inj h
     exact K1
   · replace h := it_f c2 h
     refine jg_aload_n dX12_knownOf_26 rfl ?_
     refine rs_ga fl_X12_13 dX12_knownOf_27 hr rfl ?_
     refine jg_iload dX12_knownOf_30 rfl ?_
     obtain ⟨q3, h⟩ := gd_some h
     refine rs_lwD (s := s) (i := l4) dX12_knownOf_32 hr q3 ?_
     refine jg_iload_n dX12_knownOf_33 rfl ?_
     refine jg_icmp_ne (x := (gW s l4)) (y := l1) (tgt := 80) dX12_knownOf_34 (by decide) (fun c4 => ?_) (fun c4 => ?_)
     · replace h := it_f c4 h
       refine jg_iinc (x := l4) (v := l4 + nI 4) (L' := [some (.ref r), some (.int l1), some (.int l2), some (.int l3), some (.int (l4 + nI 4))]) dX12_knownOf_80 rfl (ic_k _ (by decide)) (by decide) rfl ?_
       refine jg_goto (tgt := 7) dX12_knownOf_83 (by decide) ?_
       refine jg_fg (L' := [some (.ref r), some (.int l1), some (.int l2), some (.int l3), some (.int (l4 + nI 4))]) (by repeat (first | exact trivial | refine ⟨rfl, ?_⟩ | show jg_le _ _)) ?_
       exact ih l3 (l4 + nI 4) h
     · replace h := it_t c4 h
       refine jg_aload_n dX12_knownOf_37 rfl ?_
       refine rs_ga fl_X12_13 dX12_knownOf_38 hr rfl ?_
       refine jg_iload dX12_knownOf_41 rfl ?_
       refine jg_iconst (v := nI 3) dX12_knownOf_43 (by decide) ?_
       refine jg_iadd (x := l4) (y := (nI 3)) dX12_knownOf_44  ?_
       obtain ⟨q5, h⟩ := gd_some h
       refine rs_lwD (s := s) (i := (l4 + (nI 3))) dX12_knownOf_45 hr q5 ?_
       refine jg_iload_n dX12_knownOf_46 rfl ?_
       refine jg_icmp_le (x := (gW s (l4 + (nI 3)))) (y := l2) (tgt := 53) dX12_knownOf_47 (by decide) (fun c6 => ?_) (fun c6 => ?_)
       · replace h := it_t c6 h
         refine jg_iload_n dX12_knownOf_53 rfl ?_
         refine jg_if_lt (x := l3) (tgt := 77) dX12_knownOf_54 (by decide) (fun c7 => ?_) (fun c7 => ?_)
         · replace h := it_t c7 h
           refine jg_iload dX12_knownOf_77 rfl ?_
           refine jg_istore_n (L' := [some (.ref r), some (.int l1), some (.int l2), some (.int l4), some (.int l4)]) dX12_knownOf_79 (by decide) rfl ?_
           refine jg_iinc (x := l4) (v := l4 + nI 4) (L' := [some (.ref r), some (.int l1), some (.int l2), some (.int l4), some (.int (l4 + nI 4))]) dX12_knownOf_80 rfl (ic_k _ (by decide)) (by decide) rfl ?_
           refine jg_goto (tgt := 7) dX12_knownOf_83 (by decide) ?_
           refine jg_fg (L' := [some (.ref r), some (.int l1), some (.int l2), some (.int l4), some (.int (l4 + nI 4))]) (by repeat (first | exact trivial | refine ⟨rfl, ?_⟩ | show jg_le _ _)) ?_
           exact ih l4 (l4 + nI 4) h
         · replace h := it_f c7 h
           refine jg_aload_n dX12_knownOf_57 rfl ?_
           refine rs_ga fl_X12_13 dX12_knownOf_58 hr rfl ?_
           refine jg_iload dX12_knownOf_61 rfl ?_
           refine jg_iconst (v := nI 1) dX12_knownOf_63 (by decide) ?_
           refine jg_iadd (x := l4) (y := (nI 1)) dX12_knownOf_64  ?_
           obtain ⟨q8, h⟩ := gd_some h
           refine rs_lwD (s := s) (i := (l4 + (nI 1))) dX12_knownOf_65 hr q8 ?_
           refine jg_aload_n dX12_knownOf_66 rfl ?_
           refine rs_ga fl_X12_13 dX12_knownOf_67 hr rfl ?_
           refine jg_iload_n dX12_knownOf_70 rfl ?_
           refine jg_iconst (v := nI 1) dX12_knownOf_71 (by decide) ?_
           refine jg_iadd (x := l3) (y := (nI 1)) dX12_knownOf_72  ?_
           obtain ⟨q9, h⟩ := gd_some h
           refine rs_lwD (s := s) (i := (l3 + (nI 1))) dX12_knownOf_73 hr q9 ?_
           refine jg_icmp_lt (x := (gW s (l4 + (nI 1)))) (y := (gW s (l3 + (nI 1)))) (tgt := 80) dX12_knownOf_74 (by decide) (fun c10 => ?_) (fun c10 => ?_)
           · replace h := it_t c10 h
             refine jg_iinc (x := l4) (v := l4 + nI 4) (L' := [some (.ref r), some (.int l1), some (.int l2), some (.int l3), some (.int (l4 + nI 4))]) dX12_knownOf_80 rfl (ic_k _ (by decide)) (by decide) rfl ?_
             refine jg_goto (tgt := 7) dX12_knownOf_83 (by decide) ?_
             refine jg_fg (L' := [some (.ref r), some (.int l1), some (.int l2), some (.int l3), some (.int (l4 + nI 4))]) (by repeat (first | exact trivial | refine ⟨rfl, ?_⟩ | show jg_le _ _)) ?_
             exact ih l3 (l4 + nI 4) h
           · replace h := it_f c10 h
             refine jg_iload dX12_knownOf_77 rfl ?_
             refine jg_istore_n (L' := [some (.ref r), some (.int l1), some (.int l2), some (.int l4), some (.int l4)]) dX12_knownOf_79 (by decide) rfl ?_
             refine jg_iinc (x := l4) (v := l4 + nI 4) (L' := [some (.ref r), some (.int l1), some (.int l2), some (.int l4), some (.int (l4 + nI 4))]) dX12_knownOf_80 rfl (ic_k _ (by decide)) (by decide) rfl ?_
             refine jg_goto (tgt := 7) dX12_knownOf_83 (by decide) ?_
             refine jg_fg (L' := [some (.ref r), some (.int l1), some (.int l2), some (.int l4), some (.int (l4 + nI 4))]) (by repeat (first | exact trivial | refine ⟨rfl, ?_⟩ | show jg_le _ _)) ?_
             exact ih l4 (l4 + nI 4) h
       · replace h := it_f c6 h
         refine jg_goto (tgt := 80) dX12_knownOf_50 (by decide) ?_
         refine jg_iinc (x := l4) (v := l4 + nI 4) (L' := [some (.ref r), some (.int l1), some (.int l2), some (.int l3), some (.int (l4 + nI 4))]) dX12_knownOf_80 rfl (ic_k _ (by decide)) (by decide) rfl ?_
         refine jg_goto (tgt := 7) dX12_knownOf_83 (by decide) ?_
         refine jg_fg (L' := [some (.ref r), some (.int l1), some (.int l2), some (.int l3), some (.int (l4 + nI 4))]) (by repeat (first | exact trivial | refine ⟨rfl, ?_⟩ | show jg_le _ _)) ?_
         exact ih l3 (l4 + nI 4) h
noncomputable def o_X12_knownOf (F : Nat) (s : rs_S) (a1 : Int32) (a2 : Int32) : Option (Int32) := (o_X12_knownOf_7 F a1 a2 s F (-1) (nI 199)).bind fun x11 => (if 0 ≤ x11 then (if iL (x11 + (nI 2)) 22216 then (some (gW s (x11 + (nI 2)))) else none) else (if iL ((nI 25) + a1) 22216 then (some (gW s ((nI 25) + a1))) else none))
set_option maxHeartbeats 4000000 in
theorem t_X12_knownOf {Γ : jg_G} {g : Nat → jg_C} {n r : Nat} (hr : r + 11 ≤ n) (F : Nat) (s : rs_S) (a1 : Int32) (a2 : Int32) {x : Int32} (h : o_X12_knownOf F s a1 a2 = some x) : jc Γ mX12_knownOf 0 0 0 [some (.ref r), some (.int a1), some (.int a2), none, none] (rs_h g r s, n) (.inl (some (.int x))) (rs_h g r s, n) := by
  refine jc_of ?_
  rw [o_X12_knownOf] at h
  refine jg_iconst (v := (-1)) dX12_knownOf_0 (by decide) ?_
  refine jg_istore_n (L' := [some (.ref r), some (.int a1), some (.int a2), some (.int (-1)), none]) dX12_knownOf_1 (by decide) rfl ?_
  refine jg_sipush (v := nI 199) dX12_knownOf_2 (by decide) ?_
  refine jg_istore (L' := [some (.ref r), some (.int a1), some (.int a2), some (.int (-1)), some (.int (nI 199))]) dX12_knownOf_5 (by decide) rfl ?_
  obtain ⟨x11, e_x11, h⟩ := bd_some h
  refine jg_fg (L' := [some (.ref r), some (.int a1), some (.int a2), some (.int (-1)), some (.int (nI 199))]) (by repeat (first | exact trivial | refine ⟨rfl, ?_⟩ | show jg_le _ _)) ?_
  refine t_X12_knownOf_7 hr F a1 a2 s _ (x := x11) ?_ F (-1) (nI 199) e_x11
  refine jg_iload_n dX12_knownOf_86 rfl ?_
  refine jg_if_ge (x := x11) (tgt := 102) dX12_knownOf_87 (by decide) (fun c12 => ?_) (fun c12 => ?_)
  · replace h := it_t c12 h
    refine jg_aload_n dX12_knownOf_102 rfl ?_
    refine rs_ga fl_X12_13 dX12_knownOf_103 hr rfl ?_
    refine jg_iload_n dX12_knownOf_106 rfl ?_
    refine jg_iconst (v := nI 2) dX12_knownOf_107 (by decide) ?_
    refine jg_iadd (x := x11) (y := (nI 2)) dX12_knownOf_108  ?_
    obtain ⟨q13, h⟩ := gd_some h
    refine rs_lwD (s := s) (i := (x11 + (nI 2))) dX12_knownOf_109 hr q13 ?_
    obtain rfl := Option.some.inj h
    exact jg_ireturn dX12_knownOf_110 rfl ⟨rfl, rfl⟩
  · replace h := it_f c12 h
    refine jg_aload_n dX12_knownOf_90 rfl ?_
    refine rs_ga fl_X12_13 dX12_knownOf_91 hr rfl ?_
    refine jg_bipush (v := nI 25) dX12_knownOf_94 (by decide) ?_
    refine jg_iload_n dX12_knownOf_96 rfl ?_
    refine jg_iadd (x := (nI 25)) (y := a1) dX12_knownOf_97  ?_
    obtain ⟨q14, h⟩ := gd_some h
    refine rs_lwD (s := s) (i := ((nI 25) + a1)) dX12_knownOf_98 hr q14 ?_
    refine jg_goto (tgt := 110) dX12_knownOf_99 (by decide) ?_
    obtain rfl := Option.some.inj h
    exact jg_ireturn dX12_knownOf_110 rfl ⟨rfl, rfl⟩
theorem dX12_actOf_0 : decode cX12_actOf 0 = .ok (.iconst (-1), 1) := by decide +kernel
theorem dX12_actOf_1 : decode cX12_actOf 1 = .ok (.istore_n 2, 1) := by decide +kernel
theorem dX12_actOf_2 : decode cX12_actOf 2 = .ok (.iconst 0, 1) := by decide +kernel
theorem dX12_actOf_3 : decode cX12_actOf 3 = .ok (.istore_n 3, 1) := by decide +kernel
theorem dX12_actOf_4 : decode cX12_actOf 4 = .ok (.iload_n 3, 1) := by decide +kernel
theorem dX12_actOf_5 : decode cX12_actOf 5 = .ok (.aload_n 0, 1) := by decide +kernel
theorem dX12_actOf_6 : decode cX12_actOf 6 = .ok (.getfield 13, 3) := by decide +kernel
theorem dX12_actOf_9 : decode cX12_actOf 9 = .ok (.sipush 2811, 3) := by decide +kernel
theorem dX12_actOf_12 : decode cX12_actOf 12 = .ok (.iaload, 1) := by decide +kernel
theorem dX12_actOf_13 : decode cX12_actOf 13 = .ok (.if_icmp .ge 49, 3) := by decide +kernel
theorem dX12_actOf_16 : decode cX12_actOf 16 = .ok (.aload_n 0, 1) := by decide +kernel
theorem dX12_actOf_17 : decode cX12_actOf 17 = .ok (.getfield 13, 3) := by decide +kernel
theorem dX12_actOf_20 : decode cX12_actOf 20 = .ok (.iload_n 3, 1) := by decide +kernel
theorem dX12_actOf_21 : decode cX12_actOf 21 = .ok (.invokestatic 242, 3) := by decide +kernel
theorem dX12_actOf_24 : decode cX12_actOf 24 = .ok (.iaload, 1) := by decide +kernel
theorem dX12_actOf_25 : decode cX12_actOf 25 = .ok (.iload_n 1, 1) := by decide +kernel
theorem dX12_actOf_26 : decode cX12_actOf 26 = .ok (.if_icmp .gt 30, 3) := by decide +kernel
theorem dX12_actOf_29 : decode cX12_actOf 29 = .ok (.iload_n 2, 1) := by decide +kernel
theorem dX12_actOf_30 : decode cX12_actOf 30 = .ok (.ifCond .lt 24, 3) := by decide +kernel
theorem dX12_actOf_33 : decode cX12_actOf 33 = .ok (.aload_n 0, 1) := by decide +kernel
theorem dX12_actOf_34 : decode cX12_actOf 34 = .ok (.getfield 13, 3) := by decide +kernel
theorem dX12_actOf_37 : decode cX12_actOf 37 = .ok (.iload_n 3, 1) := by decide +kernel
theorem dX12_actOf_38 : decode cX12_actOf 38 = .ok (.invokestatic 242, 3) := by decide +kernel
theorem dX12_actOf_41 : decode cX12_actOf 41 = .ok (.iaload, 1) := by decide +kernel
theorem dX12_actOf_42 : decode cX12_actOf 42 = .ok (.aload_n 0, 1) := by decide +kernel
theorem dX12_actOf_43 : decode cX12_actOf 43 = .ok (.getfield 13, 3) := by decide +kernel
theorem dX12_actOf_46 : decode cX12_actOf 46 = .ok (.iload_n 2, 1) := by decide +kernel
theorem dX12_actOf_47 : decode cX12_actOf 47 = .ok (.invokestatic 242, 3) := by decide +kernel
theorem dX12_actOf_50 : decode cX12_actOf 50 = .ok (.iaload, 1) := by decide +kernel
theorem dX12_actOf_51 : decode cX12_actOf 51 = .ok (.if_icmp .lt 5, 3) := by decide +kernel
theorem dX12_actOf_54 : decode cX12_actOf 54 = .ok (.iload_n 3, 1) := by decide +kernel
theorem dX12_actOf_55 : decode cX12_actOf 55 = .ok (.istore_n 2, 1) := by decide +kernel
theorem dX12_actOf_56 : decode cX12_actOf 56 = .ok (.iinc 3 1, 3) := by decide +kernel
theorem dX12_actOf_59 : decode cX12_actOf 59 = .ok (.goto (-55), 3) := by decide +kernel
theorem dX12_actOf_62 : decode cX12_actOf 62 = .ok (.iload_n 2, 1) := by decide +kernel
theorem dX12_actOf_63 : decode cX12_actOf 63 = .ok (.ireturn, 1) := by decide +kernel
noncomputable def o_X12_actOf_4 (F : Nat) (l1 : Int32) (s : rs_S) : Nat → Int32 → Int32 → Option (Int32)
  | 0, _, _ => none
  | f + 1, l2, l3 => if iL (nI 2811) 22216 then (if (gW s (nI 2811)) ≤ l3 then (some l2) else ((o_X12_actAt s l3).bind fun x3 => (if iL x3 22216 then (if l1 < (gW s x3) then (o_X12_actOf_4 F l1 s f l2 (l3 + nI 1)) else (if l2 < 0 then (o_X12_actOf_4 F l1 s f l3 (l3 + nI 1)) else ((o_X12_actAt s l3).bind fun x7 => (if iL x7 22216 then ((o_X12_actAt s l2).bind fun x9 => (if iL x9 22216 then (if (gW s x7) < (gW s x9) then (o_X12_actOf_4 F l1 s f l2 (l3 + nI 1)) else (o_X12_actOf_4 F l1 s f l3 (l3 + nI 1))) else none)) else none)))) else none))) else none
set_option maxHeartbeats 4000000 in
theorem t_X12_actOf_4 {Γ : jg_G} {g : Nat → jg_C} {n r : Nat} (hr : r + 11 ≤ n) (F : Nat) (l1 : Int32) (s : rs_S) (Q : jg_Q) {x : Int32} (K1 : jg Γ mX12_actOf 1 0 0 62 [none, none, some (.int x), none] [] (rs_h g r s, n) Q)  : ∀ (f : Nat) (l2 : Int32) (l3 : Int32), o_X12_actOf_4 F l1 s f l2 l3 = some x → jg Γ mX12_actOf 1 0 0 4 [some (.ref r), some (.int l1), some (.int l2), some (.int l3)] [] (rs_h g r s, n) Q := by
  intro f
  induction f with
  | zero => intro l2 l3 h; rw [o_X12_actOf_4] at h; cases h
  | succ f ih =>
   intro l2 l3 h
   rw [o_X12_actOf_4] at h
   refine jg_iload_n dX12_actOf_4 rfl ?_
   refine jg_aload_n dX12_actOf_5 rfl ?_
   refine rs_ga fl_X12_13 dX12_actOf_6 hr rfl ?_
   refine jg_sipush (v := nI 2811) dX12_actOf_9 (by decide) ?_
   obtain ⟨q1, h⟩ := gd_some h
   refine rs_lwD (s := s) (i := (nI 2811)) dX12_actOf_12 hr q1 ?_
   refine jg_icmp_ge (x := l3) (y := (gW s (nI 2811))) (tgt := 62) dX12_actOf_13 (by decide) (fun c2 => ?_) (fun c2 => ?_)
   · replace h := it_t c2 h
     refine jg_fg (L' := [none, none, some (.int l2), none]) (by repeat (first | exact trivial | refine ⟨rfl, ?_⟩ | show jg_le _ _)) ?_
     obtain rfl := Option.some.inj h
     exact K1
   · replace h := it_f c2 h
     refine jg_aload_n dX12_actOf_16 rfl ?_
     refine rs_ga fl_X12_13 dX12_actOf_17 hr rfl ?_
     refine jg_iload_n dX12_actOf_20 rfl ?_
     obtain ⟨x3, e_x3, h⟩ := bd_some h
     refine rs_callS (As := [.int l3]) ks_X12_242 dX12_actOf_21 rfl (by decide) (Nat.le_of_ble_eq_true rfl) rfl (by decide) (Nat.le_of_ble_eq_true rfl) (t_X12_actAt hr s l3 e_x3) ?_
     obtain ⟨q4, h⟩ := gd_some h
     refine rs_lwD (s := s) (i := x3) dX12_actOf_24 hr q4 ?_
     refine jg_iload_n dX12_actOf_25 rfl ?_
     refine jg_icmp_gt (x := (gW s x3)) (y := l1) (tgt := 56) dX12_actOf_26 (by decide) (fun c5 => ?_) (fun c5 => ?_)
     · replace h := it_t c5 h
       refine jg_iinc (x := l3) (v := l3 + nI 1) (L' := [some (.ref r), some (.int l1), some (.int l2), some (.int (l3 + nI 1))]) dX12_actOf_56 rfl (ic_k _ (by decide)) (by decide) rfl ?_
       refine jg_goto (tgt := 4) dX12_actOf_59 (by decide) ?_
       refine jg_fg (L' := [some (.ref r), some (.int l1), some (.int l2), some (.int (l3 + nI 1))]) (by repeat (first | exact trivial | refine ⟨rfl, ?_⟩ | show jg_le _ _)) ?_
       exact ih l2 (l3 + nI 1) h
     · replace h := it_f c5 h
       refine jg_iload_n dX12_actOf_29 rfl ?_
       refine jg_if_lt (x := l2) (tgt := 54) dX12_actOf_30 (by decide) (fun c6 => ?_) (fun c6 => ?_)
       · replace h := it_t c6 h
         refine jg_iload_n dX12_actOf_54 rfl ?_
         refine jg_istore_n (L' := [some (.ref r), some (.int l1), some (.int l3), some (.int l3)]) dX12_actOf_55 (by decide) rfl ?_
         refine jg_iinc (x := l3) (v := l3 + nI 1) (L' := [some (.ref r), some (.int l1), some (.int l3), some (.int (l3 + nI 1))]) dX12_actOf_56 rfl (ic_k _ (by decide)) (by decide) rfl ?_
         refine jg_goto (tgt := 4) dX12_actOf_59 (by decide) ?_
         refine jg_fg (L' := [some (.ref r), some (.int l1), some (.int l3), some (.int (l3 + nI 1))]) (by repeat (first | exact trivial | refine ⟨rfl, ?_⟩ | show jg_le _ _)) ?_
         exact ih l3 (l3 + nI 1) h
       · replace h := it_f c6 h
         refine jg_aload_n dX12_actOf_33 rfl ?_
         refine rs_ga fl_X12_13 dX12_actOf_34 hr rfl ?_
         refine jg_iload_n dX12_actOf_37 rfl ?_
         obtain ⟨x7, e_x7, h⟩ := bd_some h
         refine rs_callS (As := [.int l3]) ks_X12_242 dX12_actOf_38 rfl (by decide) (Nat.le_of_ble_eq_true rfl) rfl (by decide) (Nat.le_of_ble_eq_true rfl) (t_X12_actAt hr s l3 e_x7) ?_
         obtain ⟨q8, h⟩ := gd_some h
         refine rs_lwD (s := s) (i := x7) dX12_actOf_41 hr q8 ?_
         refine jg_aload_n dX12_actOf_42 rfl ?_
         refine rs_ga fl_X12_13 dX12_actOf_43 hr rfl ?_
         refine jg_iload_n dX12_actOf_46 rfl ?_
         obtain ⟨x9, e_x9, h⟩ := bd_some h
         refine rs_callS (As := [.int l2]) ks_X12_242 dX12_actOf_47 rfl (by decide) (Nat.le_of_ble_eq_true rfl) rfl (by decide) (Nat.le_of_ble_eq_true rfl) (t_X12_actAt hr s l2 e_x9) ?_
         obtain ⟨q10, h⟩ := gd_some h
         refine rs_lwD (s := s) (i := x9) dX12_actOf_50 hr q10 ?_
         refine jg_icmp_lt (x := (gW s x7)) (y := (gW s x9)) (tgt := 56) dX12_actOf_51 (by decide) (fun c11 => ?_) (fun c11 => ?_)
         · replace h := it_t c11 h
           refine jg_iinc (x := l3) (v := l3 + nI 1) (L' := [some (.ref r), some (.int l1), some (.int l2), some (.int (l3 + nI 1))]) dX12_actOf_56 rfl (ic_k _ (by decide)) (by decide) rfl ?_
           refine jg_goto (tgt := 4) dX12_actOf_59 (by decide) ?_
           refine jg_fg (L' := [some (.ref r), some (.int l1), some (.int l2), some (.int (l3 + nI 1))]) (by repeat (first | exact trivial | refine ⟨rfl, ?_⟩ | show jg_le _ _)) ?_
           exact ih l2 (l3 + nI 1) h
         · replace h := it_f c11 h
           refine jg_iload_n dX12_actOf_54 rfl ?_
           refine jg_istore_n (L' := [some (.ref r), some (.int l1), some (.int l3), some (.int l3)]) dX12_actOf_55 (by decide) rfl ?_
           refine jg_iinc (x := l3) (v := l3 + nI 1) (L' := [some (.ref r), some (.int l1), some (.int l3), some (.int (l3 + nI 1))]) dX12_actOf_56 rfl (ic_k _ (by decide)) (by decide) rfl ?_
           refine jg_goto (tgt := 4) dX12_actOf_59 (by decide) ?_
           refine jg_fg (L' := [some (.ref r), some (.int l1), some (.int l3), some (.int (l3 + nI 1))]) (by repeat (first | exact trivial | refine ⟨rfl, ?_⟩ | show jg_le _ _)) ?_
           exact ih l3 (l3 + nI 1) h
noncomputable def o_X12_actOf (F : Nat) (s : rs_S) (a1 : Int32) : Option (Int32) := (o_X12_actOf_4 F a1 s F (-1) (nI 0)).bind fun x12 => (some x12)
set_option maxHeartbeats 4000000 in
theorem t_X12_actOf {Γ : jg_G} {g : Nat → jg_C} {n r : Nat} (hr : r + 11 ≤ n) (F : Nat) (s : rs_S) (a1 : Int32) {x : Int32} (h : o_X12_actOf F s a1 = some x) : jc Γ mX12_actOf 1 0 0 [some (.ref r), some (.int a1), none, none] (rs_h g r s, n) (.inl (some (.int x))) (rs_h g r s, n) := by
  refine jc_of ?_
  rw [o_X12_actOf] at h
  refine jg_iconst (v := (-1)) dX12_actOf_0 (by decide) ?_
  refine jg_istore_n (L' := [some (.ref r), some (.int a1), some (.int (-1)), none]) dX12_actOf_1 (by decide) rfl ?_
  refine jg_iconst (v := nI 0) dX12_actOf_2 (by decide) ?_
  refine jg_istore_n (L' := [some (.ref r), some (.int a1), some (.int (-1)), some (.int (nI 0))]) dX12_actOf_3 (by decide) rfl ?_
  obtain ⟨x12, e_x12, h⟩ := bd_some h
  refine jg_fg (L' := [some (.ref r), some (.int a1), some (.int (-1)), some (.int (nI 0))]) (by repeat (first | exact trivial | refine ⟨rfl, ?_⟩ | show jg_le _ _)) ?_
  refine t_X12_actOf_4 hr F a1 s _ (x := x12) ?_ F (-1) (nI 0) e_x12
  refine jg_iload_n dX12_actOf_62 rfl ?_
  obtain rfl := Option.some.inj h
  exact jg_ireturn dX12_actOf_63 rfl ⟨rfl, rfl⟩
theorem dX12_linesOf_0 : decode cX12_linesOf 0 = .ok (.iload_n 1, 1) := by decide +kernel
theorem dX12_linesOf_1 : decode cX12_linesOf 1 = .ok (.ifCond .ge 7, 3) := by decide +kernel
theorem dX12_linesOf_4 : decode cX12_linesOf 4 = .ok (.iconst 0, 1) := by decide +kernel
theorem dX12_linesOf_5 : decode cX12_linesOf 5 = .ok (.goto 14, 3) := by decide +kernel
theorem dX12_linesOf_8 : decode cX12_linesOf 8 = .ok (.aload_n 0, 1) := by decide +kernel
theorem dX12_linesOf_9 : decode cX12_linesOf 9 = .ok (.getfield 13, 3) := by decide +kernel
theorem dX12_linesOf_12 : decode cX12_linesOf 12 = .ok (.iload_n 1, 1) := by decide +kernel
theorem dX12_linesOf_13 : decode cX12_linesOf 13 = .ok (.invokestatic 242, 3) := by decide +kernel
theorem dX12_linesOf_16 : decode cX12_linesOf 16 = .ok (.iconst 1, 1) := by decide +kernel
theorem dX12_linesOf_17 : decode cX12_linesOf 17 = .ok (.iadd, 1) := by decide +kernel
theorem dX12_linesOf_18 : decode cX12_linesOf 18 = .ok (.iaload, 1) := by decide +kernel
theorem dX12_linesOf_19 : decode cX12_linesOf 19 = .ok (.ireturn, 1) := by decide +kernel
noncomputable def o_X12_linesOf (s : rs_S) (a1 : Int32) : Option (Int32) := if 0 ≤ a1 then ((o_X12_actAt s a1).bind fun x2 => (if iL (x2 + (nI 1)) 22216 then (some (gW s (x2 + (nI 1)))) else none)) else (some (nI 0))
set_option maxHeartbeats 4000000 in
theorem t_X12_linesOf {Γ : jg_G} {g : Nat → jg_C} {n r : Nat} (hr : r + 11 ≤ n) (s : rs_S) (a1 : Int32) {x : Int32} (h : o_X12_linesOf s a1 = some x) : jc Γ mX12_linesOf 1 0 0 [some (.ref r), some (.int a1)] (rs_h g r s, n) (.inl (some (.int x))) (rs_h g r s, n) := by
  refine jc_of ?_
  rw [o_X12_linesOf] at h
  refine jg_iload_n dX12_linesOf_0 rfl ?_
  refine jg_if_ge (x := a1) (tgt := 8) dX12_linesOf_1 (by decide) (fun c1 => ?_) (fun c1 => ?_)
  · replace h := it_t c1 h
    refine jg_aload_n dX12_linesOf_8 rfl ?_
    refine rs_ga fl_X12_13 dX12_linesOf_9 hr rfl ?_
    refine jg_iload_n dX12_linesOf_12 rfl ?_
    obtain ⟨x2, e_x2, h⟩ := bd_some h
    refine rs_callS (As := [.int a1]) ks_X12_242 dX12_linesOf_13 rfl (by decide) (Nat.le_of_ble_eq_true rfl) rfl (by decide) (Nat.le_of_ble_eq_true rfl) (t_X12_actAt hr s a1 e_x2) ?_
    refine jg_iconst (v := nI 1) dX12_linesOf_16 (by decide) ?_
    refine jg_iadd (x := x2) (y := (nI 1)) dX12_linesOf_17  ?_
    obtain ⟨q3, h⟩ := gd_some h
    refine rs_lwD (s := s) (i := (x2 + (nI 1))) dX12_linesOf_18 hr q3 ?_
    obtain rfl := Option.some.inj h
    exact jg_ireturn dX12_linesOf_19 rfl ⟨rfl, rfl⟩
  · replace h := it_f c1 h
    refine jg_iconst (v := nI 0) dX12_linesOf_4 (by decide) ?_
    refine jg_goto (tgt := 19) dX12_linesOf_5 (by decide) ?_
    obtain rfl := Option.some.inj h
    exact jg_ireturn dX12_linesOf_19 rfl ⟨rfl, rfl⟩
