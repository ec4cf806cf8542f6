/-! THE REFERENCE: small methods (by program wip/whole/ref1.py) -/
theorem dX12_in_0 : decode cX12_in 0 = .ok (.iload_n 0, 1) := by decide +kernel
theorem dX12_in_1 : decode cX12_in 1 = .ok (.iload_n 1, 1) := by decide +kernel
theorem dX12_in_2 : decode cX12_in 2 = .ok (.if_icmp .lt 12, 3) := by decide +kernel
theorem dX12_in_5 : decode cX12_in 5 = .ok (.iload_n 0, 1) := by decide +kernel
theorem dX12_in_6 : decode cX12_in 6 = .ok (.iload_n 2, 1) := by decide +kernel
theorem dX12_in_7 : decode cX12_in 7 = .ok (.if_icmp .gt 7, 3) := by decide +kernel
theorem dX12_in_10 : decode cX12_in 10 = .ok (.iconst 1, 1) := by decide +kernel
theorem dX12_in_11 : decode cX12_in 11 = .ok (.goto 4, 3) := by decide +kernel
theorem dX12_in_14 : decode cX12_in 14 = .ok (.iconst 0, 1) := by decide +kernel
theorem dX12_in_15 : decode cX12_in 15 = .ok (.ireturn, 1) := by decide +kernel
theorem r_in_t {Γ : jg_G} {h : jg_H} (v lo hi : Int32) (hp : lo ≤ v ∧ v ≤ hi) : jc Γ mX12_in 0 0 0 [some (.int (v)), some (.int (lo)), some (.int (hi))] h (.inl (some (.int (nI 1)))) h := by
  refine jc_of ?_
  refine jg_iload_n dX12_in_0 rfl ?_
  refine jg_iload_n dX12_in_1 rfl ?_
  refine jg_icmp_lt (x := (v)) (y := (lo)) (tgt := 14) dX12_in_2 (by decide) (fun c_1 => ?_) (fun c_1 => ?_)
  · skip
    exact absurd c_1 (Int32.not_lt.mpr hp.1)
  · skip
    refine jg_iload_n dX12_in_5 rfl ?_
    refine jg_iload_n dX12_in_6 rfl ?_
    refine jg_icmp_gt (x := (v)) (y := (hi)) (tgt := 14) dX12_in_7 (by decide) (fun c_2 => ?_) (fun c_2 => ?_)
    · skip
      exact absurd c_2 (Int32.not_lt.mpr hp.2)
    · skip
      refine jn_iconst (k := 1) dX12_in_10 (by decide) ?_
      refine jg_goto (tgt := 15) dX12_in_11 (by decide) ?_
      exact jg_zreturn dX12_in_15 rfl (rfl) ⟨rfl, rfl⟩
theorem r_in_f {Γ : jg_G} {h : jg_H} (v lo hi : Int32) (hp : ¬ (lo ≤ v ∧ v ≤ hi)) : jc Γ mX12_in 0 0 0 [some (.int (v)), some (.int (lo)), some (.int (hi))] h (.inl (some (.int (nI 0)))) h := by
  refine jc_of ?_
  refine jg_iload_n dX12_in_0 rfl ?_
  refine jg_iload_n dX12_in_1 rfl ?_
  refine jg_icmp_lt (x := (v)) (y := (lo)) (tgt := 14) dX12_in_2 (by decide) (fun c_1 => ?_) (fun c_1 => ?_)
  · skip
    refine jn_iconst (k := 0) dX12_in_14 (by decide) ?_
    exact jg_zreturn dX12_in_15 rfl (rfl) ⟨rfl, rfl⟩
  · skip
    refine jg_iload_n dX12_in_5 rfl ?_
    refine jg_iload_n dX12_in_6 rfl ?_
    refine jg_icmp_gt (x := (v)) (y := (hi)) (tgt := 14) dX12_in_7 (by decide) (fun c_2 => ?_) (fun c_2 => ?_)
    · skip
      refine jn_iconst (k := 0) dX12_in_14 (by decide) ?_
      exact jg_zreturn dX12_in_15 rfl (rfl) ⟨rfl, rfl⟩
    · skip
      exact absurd ⟨Int32.not_lt.mp c_1, Int32.not_lt.mp c_2⟩ hp
theorem dX12_thrown_0 : decode cX12_thrown 0 = .ok (.aload_n 0, 1) := by decide +kernel
theorem dX12_thrown_1 : decode cX12_thrown 1 = .ok (.getfield 3, 3) := by decide +kernel
theorem dX12_thrown_4 : decode cX12_thrown 4 = .ok (.ireturn, 1) := by decide +kernel
set_option maxHeartbeats 1000000 in
theorem r_thrown {Γ : jg_G} {g : Nat → jg_C} {n r : Nat} (hr : r + 11 ≤ n) (s : rs_S)   : jc Γ mX12_thrown 0 0 0 [some (.ref (r))] (rs_h g r s, n) (.inl (some (.int (s.1 0)))) (rs_h g r s, n) := by
  refine jc_of ?_
  refine jg_aload_n dX12_thrown_0 rfl ?_
  refine rs_ga fl_X12_3 dX12_thrown_1 hr rfl ?_
  exact jg_ireturn dX12_thrown_4 rfl ⟨rfl, rfl⟩
theorem dX12_hour_0 : decode cX12_hour 0 = .ok (.aload_n 0, 1) := by decide +kernel
theorem dX12_hour_1 : decode cX12_hour 1 = .ok (.getfield 13, 3) := by decide +kernel
theorem dX12_hour_4 : decode cX12_hour 4 = .ok (.iconst 0, 1) := by decide +kernel
theorem dX12_hour_5 : decode cX12_hour 5 = .ok (.iaload, 1) := by decide +kernel
theorem dX12_hour_6 : decode cX12_hour 6 = .ok (.ireturn, 1) := by decide +kernel
set_option maxHeartbeats 1000000 in
theorem r_hour {Γ : jg_G} {g : Nat → jg_C} {n r : Nat} (hr : r + 11 ≤ n) (s : rs_S) (x : Int32) (hx : s.2.1 0 = x) : jc Γ mX12_hour 0 0 0 [some (.ref (r))] (rs_h g r s, n) (.inl (some (.int (x)))) (rs_h g r s, n) := by
  refine jc_of ?_
  refine jg_aload_n dX12_hour_0 rfl ?_
  refine rs_ga fl_X12_13 dX12_hour_1 hr rfl ?_
  refine jn_iconst (k := 0) dX12_hour_4 (by decide) ?_
  refine rs_lwN (i := 0) (x := (x)) (hx) dX12_hour_5 hr (by omega) ?_
  exact jg_ireturn dX12_hour_6 rfl ⟨rfl, rfl⟩
theorem dX12_throwsIf_0 : decode cX12_throwsIf 0 = .ok (.iload_n 1, 1) := by decide +kernel
theorem dX12_throwsIf_1 : decode cX12_throwsIf 1 = .ok (.ifCond .eq 8, 3) := by decide +kernel
theorem dX12_throwsIf_4 : decode cX12_throwsIf 4 = .ok (.aload_n 0, 1) := by decide +kernel
theorem dX12_throwsIf_5 : decode cX12_throwsIf 5 = .ok (.iload_n 2, 1) := by decide +kernel
theorem dX12_throwsIf_6 : decode cX12_throwsIf 6 = .ok (.putfield 3, 3) := by decide +kernel
theorem dX12_throwsIf_9 : decode cX12_throwsIf 9 = .ok (.iload_n 1, 1) := by decide +kernel
theorem dX12_throwsIf_10 : decode cX12_throwsIf 10 = .ok (.ireturn, 1) := by decide +kernel
set_option maxHeartbeats 1000000 in
theorem r_thr1 {Γ : jg_G} {g : Nat → jg_C} {n r : Nat} (hr : r + 11 ≤ n) (s : rs_S) (k : Nat)  : jc Γ mX12_throwsIf 0 0 0 [some (.ref (r)), some (.int (nI (1))), some (.int (nI (k)))] (rs_h g r s, n) (.inl (some (.int (nI (1))))) (rs_h g r (va_up s.1 0 (nI k), s.2.1, s.2.2), n) := by
  refine jc_of ?_
  refine jg_iload_n dX12_throwsIf_0 rfl ?_
  refine jn_if_eq (x := 1) (tgt := 9) dX12_throwsIf_1 (by decide) (by omega) (fun q9 => absurd q9 (by decide)) (fun _ => ?_)
  refine jg_aload_n dX12_throwsIf_4 rfl ?_
  refine jg_iload_n dX12_throwsIf_5 rfl ?_
  refine rs_put (x := (nI (k))) (i' := va_up (s.1) 0 (nI (k))) fl_X12_3 dX12_throwsIf_6 hr (by decide) (rfl) rfl rfl ?_
  refine jg_iload_n dX12_throwsIf_9 rfl ?_
  exact jg_zreturn dX12_throwsIf_10 rfl (rfl) ⟨rfl, rfl⟩
set_option maxHeartbeats 1000000 in
theorem r_thr0 {Γ : jg_G} {g : Nat → jg_C} {n r : Nat} (hr : r + 11 ≤ n) (s : rs_S) (k : Nat)  : jc Γ mX12_throwsIf 0 0 0 [some (.ref (r)), some (.int (nI (0))), some (.int (nI (k)))] (rs_h g r s, n) (.inl (some (.int (nI (0))))) (rs_h g r s, n) := by
  refine jc_of ?_
  refine jg_iload_n dX12_throwsIf_0 rfl ?_
  refine jn_if_eq (x := 0) (tgt := 9) dX12_throwsIf_1 (by decide) (by omega) (fun _ => ?_) (fun q9 => absurd q9 (by decide))
  refine jg_iload_n dX12_throwsIf_9 rfl ?_
  exact jg_zreturn dX12_throwsIf_10 rfl (rfl) ⟨rfl, rfl⟩
theorem dX12_today_0 : decode cX12_today 0 = .ok (.aload_n 0, 1) := by decide +kernel
theorem dX12_today_1 : decode cX12_today 1 = .ok (.getfield 13, 3) := by decide +kernel
theorem dX12_today_4 : decode cX12_today 4 = .ok (.iconst 0, 1) := by decide +kernel
theorem dX12_today_5 : decode cX12_today 5 = .ok (.iaload, 1) := by decide +kernel
theorem dX12_today_6 : decode cX12_today 6 = .ok (.bipush 24, 2) := by decide +kernel
theorem dX12_today_8 : decode cX12_today 8 = .ok (.idiv, 1) := by decide +kernel
theorem dX12_today_9 : decode cX12_today 9 = .ok (.ireturn, 1) := by decide +kernel
set_option maxHeartbeats 1000000 in
theorem r_today {Γ : jg_G} {g : Nat → jg_C} {n r : Nat} (hr : r + 11 ≤ n) (s : rs_S) (h : Nat) (hx : s.2.1 0 = nI h) (hh : h < 2 ^ 31) : jc Γ mX12_today 0 0 0 [some (.ref (r))] (rs_h g r s, n) (.inl (some (.int (nI (h / 24))))) (rs_h g r s, n) := by
  refine jc_of ?_
  refine jg_aload_n dX12_today_0 rfl ?_
  refine rs_ga fl_X12_13 dX12_today_1 hr rfl ?_
  refine jn_iconst (k := 0) dX12_today_4 (by decide) ?_
  refine rs_lwN (i := 0) (x := (nI (h))) (hx) dX12_today_5 hr (by omega) ?_
  refine jn_bipush (k := 24) dX12_today_6 (by decide) ?_
  refine jn_idiv (x := h) (y := 24) dX12_today_8 (by omega) (by decide) (by decide) ?_
  exact jg_ireturn dX12_today_9 rfl ⟨rfl, rfl⟩
theorem dX12_year_0 : decode cX12_year 0 = .ok (.aload_n 0, 1) := by decide +kernel
theorem dX12_year_1 : decode cX12_year 1 = .ok (.getfield 13, 3) := by decide +kernel
theorem dX12_year_4 : decode cX12_year 4 = .ok (.iconst 0, 1) := by decide +kernel
theorem dX12_year_5 : decode cX12_year 5 = .ok (.iaload, 1) := by decide +kernel
theorem dX12_year_6 : decode cX12_year 6 = .ok (.sipush 2400, 3) := by decide +kernel
theorem dX12_year_9 : decode cX12_year 9 = .ok (.idiv, 1) := by decide +kernel
theorem dX12_year_10 : decode cX12_year 10 = .ok (.ireturn, 1) := by decide +kernel
set_option maxHeartbeats 1000000 in
theorem r_year {Γ : jg_G} {g : Nat → jg_C} {n r : Nat} (hr : r + 11 ≤ n) (s : rs_S) (h : Nat) (hx : s.2.1 0 = nI h) (hh : h < 2 ^ 31) : jc Γ mX12_year 0 0 0 [some (.ref (r))] (rs_h g r s, n) (.inl (some (.int (nI (h / 2400))))) (rs_h g r s, n) := by
  refine jc_of ?_
  refine jg_aload_n dX12_year_0 rfl ?_
  refine rs_ga fl_X12_13 dX12_year_1 hr rfl ?_
  refine jn_iconst (k := 0) dX12_year_4 (by decide) ?_
  refine rs_lwN (i := 0) (x := (nI (h))) (hx) dX12_year_5 hr (by omega) ?_
  refine jn_sipush (k := 2400) dX12_year_6 (by decide) ?_
  refine jn_idiv (x := h) (y := 2400) dX12_year_9 (by omega) (by decide) (by decide) ?_
  exact jg_ireturn dX12_year_10 rfl ⟨rfl, rfl⟩
theorem dX12_noCell_0 : decode cX12_noCell 0 = .ok (.iload_n 0, 1) := by decide +kernel
theorem dX12_noCell_1 : decode cX12_noCell 1 = .ok (.iconst 0, 1) := by decide +kernel
theorem dX12_noCell_2 : decode cX12_noCell 2 = .ok (.bipush 23, 2) := by decide +kernel
theorem dX12_noCell_4 : decode cX12_noCell 4 = .ok (.invokestatic 49, 3) := by decide +kernel
theorem dX12_noCell_7 : decode cX12_noCell 7 = .ok (.ifCond .ne 7, 3) := by decide +kernel
theorem dX12_noCell_10 : decode cX12_noCell 10 = .ok (.iconst 1, 1) := by decide +kernel
theorem dX12_noCell_11 : decode cX12_noCell 11 = .ok (.goto 4, 3) := by decide +kernel
theorem dX12_noCell_14 : decode cX12_noCell 14 = .ok (.iconst 0, 1) := by decide +kernel
theorem dX12_noCell_15 : decode cX12_noCell 15 = .ok (.ireturn, 1) := by decide +kernel
theorem r_noCell_f {Γ : jg_G} {h : jg_H} (c : Int32) (hp : nI 0 ≤ c ∧ c ≤ nI 23) : jc Γ mX12_noCell 1 0 0 [some (.int (c))] h (.inl (some (.int (nI 0)))) h := by
  refine jc_of ?_
  refine jg_iload_n dX12_noCell_0 rfl ?_
  refine jn_iconst (k := 0) dX12_noCell_1 (by decide) ?_
  refine jn_bipush (k := 23) dX12_noCell_2 (by decide) ?_
  refine jcs0 (As := [.int (c), .int (nI (0)), .int (nI (23))]) ks_X12_49 dX12_noCell_4 rfl (by decide) (Nat.le_of_ble_eq_true rfl) rfl (by decide) (Nat.le_of_ble_eq_true rfl) (r_in_t c (nI 0) (nI 23) hp) ?_
  refine jn_if_ne (x := 1) (tgt := 14) dX12_noCell_7 (by decide) (by omega) (fun _ => ?_) (fun q9 => absurd q9 (by decide))
  refine jn_iconst (k := 0) dX12_noCell_14 (by decide) ?_
  exact jg_zreturn dX12_noCell_15 rfl (rfl) ⟨rfl, rfl⟩
theorem r_noCell_t {Γ : jg_G} {h : jg_H} (c : Int32) (hp : ¬ (nI 0 ≤ c ∧ c ≤ nI 23)) : jc Γ mX12_noCell 1 0 0 [some (.int (c))] h (.inl (some (.int (nI 1)))) h := by
  refine jc_of ?_
  refine jg_iload_n dX12_noCell_0 rfl ?_
  refine jn_iconst (k := 0) dX12_noCell_1 (by decide) ?_
  refine jn_bipush (k := 23) dX12_noCell_2 (by decide) ?_
  refine jcs0 (As := [.int (c), .int (nI (0)), .int (nI (23))]) ks_X12_49 dX12_noCell_4 rfl (by decide) (Nat.le_of_ble_eq_true rfl) rfl (by decide) (Nat.le_of_ble_eq_true rfl) (r_in_f c (nI 0) (nI 23) hp) ?_
  refine jn_if_ne (x := 0) (tgt := 14) dX12_noCell_7 (by decide) (by omega) (fun q9 => absurd q9 (by decide)) (fun _ => ?_)
  refine jn_iconst (k := 1) dX12_noCell_10 (by decide) ?_
  refine jg_goto (tgt := 15) dX12_noCell_11 (by decide) ?_
  exact jg_zreturn dX12_noCell_15 rfl (rfl) ⟨rfl, rfl⟩
theorem dX12_tideOf_0 : decode cX12_tideOf 0 = .ok (.aload_n 0, 1) := by decide +kernel
theorem dX12_tideOf_1 : decode cX12_tideOf 1 = .ok (.getfield 13, 3) := by decide +kernel
theorem dX12_tideOf_4 : decode cX12_tideOf 4 = .ok (.bipush 73, 2) := by decide +kernel
theorem dX12_tideOf_6 : decode cX12_tideOf 6 = .ok (.iload_n 1, 1) := by decide +kernel
theorem dX12_tideOf_7 : decode cX12_tideOf 7 = .ok (.bipush 25, 2) := by decide +kernel
theorem dX12_tideOf_9 : decode cX12_tideOf 9 = .ok (.irem, 1) := by decide +kernel
theorem dX12_tideOf_10 : decode cX12_tideOf 10 = .ok (.iadd, 1) := by decide +kernel
theorem dX12_tideOf_11 : decode cX12_tideOf 11 = .ok (.iaload, 1) := by decide +kernel
theorem dX12_tideOf_12 : decode cX12_tideOf 12 = .ok (.ireturn, 1) := by decide +kernel
set_option maxHeartbeats 1000000 in
theorem r_tideOf {Γ : jg_G} {g : Nat → jg_C} {n r : Nat} (hr : r + 11 ≤ n) (s : rs_S) (t : Nat) (ht : t < 2 ^ 31) : jc Γ mX12_tideOf 0 0 0 [some (.ref (r)), some (.int (nI (t)))] (rs_h g r s, n) (.inl (some (.int (s.2.1 (73 + (t) % (25)))))) (rs_h g r s, n) := by
  refine jc_of ?_
  refine jg_aload_n dX12_tideOf_0 rfl ?_
  refine rs_ga fl_X12_13 dX12_tideOf_1 hr rfl ?_
  refine jn_bipush (k := 73) dX12_tideOf_4 (by decide) ?_
  refine jg_iload_n dX12_tideOf_6 rfl ?_
  refine jn_bipush (k := 25) dX12_tideOf_7 (by decide) ?_
  refine jn_irem (x := t) (y := 25) dX12_tideOf_9 (by omega) (by decide) (by decide) ?_
  refine jn_iadd (x := 73) (y := (t) % (25)) dX12_tideOf_10  ?_
  refine rs_lw (i := 73 + (t) % (25)) dX12_tideOf_11 hr (by omega) ?_
  exact jg_ireturn dX12_tideOf_12 rfl ⟨rfl, rfl⟩
theorem dX12_berthAt_0 : decode cX12_berthAt 0 = .ok (.sipush 1000, 3) := by decide +kernel
theorem dX12_berthAt_3 : decode cX12_berthAt 3 = .ok (.bipush 8, 2) := by decide +kernel
theorem dX12_berthAt_5 : decode cX12_berthAt 5 = .ok (.iload_n 0, 1) := by decide +kernel
theorem dX12_berthAt_6 : decode cX12_berthAt 6 = .ok (.imul, 1) := by decide +kernel
theorem dX12_berthAt_7 : decode cX12_berthAt 7 = .ok (.iadd, 1) := by decide +kernel
theorem dX12_berthAt_8 : decode cX12_berthAt 8 = .ok (.iload_n 1, 1) := by decide +kernel
theorem dX12_berthAt_9 : decode cX12_berthAt 9 = .ok (.iadd, 1) := by decide +kernel
theorem dX12_berthAt_10 : decode cX12_berthAt 10 = .ok (.ireturn, 1) := by decide +kernel
theorem r_berthAt {Γ : jg_G} {h : jg_H} (k j : Nat)  : jc Γ mX12_berthAt 0 0 0 [some (.int (nI (k))), some (.int (nI (j)))] h (.inl (some (.int (nI (1000 + (8) * (k) + j))))) h := by
  refine jc_of ?_
  refine jn_sipush (k := 1000) dX12_berthAt_0 (by decide) ?_
  refine jn_bipush (k := 8) dX12_berthAt_3 (by decide) ?_
  refine jg_iload_n dX12_berthAt_5 rfl ?_
  refine jn_imul (x := 8) (y := k) dX12_berthAt_6  ?_
  refine jn_iadd (x := 1000) (y := (8) * (k)) dX12_berthAt_7  ?_
  refine jg_iload_n dX12_berthAt_8 rfl ?_
  refine jn_iadd (x := 1000 + (8) * (k)) (y := j) dX12_berthAt_9  ?_
  exact jg_ireturn dX12_berthAt_10 rfl ⟨rfl, rfl⟩
theorem dX12_payerAt_0 : decode cX12_payerAt 0 = .ok (.sipush 1091, 3) := by decide +kernel
theorem dX12_payerAt_3 : decode cX12_payerAt 3 = .ok (.iconst 4, 1) := by decide +kernel
theorem dX12_payerAt_4 : decode cX12_payerAt 4 = .ok (.iload_n 0, 1) := by decide +kernel
theorem dX12_payerAt_5 : decode cX12_payerAt 5 = .ok (.imul, 1) := by decide +kernel
theorem dX12_payerAt_6 : decode cX12_payerAt 6 = .ok (.iadd, 1) := by decide +kernel
theorem dX12_payerAt_7 : decode cX12_payerAt 7 = .ok (.iload_n 1, 1) := by decide +kernel
theorem dX12_payerAt_8 : decode cX12_payerAt 8 = .ok (.iadd, 1) := by decide +kernel
theorem dX12_payerAt_9 : decode cX12_payerAt 9 = .ok (.ireturn, 1) := by decide +kernel
theorem r_payerAt {Γ : jg_G} {h : jg_H} (k j : Nat)  : jc Γ mX12_payerAt 0 0 0 [some (.int (nI (k))), some (.int (nI (j)))] h (.inl (some (.int (nI (1091 + (4) * (k) + j))))) h := by
  refine jc_of ?_
  refine jn_sipush (k := 1091) dX12_payerAt_0 (by decide) ?_
  refine jn_iconst (k := 4) dX12_payerAt_3 (by decide) ?_
  refine jg_iload_n dX12_payerAt_4 rfl ?_
  refine jn_imul (x := 4) (y := k) dX12_payerAt_5  ?_
  refine jn_iadd (x := 1091) (y := (4) * (k)) dX12_payerAt_6  ?_
  refine jg_iload_n dX12_payerAt_7 rfl ?_
  refine jn_iadd (x := 1091 + (4) * (k)) (y := j) dX12_payerAt_8  ?_
  exact jg_ireturn dX12_payerAt_9 rfl ⟨rfl, rfl⟩
theorem dX12_shipAt_0 : decode cX12_shipAt 0 = .ok (.sipush 1212, 3) := by decide +kernel
theorem dX12_shipAt_3 : decode cX12_shipAt 3 = .ok (.bipush 18, 2) := by decide +kernel
theorem dX12_shipAt_5 : decode cX12_shipAt 5 = .ok (.iload_n 0, 1) := by decide +kernel
theorem dX12_shipAt_6 : decode cX12_shipAt 6 = .ok (.imul, 1) := by decide +kernel
theorem dX12_shipAt_7 : decode cX12_shipAt 7 = .ok (.iadd, 1) := by decide +kernel
theorem dX12_shipAt_8 : decode cX12_shipAt 8 = .ok (.iload_n 1, 1) := by decide +kernel
theorem dX12_shipAt_9 : decode cX12_shipAt 9 = .ok (.iadd, 1) := by decide +kernel
theorem dX12_shipAt_10 : decode cX12_shipAt 10 = .ok (.ireturn, 1) := by decide +kernel
theorem r_shipAt {Γ : jg_G} {h : jg_H} (k j : Nat)  : jc Γ mX12_shipAt 0 0 0 [some (.int (nI (k))), some (.int (nI (j)))] h (.inl (some (.int (nI (1212 + (18) * (k) + j))))) h := by
  refine jc_of ?_
  refine jn_sipush (k := 1212) dX12_shipAt_0 (by decide) ?_
  refine jn_bipush (k := 18) dX12_shipAt_3 (by decide) ?_
  refine jg_iload_n dX12_shipAt_5 rfl ?_
  refine jn_imul (x := 18) (y := k) dX12_shipAt_6  ?_
  refine jn_iadd (x := 1212) (y := (18) * (k)) dX12_shipAt_7  ?_
  refine jg_iload_n dX12_shipAt_8 rfl ?_
  refine jn_iadd (x := 1212 + (18) * (k)) (y := j) dX12_shipAt_9  ?_
  exact jg_ireturn dX12_shipAt_10 rfl ⟨rfl, rfl⟩
theorem dX12_bondAt_0 : decode cX12_bondAt 0 = .ok (.sipush 2666, 3) := by decide +kernel
theorem dX12_bondAt_3 : decode cX12_bondAt 3 = .ok (.bipush 6, 2) := by decide +kernel
theorem dX12_bondAt_5 : decode cX12_bondAt 5 = .ok (.iload_n 0, 1) := by decide +kernel
theorem dX12_bondAt_6 : decode cX12_bondAt 6 = .ok (.imul, 1) := by decide +kernel
theorem dX12_bondAt_7 : decode cX12_bondAt 7 = .ok (.iadd, 1) := by decide +kernel
theorem dX12_bondAt_8 : decode cX12_bondAt 8 = .ok (.iload_n 1, 1) := by decide +kernel
theorem dX12_bondAt_9 : decode cX12_bondAt 9 = .ok (.iadd, 1) := by decide +kernel
theorem dX12_bondAt_10 : decode cX12_bondAt 10 = .ok (.ireturn, 1) := by decide +kernel
theorem r_bondAt {Γ : jg_G} {h : jg_H} (k j : Nat)  : jc Γ mX12_bondAt 0 0 0 [some (.int (nI (k))), some (.int (nI (j)))] h (.inl (some (.int (nI (2666 + (6) * (k) + j))))) h := by
  refine jc_of ?_
  refine jn_sipush (k := 2666) dX12_bondAt_0 (by decide) ?_
  refine jn_bipush (k := 6) dX12_bondAt_3 (by decide) ?_
  refine jg_iload_n dX12_bondAt_5 rfl ?_
  refine jn_imul (x := 6) (y := k) dX12_bondAt_6  ?_
  refine jn_iadd (x := 2666) (y := (6) * (k)) dX12_bondAt_7  ?_
  refine jg_iload_n dX12_bondAt_8 rfl ?_
  refine jn_iadd (x := 2666 + (6) * (k)) (y := j) dX12_bondAt_9  ?_
  exact jg_ireturn dX12_bondAt_10 rfl ⟨rfl, rfl⟩
theorem dX12_actAt_0 : decode cX12_actAt 0 = .ok (.sipush 2812, 3) := by decide +kernel
theorem dX12_actAt_3 : decode cX12_actAt 3 = .ok (.sipush 882, 3) := by decide +kernel
theorem dX12_actAt_6 : decode cX12_actAt 6 = .ok (.iload_n 0, 1) := by decide +kernel
theorem dX12_actAt_7 : decode cX12_actAt 7 = .ok (.imul, 1) := by decide +kernel
theorem dX12_actAt_8 : decode cX12_actAt 8 = .ok (.iadd, 1) := by decide +kernel
theorem dX12_actAt_9 : decode cX12_actAt 9 = .ok (.ireturn, 1) := by decide +kernel
theorem r_actAt {Γ : jg_G} {h : jg_H} (k : Nat)  : jc Γ mX12_actAt 0 0 0 [some (.int (nI (k)))] h (.inl (some (.int (nI (2812 + (882) * (k)))))) h := by
  refine jc_of ?_
  refine jn_sipush (k := 2812) dX12_actAt_0 (by decide) ?_
  refine jn_sipush (k := 882) dX12_actAt_3 (by decide) ?_
  refine jg_iload_n dX12_actAt_6 rfl ?_
  refine jn_imul (x := 882) (y := k) dX12_actAt_7  ?_
  refine jn_iadd (x := 2812) (y := (882) * (k)) dX12_actAt_8  ?_
  exact jg_ireturn dX12_actAt_9 rfl ⟨rfl, rfl⟩
theorem dX12_hourAt_0 : decode cX12_hourAt 0 = .ok (.iload_n 0, 1) := by decide +kernel
theorem dX12_hourAt_1 : decode cX12_hourAt 1 = .ok (.iload_n 3, 1) := by decide +kernel
theorem dX12_hourAt_2 : decode cX12_hourAt 2 = .ok (.ifCond .eq 9, 3) := by decide +kernel
theorem dX12_hourAt_11 : decode cX12_hourAt 11 = .ok (.iload_n 1, 1) := by decide +kernel
theorem dX12_hourAt_12 : decode cX12_hourAt 12 = .ok (.bipush 6, 2) := by decide +kernel
theorem dX12_hourAt_14 : decode cX12_hourAt 14 = .ok (.idiv, 1) := by decide +kernel
theorem dX12_hourAt_15 : decode cX12_hourAt 15 = .ok (.iadd, 1) := by decide +kernel
theorem dX12_hourAt_16 : decode cX12_hourAt 16 = .ok (.ireturn, 1) := by decide +kernel
theorem r_hourAt0 {Γ : jg_G} {h : jg_H} (t c q : Nat) (hc : c < 2 ^ 31) : jc Γ mX12_hourAt 0 0 0 [some (.int (nI (t))), some (.int (nI (c))), some (.int (nI (q))), some (.int (nI (0)))] h (.inl (some (.int (nI (t + (c) / (6)))))) h := by
  refine jc_of ?_
  refine jg_iload_n dX12_hourAt_0 rfl ?_
  refine jg_iload_n dX12_hourAt_1 rfl ?_
  refine jn_if_eq (x := 0) (tgt := 11) dX12_hourAt_2 (by decide) (by omega) (fun _ => ?_) (fun q9 => absurd q9 (by decide))
  refine jg_iload_n dX12_hourAt_11 rfl ?_
  refine jn_bipush (k := 6) dX12_hourAt_12 (by decide) ?_
  refine jn_idiv (x := c) (y := 6) dX12_hourAt_14 (by omega) (by decide) (by decide) ?_
  refine jn_iadd (x := t) (y := (c) / (6)) dX12_hourAt_15  ?_
  exact jg_ireturn dX12_hourAt_16 rfl ⟨rfl, rfl⟩
theorem dX12_hourAt_5 : decode cX12_hourAt 5 = .ok (.iload_n 2, 1) := by decide +kernel
theorem dX12_hourAt_6 : decode cX12_hourAt 6 = .ok (.iload_n 1, 1) := by decide +kernel
theorem dX12_hourAt_7 : decode cX12_hourAt 7 = .ok (.isub, 1) := by decide +kernel
theorem dX12_hourAt_8 : decode cX12_hourAt 8 = .ok (.goto 4, 3) := by decide +kernel
theorem r_hourAt1 {Γ : jg_G} {h : jg_H} (t c q : Nat) (hc : c ≤ q) (hq : q < 2 ^ 31) : jc Γ mX12_hourAt 0 0 0 [some (.int (nI (t))), some (.int (nI (c))), some (.int (nI (q))), some (.int (nI (1)))] h (.inl (some (.int (nI (t + ((q) - (c)) / (6)))))) h := by
  refine jc_of ?_
  refine jg_iload_n dX12_hourAt_0 rfl ?_
  refine jg_iload_n dX12_hourAt_1 rfl ?_
  refine jn_if_eq (x := 1) (tgt := 11) dX12_hourAt_2 (by decide) (by omega) (fun q9 => absurd q9 (by decide)) (fun _ => ?_)
  refine jg_iload_n dX12_hourAt_5 rfl ?_
  refine jg_iload_n dX12_hourAt_6 rfl ?_
  refine jn_isub (x := q) (y := c) dX12_hourAt_7 (by omega) ?_
  refine jg_goto (tgt := 12) dX12_hourAt_8 (by decide) ?_
  refine jn_bipush (k := 6) dX12_hourAt_12 (by decide) ?_
  refine jn_idiv (x := (q) - (c)) (y := 6) dX12_hourAt_14 (by omega) (by decide) (by decide) ?_
  refine jn_iadd (x := t) (y := ((q) - (c)) / (6)) dX12_hourAt_15  ?_
  exact jg_ireturn dX12_hourAt_16 rfl ⟨rfl, rfl⟩
theorem dX12_berthOf_0 : decode cX12_berthOf 0 = .ok (.aload_n 0, 1) := by decide +kernel
theorem dX12_berthOf_1 : decode cX12_berthOf 1 = .ok (.getfield 13, 3) := by decide +kernel
theorem dX12_berthOf_4 : decode cX12_berthOf 4 = .ok (.iload_n 1, 1) := by decide +kernel
theorem dX12_berthOf_5 : decode cX12_berthOf 5 = .ok (.iload_n 2, 1) := by decide +kernel
theorem dX12_berthOf_6 : decode cX12_berthOf 6 = .ok (.invokestatic 100, 3) := by decide +kernel
theorem dX12_berthOf_9 : decode cX12_berthOf 9 = .ok (.iaload, 1) := by decide +kernel
theorem dX12_berthOf_10 : decode cX12_berthOf 10 = .ok (.ireturn, 1) := by decide +kernel
set_option maxHeartbeats 1000000 in
theorem r_berthOf {Γ : jg_G} {g : Nat → jg_C} {n r : Nat} (hr : r + 11 ≤ n) (s : rs_S) (k j : Nat) (x : Int32) (hx : s.2.1 (1000 + (8) * (k) + j) = x) (hk : 1000 + (8) * (k) + j < 1080) : jc Γ mX12_berthOf 1 0 0 [some (.ref (r)), some (.int (nI (k))), some (.int (nI (j)))] (rs_h g r s, n) (.inl (some (.int (x)))) (rs_h g r s, n) := by
  refine jc_of ?_
  refine jg_aload_n dX12_berthOf_0 rfl ?_
  refine rs_ga fl_X12_13 dX12_berthOf_1 hr rfl ?_
  refine jg_iload_n dX12_berthOf_4 rfl ?_
  refine jg_iload_n dX12_berthOf_5 rfl ?_
  refine rs_callS (As := [.int (nI (k)), .int (nI (j))]) ks_X12_100 dX12_berthOf_6 rfl (by decide) (Nat.le_of_ble_eq_true rfl) rfl (by decide) (Nat.le_of_ble_eq_true rfl) (r_berthAt (k) (j)) ?_
  refine rs_lwN (i := 1000 + (8) * (k) + j) (x := (x)) (hx) dX12_berthOf_9 hr (by omega) ?_
  exact jg_ireturn dX12_berthOf_10 rfl ⟨rfl, rfl⟩
theorem dX12_of_0 : decode cX12_of 0 = .ok (.aload_n 0, 1) := by decide +kernel
theorem dX12_of_1 : decode cX12_of 1 = .ok (.getfield 13, 3) := by decide +kernel
theorem dX12_of_4 : decode cX12_of 4 = .ok (.iload_n 1, 1) := by decide +kernel
theorem dX12_of_5 : decode cX12_of 5 = .ok (.iload_n 2, 1) := by decide +kernel
theorem dX12_of_6 : decode cX12_of 6 = .ok (.invokestatic 104, 3) := by decide +kernel
theorem dX12_of_9 : decode cX12_of 9 = .ok (.iaload, 1) := by decide +kernel
theorem dX12_of_10 : decode cX12_of 10 = .ok (.ireturn, 1) := by decide +kernel
set_option maxHeartbeats 1000000 in
theorem r_of {Γ : jg_G} {g : Nat → jg_C} {n r : Nat} (hr : r + 11 ≤ n) (s : rs_S) (k j : Nat) (x : Int32) (hx : s.2.1 (1212 + (18) * (k) + j) = x) (hk : 1212 + (18) * (k) + j < 2652) : jc Γ mX12_of 1 0 0 [some (.ref (r)), some (.int (nI (k))), some (.int (nI (j)))] (rs_h g r s, n) (.inl (some (.int (x)))) (rs_h g r s, n) := by
  refine jc_of ?_
  refine jg_aload_n dX12_of_0 rfl ?_
  refine rs_ga fl_X12_13 dX12_of_1 hr rfl ?_
  refine jg_iload_n dX12_of_4 rfl ?_
  refine jg_iload_n dX12_of_5 rfl ?_
  refine rs_callS (As := [.int (nI (k)), .int (nI (j))]) ks_X12_104 dX12_of_6 rfl (by decide) (Nat.le_of_ble_eq_true rfl) rfl (by decide) (Nat.le_of_ble_eq_true rfl) (r_shipAt (k) (j)) ?_
  refine rs_lwN (i := 1212 + (18) * (k) + j) (x := (x)) (hx) dX12_of_9 hr (by omega) ?_
  exact jg_ireturn dX12_of_10 rfl ⟨rfl, rfl⟩
theorem dX12_bondOf_0 : decode cX12_bondOf 0 = .ok (.aload_n 0, 1) := by decide +kernel
theorem dX12_bondOf_1 : decode cX12_bondOf 1 = .ok (.getfield 13, 3) := by decide +kernel
theorem dX12_bondOf_4 : decode cX12_bondOf 4 = .ok (.iload_n 1, 1) := by decide +kernel
theorem dX12_bondOf_5 : decode cX12_bondOf 5 = .ok (.iload_n 2, 1) := by decide +kernel
theorem dX12_bondOf_6 : decode cX12_bondOf 6 = .ok (.invokestatic 388, 3) := by decide +kernel
theorem dX12_bondOf_9 : decode cX12_bondOf 9 = .ok (.iaload, 1) := by decide +kernel
theorem dX12_bondOf_10 : decode cX12_bondOf 10 = .ok (.ireturn, 1) := by decide +kernel
set_option maxHeartbeats 1000000 in
theorem r_bondOf {Γ : jg_G} {g : Nat → jg_C} {n r : Nat} (hr : r + 11 ≤ n) (s : rs_S) (k j : Nat) (x : Int32) (hx : s.2.1 (2666 + (6) * (k) + j) = x) (hk : 2666 + (6) * (k) + j < 2786) : jc Γ mX12_bondOf 1 0 0 [some (.ref (r)), some (.int (nI (k))), some (.int (nI (j)))] (rs_h g r s, n) (.inl (some (.int (x)))) (rs_h g r s, n) := by
  refine jc_of ?_
  refine jg_aload_n dX12_bondOf_0 rfl ?_
  refine rs_ga fl_X12_13 dX12_bondOf_1 hr rfl ?_
  refine jg_iload_n dX12_bondOf_4 rfl ?_
  refine jg_iload_n dX12_bondOf_5 rfl ?_
  refine rs_callS (As := [.int (nI (k)), .int (nI (j))]) ks_X12_388 dX12_bondOf_6 rfl (by decide) (Nat.le_of_ble_eq_true rfl) rfl (by decide) (Nat.le_of_ble_eq_true rfl) (r_bondAt (k) (j)) ?_
  refine rs_lwN (i := 2666 + (6) * (k) + j) (x := (x)) (hx) dX12_bondOf_9 hr (by omega) ?_
  exact jg_ireturn dX12_bondOf_10 rfl ⟨rfl, rfl⟩
theorem dX12_sets_0 : decode cX12_sets 0 = .ok (.aload_n 0, 1) := by decide +kernel
theorem dX12_sets_1 : decode cX12_sets 1 = .ok (.getfield 13, 3) := by decide +kernel
theorem dX12_sets_4 : decode cX12_sets 4 = .ok (.iload_n 1, 1) := by decide +kernel
theorem dX12_sets_5 : decode cX12_sets 5 = .ok (.iload_n 2, 1) := by decide +kernel
theorem dX12_sets_6 : decode cX12_sets 6 = .ok (.invokestatic 104, 3) := by decide +kernel
theorem dX12_sets_9 : decode cX12_sets 9 = .ok (.iload_n 3, 1) := by decide +kernel
theorem dX12_sets_10 : decode cX12_sets 10 = .ok (.iastore, 1) := by decide +kernel
theorem dX12_sets_11 : decode cX12_sets 11 = .ok (.return_, 1) := by decide +kernel
set_option maxHeartbeats 1000000 in
theorem r_sets {Γ : jg_G} {g : Nat → jg_C} {n r : Nat} (hr : r + 11 ≤ n) (s : rs_S) (k j : Nat) (x : Int32) (hk : 1212 + (18) * (k) + j < 2652) : jc Γ mX12_sets 1 0 0 [some (.ref (r)), some (.int (nI (k))), some (.int (nI (j))), some (.int (x))] (rs_h g r s, n) (.inl none) (rs_h g r (s.1, upd s.2.1 (1212 + (18) * (k) + j) x, s.2.2), n) := by
  refine jc_of ?_
  refine jg_aload_n dX12_sets_0 rfl ?_
  refine rs_ga fl_X12_13 dX12_sets_1 hr rfl ?_
  refine jg_iload_n dX12_sets_4 rfl ?_
  refine jg_iload_n dX12_sets_5 rfl ?_
  refine rs_callS (As := [.int (nI (k)), .int (nI (j))]) ks_X12_104 dX12_sets_6 rfl (by decide) (Nat.le_of_ble_eq_true rfl) rfl (by decide) (Nat.le_of_ble_eq_true rfl) (r_shipAt (k) (j)) ?_
  refine jg_iload_n dX12_sets_9 rfl ?_
  refine rs_sw (i := 1212 + (18) * (k) + j) (x := (x)) dX12_sets_10 hr (by omega) ?_
  exact jg_return dX12_sets_11 rfl ⟨rfl, rfl⟩
