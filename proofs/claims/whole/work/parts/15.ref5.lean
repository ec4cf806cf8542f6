/-! THE REFERENCE: counted loops (by program wip/whole/ref5.py) -/
theorem va_idl {α : Type} (f : Nat → α) (k : Nat) : va_up f k (f k) = f := by
  funext j
  by_cases h : j = k
  · subst h; exact va_up_self _ _ _
  · exact va_up_ne _ _ h
/-- the depths that are known as of t, of the first cells -/
def ra_dep (w : Nat → Int32) (t : Int32) (m : Nat) (o : Nat → Int32) : Nat → (Nat → Int32)
  | 0 => o
  | a + 1 => upd (ra_dep w t m o a) a (ra_known w a t m)
def ra_sum (f : Nat → Int32) : Nat → Int32
  | 0 => nI 0
  | a + 1 => ra_sum f a + f a

theorem dX12_looks_2 : decode cX12_looks 2 = .ok (.iload_n 1, 1) := by decide +kernel
theorem dX12_looks_3 : decode cX12_looks 3 = .ok (.bipush 24, 2) := by decide +kernel
theorem dX12_looks_5 : decode cX12_looks 5 = .ok (.if_icmp .ge 24, 3) := by decide +kernel
theorem dX12_looks_8 : decode cX12_looks 8 = .ok (.aload_n 0, 1) := by decide +kernel
theorem dX12_looks_9 : decode cX12_looks 9 = .ok (.getfield 20, 3) := by decide +kernel
theorem dX12_looks_12 : decode cX12_looks 12 = .ok (.iload_n 1, 1) := by decide +kernel
theorem dX12_looks_13 : decode cX12_looks 13 = .ok (.aload_n 0, 1) := by decide +kernel
theorem dX12_looks_14 : decode cX12_looks 14 = .ok (.iload_n 1, 1) := by decide +kernel
theorem dX12_looks_15 : decode cX12_looks 15 = .ok (.aload_n 0, 1) := by decide +kernel
theorem dX12_looks_16 : decode cX12_looks 16 = .ok (.invokevirtual 73, 3) := by decide +kernel
theorem dX12_looks_19 : decode cX12_looks 19 = .ok (.invokevirtual 80, 3) := by decide +kernel
theorem dX12_looks_22 : decode cX12_looks 22 = .ok (.iastore, 1) := by decide +kernel
theorem dX12_looks_23 : decode cX12_looks 23 = .ok (.iinc 1 1, 3) := by decide +kernel
theorem dX12_looks_26 : decode cX12_looks 26 = .ok (.goto (-24), 3) := by decide +kernel
theorem dX12_looks_29 : decode cX12_looks 29 = .ok (.return_, 1) := by decide +kernel
set_option maxHeartbeats 2000000 in
theorem r_looks_l {Γ : jg_G} {g : Nat → jg_C} {n r : Nat} (hr : r + 11 ≤ n) (s : rs_S)  (hh : wb s.2.1 0 30000) (hc : wb s.2.1 198 200) : ∀ a, a ≤ 24 → jg Γ mX12_looks 1 0 0 2 [some (.ref (r)), some (.int (nI (a)))] [] (rs_h g r (s.1, s.2.1, va_up s.2.2 2 (ra_dep s.2.1 (nI (wn s.2.1 0)) (wn s.2.1 198) (s.2.2 2) (a))), n) (jq (.inl none) (rs_h g r (s.1, s.2.1, va_up s.2.2 2 (ra_dep s.2.1 (nI (wn s.2.1 0)) (wn s.2.1 198) (s.2.2 2) (24))), n)) := by
  have hh_2 := hh.2
  have hc_2 := hc.2
  refine jd_down (c := 24) (P := fun a => jg Γ mX12_looks 1 0 0 2 [some (.ref (r)), some (.int (nI (a)))] [] (rs_h g r (s.1, s.2.1, va_up s.2.2 2 (ra_dep s.2.1 (nI (wn s.2.1 0)) (wn s.2.1 198) (s.2.2 2) (a))), n) (jq (.inl none) (rs_h g r (s.1, s.2.1, va_up s.2.2 2 (ra_dep s.2.1 (nI (wn s.2.1 0)) (wn s.2.1 198) (s.2.2 2) (24))), n))) ?_
  intro a ha ih
  refine jg_iload_n dX12_looks_2 rfl ?_
  refine jn_bipush (k := 24) dX12_looks_3 (by decide) ?_
  refine jn_icmp_ge (x := a) (y := 24) (tgt := 29) dX12_looks_5 (by decide) (by omega) (by omega) (fun c_1 => ?_) (fun c_1 => ?_)
  · skip
    obtain rfl : a = 24 := by omega
    exact jg_return dX12_looks_29 rfl ⟨rfl, rfl⟩
  · skip
    refine jg_aload_n dX12_looks_8 rfl ?_
    refine rs_ga fl_X12_20 dX12_looks_9 hr rfl ?_
    refine jg_iload_n dX12_looks_12 rfl ?_
    refine jg_aload_n dX12_looks_13 rfl ?_
    refine jg_iload_n dX12_looks_14 rfl ?_
    refine jg_aload_n dX12_looks_15 rfl ?_
    refine rs_call (As := []) kv_X12_73 dX12_looks_16 hr rfl rfl (by decide) (Nat.le_of_ble_eq_true rfl) rfl (by decide) (Nat.le_of_ble_eq_true rfl) (r_hour hr (s.1, s.2.1, va_up s.2.2 2 (ra_dep s.2.1 (nI (wn s.2.1 0)) (wn s.2.1 198) (s.2.2 2) (a))) (nI (wn s.2.1 0)) (by first | exact hh.1 | (simp only [upd]; (repeat rw [if_neg (by omega)]); exact hh.1))) ?_
    refine rs_call (As := [.int (nI (a)), .int (nI (wn s.2.1 0))]) kv_X12_80 dX12_looks_19 hr rfl rfl (by decide) (Nat.le_of_ble_eq_true rfl) rfl (by decide) (Nat.le_of_ble_eq_true rfl) (r_knownOf hr (s.1, s.2.1, va_up s.2.2 2 (ra_dep s.2.1 (nI (wn s.2.1 0)) (wn s.2.1 198) (s.2.2 2) (a))) (a) (nI (wn s.2.1 0)) (by first | exact hc | (simp only [upd]; (repeat rw [if_neg (by omega)]); exact hc)) (by omega)) ?_
    refine rs_st (i := a) (j := 1) (x := (ra_known (s.2.1) (a) (nI (wn s.2.1 0)) (wn s.2.1 198))) dX12_looks_22 hr (by decide) rfl (by show _ < _; simp only [rs_ln]; omega) ?_
    refine jn_iinc (x := a) (L' := [some (.ref (r)), some (.int (nI (a + 1)))]) dX12_looks_23 rfl rfl (by decide) rfl ?_
    refine jg_goto (tgt := 2) dX12_looks_26 (by decide) ?_
    refine jg_at_eq (ih (by omega)) rfl (rfl) rfl (by simp [ra_dep, bx_uu, va_up_self])
theorem dX12_looks_0 : decode cX12_looks 0 = .ok (.iconst 0, 1) := by decide +kernel
theorem dX12_looks_1 : decode cX12_looks 1 = .ok (.istore_n 1, 1) := by decide +kernel
set_option maxHeartbeats 1000000 in
theorem r_looks {Γ : jg_G} {g : Nat → jg_C} {n r : Nat} (hr : r + 11 ≤ n) (s : rs_S)  (hh : wb s.2.1 0 30000) (hc : wb s.2.1 198 200) : jc Γ mX12_looks 1 0 0 [some (.ref (r)), none] (rs_h g r s, n) (.inl none) (rs_h g r (s.1, s.2.1, va_up s.2.2 2 (ra_dep s.2.1 (nI (wn s.2.1 0)) (wn s.2.1 198) (s.2.2 2) (24))), n) := by
  refine jc_of ?_
  refine jn_iconst (k := 0) dX12_looks_0 (by decide) ?_
  refine jg_istore_n (L' := [some (.ref (r)), some (.int (nI (0)))]) dX12_looks_1 (by decide) rfl ?_
  refine jg_at_eq (r_looks_l hr s hh hc 0 (Nat.zero_le _)) rfl rfl rfl (by simp [ra_dep, va_idl])
theorem dX12_sumCells_4 : decode cX12_sumCells 4 = .ok (.iload_n 3, 1) := by decide +kernel
theorem dX12_sumCells_5 : decode cX12_sumCells 5 = .ok (.bipush 24, 2) := by decide +kernel
theorem dX12_sumCells_7 : decode cX12_sumCells 7 = .ok (.if_icmp .ge 20, 3) := by decide +kernel
theorem dX12_sumCells_10 : decode cX12_sumCells 10 = .ok (.iload_n 2, 1) := by decide +kernel
theorem dX12_sumCells_11 : decode cX12_sumCells 11 = .ok (.aload_n 0, 1) := by decide +kernel
theorem dX12_sumCells_12 : decode cX12_sumCells 12 = .ok (.getfield 13, 3) := by decide +kernel
theorem dX12_sumCells_15 : decode cX12_sumCells 15 = .ok (.iload_n 1, 1) := by decide +kernel
theorem dX12_sumCells_16 : decode cX12_sumCells 16 = .ok (.iload_n 3, 1) := by decide +kernel
theorem dX12_sumCells_17 : decode cX12_sumCells 17 = .ok (.iadd, 1) := by decide +kernel
theorem dX12_sumCells_18 : decode cX12_sumCells 18 = .ok (.iaload, 1) := by decide +kernel
theorem dX12_sumCells_19 : decode cX12_sumCells 19 = .ok (.iadd, 1) := by decide +kernel
theorem dX12_sumCells_20 : decode cX12_sumCells 20 = .ok (.istore_n 2, 1) := by decide +kernel
theorem dX12_sumCells_21 : decode cX12_sumCells 21 = .ok (.iinc 3 1, 3) := by decide +kernel
theorem dX12_sumCells_24 : decode cX12_sumCells 24 = .ok (.goto (-20), 3) := by decide +kernel
theorem dX12_sumCells_27 : decode cX12_sumCells 27 = .ok (.iload_n 2, 1) := by decide +kernel
theorem dX12_sumCells_28 : decode cX12_sumCells 28 = .ok (.ireturn, 1) := by decide +kernel
set_option maxHeartbeats 2000000 in
theorem r_sumCells_l {Γ : jg_G} {g : Nat → jg_C} {n r : Nat} (hr : r + 11 ≤ n) (s : rs_S) (k : Nat) (hk : k < 1000) : ∀ a, a ≤ 24 → jg Γ mX12_sumCells 0 0 0 4 [some (.ref (r)), some (.int (nI (k))), some (.int (ra_sum (fun c => s.2.1 (k + c)) (a))), some (.int (nI (a)))] [] (rs_h g r s, n) (jq (.inl (some (.int (ra_sum (fun c => s.2.1 (k + c)) 24)))) (rs_h g r s, n)) := by
  refine jd_down (c := 24) (P := fun a => jg Γ mX12_sumCells 0 0 0 4 [some (.ref (r)), some (.int (nI (k))), some (.int (ra_sum (fun c => s.2.1 (k + c)) (a))), some (.int (nI (a)))] [] (rs_h g r s, n) (jq (.inl (some (.int (ra_sum (fun c => s.2.1 (k + c)) 24)))) (rs_h g r s, n))) ?_
  intro a ha ih
  refine jg_iload_n dX12_sumCells_4 rfl ?_
  refine jn_bipush (k := 24) dX12_sumCells_5 (by decide) ?_
  refine jn_icmp_ge (x := a) (y := 24) (tgt := 27) dX12_sumCells_7 (by decide) (by omega) (by omega) (fun c_1 => ?_) (fun c_1 => ?_)
  · skip
    obtain rfl : a = 24 := by omega
    refine jg_iload_n dX12_sumCells_27 rfl ?_
    exact jg_ireturn dX12_sumCells_28 rfl ⟨rfl, rfl⟩
  · skip
    refine jg_iload_n dX12_sumCells_10 rfl ?_
    refine jg_aload_n dX12_sumCells_11 rfl ?_
    refine rs_ga fl_X12_13 dX12_sumCells_12 hr rfl ?_
    refine jg_iload_n dX12_sumCells_15 rfl ?_
    refine jg_iload_n dX12_sumCells_16 rfl ?_
    refine jn_iadd (x := k) (y := a) dX12_sumCells_17  ?_
    refine rs_lw (i := k + a) dX12_sumCells_18 hr (by omega) ?_
    refine jg_iadd (x := (ra_sum (fun c => s.2.1 (k + c)) (a))) (y := ((s.2.1) (k + a))) dX12_sumCells_19  ?_
    refine jg_istore_n (L' := [some (.ref (r)), some (.int (nI (k))), some (.int (((ra_sum (fun c => s.2.1 (k + c)) (a)) + ((s.2.1) (k + a))))), some (.int (nI (a)))]) dX12_sumCells_20 (by decide) rfl ?_
    refine jn_iinc (x := a) (L' := [some (.ref (r)), some (.int (nI (k))), some (.int (((ra_sum (fun c => s.2.1 (k + c)) (a)) + ((s.2.1) (k + a))))), some (.int (nI (a + 1)))]) dX12_sumCells_21 rfl rfl (by decide) rfl ?_
    refine jg_goto (tgt := 4) dX12_sumCells_24 (by decide) ?_
    refine jg_at_eq (ih (by omega)) rfl (rfl) rfl (rfl)
theorem dX12_sumCells_0 : decode cX12_sumCells 0 = .ok (.iconst 0, 1) := by decide +kernel
theorem dX12_sumCells_1 : decode cX12_sumCells 1 = .ok (.istore_n 2, 1) := by decide +kernel
theorem dX12_sumCells_2 : decode cX12_sumCells 2 = .ok (.iconst 0, 1) := by decide +kernel
theorem dX12_sumCells_3 : decode cX12_sumCells 3 = .ok (.istore_n 3, 1) := by decide +kernel
set_option maxHeartbeats 1000000 in
theorem r_sumCells {Γ : jg_G} {g : Nat → jg_C} {n r : Nat} (hr : r + 11 ≤ n) (s : rs_S) (k : Nat) (hk : k < 1000) : jc Γ mX12_sumCells 0 0 0 [some (.ref (r)), some (.int (nI (k))), none, none] (rs_h g r s, n) (.inl (some (.int (ra_sum (fun c => s.2.1 (k + c)) 24)))) (rs_h g r s, n) := by
  refine jc_of ?_
  refine jn_iconst (k := 0) dX12_sumCells_0 (by decide) ?_
  refine jg_istore_n (L' := [some (.ref (r)), some (.int (nI (k))), some (.int (nI (0))), none]) dX12_sumCells_1 (by decide) rfl ?_
  refine jn_iconst (k := 0) dX12_sumCells_2 (by decide) ?_
  refine jg_istore_n (L' := [some (.ref (r)), some (.int (nI (k))), some (.int (nI (0))), some (.int (nI (0)))]) dX12_sumCells_3 (by decide) rfl ?_
  exact r_sumCells_l hr s k hk 0 (Nat.zero_le _)
theorem dX12_freePilots_4 : decode cX12_freePilots 4 = .ok (.iload_n 2, 1) := by decide +kernel
theorem dX12_freePilots_5 : decode cX12_freePilots 5 = .ok (.bipush 8, 2) := by decide +kernel
theorem dX12_freePilots_7 : decode cX12_freePilots 7 = .ok (.if_icmp .ge 22, 3) := by decide +kernel
theorem dX12_freePilots_10 : decode cX12_freePilots 10 = .ok (.iload_n 1, 1) := by decide +kernel
theorem dX12_freePilots_11 : decode cX12_freePilots 11 = .ok (.aload_n 0, 1) := by decide +kernel
theorem dX12_freePilots_12 : decode cX12_freePilots 12 = .ok (.getfield 13, 3) := by decide +kernel
theorem dX12_freePilots_15 : decode cX12_freePilots 15 = .ok (.sipush 1082, 3) := by decide +kernel
theorem dX12_freePilots_18 : decode cX12_freePilots 18 = .ok (.iload_n 2, 1) := by decide +kernel
theorem dX12_freePilots_19 : decode cX12_freePilots 19 = .ok (.iadd, 1) := by decide +kernel
theorem dX12_freePilots_20 : decode cX12_freePilots 20 = .ok (.iaload, 1) := by decide +kernel
theorem dX12_freePilots_21 : decode cX12_freePilots 21 = .ok (.iadd, 1) := by decide +kernel
theorem dX12_freePilots_22 : decode cX12_freePilots 22 = .ok (.istore_n 1, 1) := by decide +kernel
theorem dX12_freePilots_23 : decode cX12_freePilots 23 = .ok (.iinc 2 1, 3) := by decide +kernel
theorem dX12_freePilots_26 : decode cX12_freePilots 26 = .ok (.goto (-22), 3) := by decide +kernel
theorem dX12_freePilots_29 : decode cX12_freePilots 29 = .ok (.iconst 0, 1) := by decide +kernel
theorem dX12_freePilots_30 : decode cX12_freePilots 30 = .ok (.aload_n 0, 1) := by decide +kernel
theorem dX12_freePilots_31 : decode cX12_freePilots 31 = .ok (.getfield 13, 3) := by decide +kernel
theorem dX12_freePilots_34 : decode cX12_freePilots 34 = .ok (.sipush 1080, 3) := by decide +kernel
theorem dX12_freePilots_37 : decode cX12_freePilots 37 = .ok (.iaload, 1) := by decide +kernel
theorem dX12_freePilots_38 : decode cX12_freePilots 38 = .ok (.iload_n 1, 1) := by decide +kernel
theorem dX12_freePilots_39 : decode cX12_freePilots 39 = .ok (.isub, 1) := by decide +kernel
theorem dX12_freePilots_40 : decode cX12_freePilots 40 = .ok (.invokestatic 88, 3) := by decide +kernel
theorem dX12_freePilots_43 : decode cX12_freePilots 43 = .ok (.ireturn, 1) := by decide +kernel
set_option maxHeartbeats 2000000 in
theorem r_freePilots_l {Γ : jg_G} {g : Nat → jg_C} {n r : Nat} (hr : r + 11 ≤ n) (s : rs_S)   : ∀ a, a ≤ 8 → jg Γ mX12_freePilots 1 0 0 4 [some (.ref (r)), some (.int (ra_sum (fun c => s.2.1 (1082 + c)) (a))), some (.int (nI (a)))] [] (rs_h g r s, n) (jq (.inl (some (.int (if nI 0 < s.2.1 1080 - ra_sum (fun c => s.2.1 (1082 + c)) 8 then s.2.1 1080 - ra_sum (fun c => s.2.1 (1082 + c)) 8 else nI 0)))) (rs_h g r s, n)) := by
  refine jd_down (c := 8) (P := fun a => jg Γ mX12_freePilots 1 0 0 4 [some (.ref (r)), some (.int (ra_sum (fun c => s.2.1 (1082 + c)) (a))), some (.int (nI (a)))] [] (rs_h g r s, n) (jq (.inl (some (.int (if nI 0 < s.2.1 1080 - ra_sum (fun c => s.2.1 (1082 + c)) 8 then s.2.1 1080 - ra_sum (fun c => s.2.1 (1082 + c)) 8 else nI 0)))) (rs_h g r s, n))) ?_
  intro a ha ih
  refine jg_iload_n dX12_freePilots_4 rfl ?_
  refine jn_bipush (k := 8) dX12_freePilots_5 (by decide) ?_
  refine jn_icmp_ge (x := a) (y := 8) (tgt := 29) dX12_freePilots_7 (by decide) (by omega) (by omega) (fun c_1 => ?_) (fun c_1 => ?_)
  · skip
    obtain rfl : a = 8 := by omega
    refine jn_iconst (k := 0) dX12_freePilots_29 (by decide) ?_
    refine jg_aload_n dX12_freePilots_30 rfl ?_
    refine rs_ga fl_X12_13 dX12_freePilots_31 hr rfl ?_
    refine jn_sipush (k := 1080) dX12_freePilots_34 (by decide) ?_
    refine rs_lw (i := 1080) dX12_freePilots_37 hr (by omega) ?_
    refine jg_iload_n dX12_freePilots_38 rfl ?_
    refine jg_isub (x := ((s.2.1) (1080))) (y := (ra_sum (fun c => s.2.1 (1082 + c)) ((8)))) dX12_freePilots_39  ?_
    refine jg_mmax (x := (nI (0))) (y := ((((s.2.1) (1080)) - (ra_sum (fun c => s.2.1 (1082 + c)) ((8)))))) km_X12_88 jw_max.1 jw_max.2 dX12_freePilots_40 (by decide) (Nat.le_of_ble_eq_true rfl) ?_
    exact jg_ireturn dX12_freePilots_43 rfl ⟨rfl, rfl⟩
  · skip
    refine jg_iload_n dX12_freePilots_10 rfl ?_
    refine jg_aload_n dX12_freePilots_11 rfl ?_
    refine rs_ga fl_X12_13 dX12_freePilots_12 hr rfl ?_
    refine jn_sipush (k := 1082) dX12_freePilots_15 (by decide) ?_
    refine jg_iload_n dX12_freePilots_18 rfl ?_
    refine jn_iadd (x := 1082) (y := a) dX12_freePilots_19  ?_
    refine rs_lw (i := 1082 + a) dX12_freePilots_20 hr (by omega) ?_
    refine jg_iadd (x := (ra_sum (fun c => s.2.1 (1082 + c)) (a))) (y := ((s.2.1) (1082 + a))) dX12_freePilots_21  ?_
    refine jg_istore_n (L' := [some (.ref (r)), some (.int (((ra_sum (fun c => s.2.1 (1082 + c)) (a)) + ((s.2.1) (1082 + a))))), some (.int (nI (a)))]) dX12_freePilots_22 (by decide) rfl ?_
    refine jn_iinc (x := a) (L' := [some (.ref (r)), some (.int (((ra_sum (fun c => s.2.1 (1082 + c)) (a)) + ((s.2.1) (1082 + a))))), some (.int (nI (a + 1)))]) dX12_freePilots_23 rfl rfl (by decide) rfl ?_
    refine jg_goto (tgt := 4) dX12_freePilots_26 (by decide) ?_
    refine jg_at_eq (ih (by omega)) rfl (rfl) rfl (rfl)
theorem dX12_freePilots_0 : decode cX12_freePilots 0 = .ok (.iconst 0, 1) := by decide +kernel
theorem dX12_freePilots_1 : decode cX12_freePilots 1 = .ok (.istore_n 1, 1) := by decide +kernel
theorem dX12_freePilots_2 : decode cX12_freePilots 2 = .ok (.iconst 0, 1) := by decide +kernel
theorem dX12_freePilots_3 : decode cX12_freePilots 3 = .ok (.istore_n 2, 1) := by decide +kernel
set_option maxHeartbeats 1000000 in
theorem r_freePilots {Γ : jg_G} {g : Nat → jg_C} {n r : Nat} (hr : r + 11 ≤ n) (s : rs_S)   : jc Γ mX12_freePilots 1 0 0 [some (.ref (r)), none, none] (rs_h g r s, n) (.inl (some (.int (if nI 0 < s.2.1 1080 - ra_sum (fun c => s.2.1 (1082 + c)) 8 then s.2.1 1080 - ra_sum (fun c => s.2.1 (1082 + c)) 8 else nI 0)))) (rs_h g r s, n) := by
  refine jc_of ?_
  refine jn_iconst (k := 0) dX12_freePilots_0 (by decide) ?_
  refine jg_istore_n (L' := [some (.ref (r)), some (.int (nI (0))), none]) dX12_freePilots_1 (by decide) rfl ?_
  refine jn_iconst (k := 0) dX12_freePilots_2 (by decide) ?_
  refine jg_istore_n (L' := [some (.ref (r)), some (.int (nI (0))), some (.int (nI (0)))]) dX12_freePilots_3 (by decide) rfl ?_
  exact r_freePilots_l hr s 0 (Nat.zero_le _)
