/-! THE REFERENCE: the day's end (by program wip/whole/ref10.py) -/
/-- a bed rises as long as its heap is 50 or more -/
def ra_low (c : Nat) : Nat → (Nat → Int32) → (Nat → Int32)
  | 0, w => w
  | m + 1, w => if w (49 + c) < nI 50 then w else ra_low c m (upd (upd w (49 + c) (w (49 + c) - nI 50)) (1 + c) ((upd w (49 + c) (w (49 + c) - nI 50)) (1 + c) - nI 1))
def ra_digN (w : Nat → Int32) : Nat → (Nat → Int32)
  | 0 => w
  | a + 1 => ra_dig (ra_digN w a) (180 + (3) * (a))
def ra_lowN (w : Nat → Int32) : Nat → (Nat → Int32)
  | 0 => w
  | a + 1 => ra_low a (wn (ra_lowN w a) (1 + a)) (ra_lowN w a)
/-- the end of a day -/
def ra_day (w : Nat → Int32) : Nat → Int32 := ra_lowN (ra_digN (ra_settle w) (wn w 179)) 24

theorem dX12_dayEnds_43 : decode cX12_dayEnds 43 = .ok (.aload_n 0, 1) := by decide +kernel
theorem dX12_dayEnds_44 : decode cX12_dayEnds 44 = .ok (.getfield 13, 3) := by decide +kernel
theorem dX12_dayEnds_47 : decode cX12_dayEnds 47 = .ok (.bipush 49, 2) := by decide +kernel
theorem dX12_dayEnds_49 : decode cX12_dayEnds 49 = .ok (.iload_n 1, 1) := by decide +kernel
theorem dX12_dayEnds_50 : decode cX12_dayEnds 50 = .ok (.iadd, 1) := by decide +kernel
theorem dX12_dayEnds_51 : decode cX12_dayEnds 51 = .ok (.iaload, 1) := by decide +kernel
theorem dX12_dayEnds_52 : decode cX12_dayEnds 52 = .ok (.bipush 50, 2) := by decide +kernel
theorem dX12_dayEnds_54 : decode cX12_dayEnds 54 = .ok (.if_icmp .lt 43, 3) := by decide +kernel
theorem dX12_dayEnds_57 : decode cX12_dayEnds 57 = .ok (.aload_n 0, 1) := by decide +kernel
theorem dX12_dayEnds_58 : decode cX12_dayEnds 58 = .ok (.getfield 13, 3) := by decide +kernel
theorem dX12_dayEnds_61 : decode cX12_dayEnds 61 = .ok (.iconst 1, 1) := by decide +kernel
theorem dX12_dayEnds_62 : decode cX12_dayEnds 62 = .ok (.iload_n 1, 1) := by decide +kernel
theorem dX12_dayEnds_63 : decode cX12_dayEnds 63 = .ok (.iadd, 1) := by decide +kernel
theorem dX12_dayEnds_64 : decode cX12_dayEnds 64 = .ok (.iaload, 1) := by decide +kernel
theorem dX12_dayEnds_65 : decode cX12_dayEnds 65 = .ok (.ifCond .le 32, 3) := by decide +kernel
theorem dX12_dayEnds_68 : decode cX12_dayEnds 68 = .ok (.aload_n 0, 1) := by decide +kernel
theorem dX12_dayEnds_69 : decode cX12_dayEnds 69 = .ok (.getfield 13, 3) := by decide +kernel
theorem dX12_dayEnds_72 : decode cX12_dayEnds 72 = .ok (.bipush 49, 2) := by decide +kernel
theorem dX12_dayEnds_74 : decode cX12_dayEnds 74 = .ok (.iload_n 1, 1) := by decide +kernel
theorem dX12_dayEnds_75 : decode cX12_dayEnds 75 = .ok (.iadd, 1) := by decide +kernel
theorem dX12_dayEnds_76 : decode cX12_dayEnds 76 = .ok (.dup2, 1) := by decide +kernel
theorem dX12_dayEnds_77 : decode cX12_dayEnds 77 = .ok (.iaload, 1) := by decide +kernel
theorem dX12_dayEnds_78 : decode cX12_dayEnds 78 = .ok (.bipush 50, 2) := by decide +kernel
theorem dX12_dayEnds_80 : decode cX12_dayEnds 80 = .ok (.isub, 1) := by decide +kernel
theorem dX12_dayEnds_81 : decode cX12_dayEnds 81 = .ok (.iastore, 1) := by decide +kernel
theorem dX12_dayEnds_82 : decode cX12_dayEnds 82 = .ok (.aload_n 0, 1) := by decide +kernel
theorem dX12_dayEnds_83 : decode cX12_dayEnds 83 = .ok (.getfield 13, 3) := by decide +kernel
theorem dX12_dayEnds_86 : decode cX12_dayEnds 86 = .ok (.iconst 1, 1) := by decide +kernel
theorem dX12_dayEnds_87 : decode cX12_dayEnds 87 = .ok (.iload_n 1, 1) := by decide +kernel
theorem dX12_dayEnds_88 : decode cX12_dayEnds 88 = .ok (.iadd, 1) := by decide +kernel
theorem dX12_dayEnds_89 : decode cX12_dayEnds 89 = .ok (.dup2, 1) := by decide +kernel
theorem dX12_dayEnds_90 : decode cX12_dayEnds 90 = .ok (.iaload, 1) := by decide +kernel
theorem dX12_dayEnds_91 : decode cX12_dayEnds 91 = .ok (.iconst 1, 1) := by decide +kernel
theorem dX12_dayEnds_92 : decode cX12_dayEnds 92 = .ok (.isub, 1) := by decide +kernel
theorem dX12_dayEnds_93 : decode cX12_dayEnds 93 = .ok (.iastore, 1) := by decide +kernel
theorem dX12_dayEnds_94 : decode cX12_dayEnds 94 = .ok (.goto (-51), 3) := by decide +kernel
set_option maxHeartbeats 2000000 in
theorem r_low_l {Γ : jg_G} {g : Nat → jg_C} {n r : Nat} (hr : r + 11 ≤ n) (s : rs_S) (c : Nat) (hc : c < 24) (Q : jg_Q) : ∀ (m : Nat) (w : Nat → Int32), m ≤ 200 → w (1 + c) = nI m → jg Γ mX12_dayEnds 3 0 0 97 [some (.ref (r)), some (.int (nI (c)))] [] (rs_h g r (s.1, ra_low c m w, s.2.2), n) Q → jg Γ mX12_dayEnds 3 0 0 43 [some (.ref (r)), some (.int (nI (c)))] [] (rs_h g r (s.1, w, s.2.2), n) Q := by
  intro m
  induction m with
  | zero =>
    intro w hm hb hq
    refine jg_aload_n dX12_dayEnds_43 rfl ?_
    refine rs_ga fl_X12_13 dX12_dayEnds_44 hr rfl ?_
    refine jn_bipush (k := 49) dX12_dayEnds_47 (by decide) ?_
    refine jg_iload_n dX12_dayEnds_49 rfl ?_
    refine jn_iadd (x := 49) (y := c) dX12_dayEnds_50  ?_
    refine rs_lw (i := 49 + c) dX12_dayEnds_51 hr (by omega) ?_
    refine jn_bipush (k := 50) dX12_dayEnds_52 (by decide) ?_
    refine jg_icmp_lt (x := ((w) (49 + c))) (y := (nI (50))) (tgt := 97) dX12_dayEnds_54 (by decide) (fun c_1 => ?_) (fun c_1 => ?_)
    · skip
      exact hq
    · skip
      refine jg_aload_n dX12_dayEnds_57 rfl ?_
      refine rs_ga fl_X12_13 dX12_dayEnds_58 hr rfl ?_
      refine jn_iconst (k := 1) dX12_dayEnds_61 (by decide) ?_
      refine jg_iload_n dX12_dayEnds_62 rfl ?_
      refine jn_iadd (x := 1) (y := c) dX12_dayEnds_63  ?_
      refine rs_lwN (i := 1 + c) (x := (nI (0))) (hb) dX12_dayEnds_64 hr (by omega) ?_
      refine jg_if_le (x := (nI (0))) (tgt := 97) dX12_dayEnds_65 (by decide) (fun c_2 => ?_) (fun c_2 => ?_)
      · skip
        exact hq
      · skip
        exact absurd c_2 (fun q9 => q9 (by decide))
  | succ m ih =>
    intro w hm hb hq
    replace ih := fun w9 h9 k9 => ih w9 (by omega) h9 k9
    refine jg_aload_n dX12_dayEnds_43 rfl ?_
    refine rs_ga fl_X12_13 dX12_dayEnds_44 hr rfl ?_
    refine jn_bipush (k := 49) dX12_dayEnds_47 (by decide) ?_
    refine jg_iload_n dX12_dayEnds_49 rfl ?_
    refine jn_iadd (x := 49) (y := c) dX12_dayEnds_50  ?_
    refine rs_lw (i := 49 + c) dX12_dayEnds_51 hr (by omega) ?_
    refine jn_bipush (k := 50) dX12_dayEnds_52 (by decide) ?_
    refine jg_icmp_lt (x := ((w) (49 + c))) (y := (nI (50))) (tgt := 97) dX12_dayEnds_54 (by decide) (fun c_1 => ?_) (fun c_1 => ?_)
    · skip
      simp only [ra_low, if_pos c_1] at hq; exact hq
    · skip
      refine jg_aload_n dX12_dayEnds_57 rfl ?_
      refine rs_ga fl_X12_13 dX12_dayEnds_58 hr rfl ?_
      refine jn_iconst (k := 1) dX12_dayEnds_61 (by decide) ?_
      refine jg_iload_n dX12_dayEnds_62 rfl ?_
      refine jn_iadd (x := 1) (y := c) dX12_dayEnds_63  ?_
      refine rs_lwN (i := 1 + c) (x := (nI (m + 1))) (hb) dX12_dayEnds_64 hr (by omega) ?_
      refine jg_if_le (x := (nI (m + 1))) (tgt := 97) dX12_dayEnds_65 (by decide) (fun c_2 => ?_) (fun c_2 => ?_)
      · skip
        exact absurd c_2 (nI_nle (by omega) (by omega))
      · skip
        refine jg_aload_n dX12_dayEnds_68 rfl ?_
        refine rs_ga fl_X12_13 dX12_dayEnds_69 hr rfl ?_
        refine jn_bipush (k := 49) dX12_dayEnds_72 (by decide) ?_
        refine jg_iload_n dX12_dayEnds_74 rfl ?_
        refine jn_iadd (x := 49) (y := c) dX12_dayEnds_75  ?_
        refine jg_dup2 dX12_dayEnds_76 rfl rfl ?_
        refine rs_lw (i := 49 + c) dX12_dayEnds_77 hr (by omega) ?_
        refine jn_bipush (k := 50) dX12_dayEnds_78 (by decide) ?_
        refine jg_isub (x := ((w) (49 + c))) (y := (nI (50))) dX12_dayEnds_80  ?_
        refine rs_sw (i := 49 + c) (x := ((((w) (49 + c)) - (nI (50))))) dX12_dayEnds_81 hr (by omega) ?_
        refine jg_aload_n dX12_dayEnds_82 rfl ?_
        refine rs_ga fl_X12_13 dX12_dayEnds_83 hr rfl ?_
        refine jn_iconst (k := 1) dX12_dayEnds_86 (by decide) ?_
        refine jg_iload_n dX12_dayEnds_87 rfl ?_
        refine jn_iadd (x := 1) (y := c) dX12_dayEnds_88  ?_
        refine jg_dup2 dX12_dayEnds_89 rfl rfl ?_
        refine rs_lw (i := 1 + c) dX12_dayEnds_90 hr (by omega) ?_
        refine jn_iconst (k := 1) dX12_dayEnds_91 (by decide) ?_
        refine jg_isub (x := ((upd (w) (49 + c) ((((w) (49 + c)) - (nI (50))))) (1 + c))) (y := (nI (1))) dX12_dayEnds_92  ?_
        refine rs_sw (i := 1 + c) (x := ((((upd (w) (49 + c) ((((w) (49 + c)) - (nI (50))))) (1 + c)) - (nI (1))))) dX12_dayEnds_93 hr (by omega) ?_
        refine jg_goto (tgt := 43) dX12_dayEnds_94 (by decide) ?_
        refine ih _ ?_ ?_
        · rw [pk_us, pk_un (by omega), hb]; exact nI_pred m
        · simp only [ra_low, if_neg c_1] at hq; exact hq
theorem dX12_dayEnds_37 : decode cX12_dayEnds 37 = .ok (.iload_n 1, 1) := by decide +kernel
theorem dX12_dayEnds_38 : decode cX12_dayEnds 38 = .ok (.bipush 24, 2) := by decide +kernel
theorem dX12_dayEnds_40 : decode cX12_dayEnds 40 = .ok (.if_icmp .ge 63, 3) := by decide +kernel
theorem dX12_dayEnds_97 : decode cX12_dayEnds 97 = .ok (.iinc 1 1, 3) := by decide +kernel
theorem dX12_dayEnds_100 : decode cX12_dayEnds 100 = .ok (.goto (-63), 3) := by decide +kernel
theorem dX12_dayEnds_103 : decode cX12_dayEnds 103 = .ok (.return_, 1) := by decide +kernel
set_option maxHeartbeats 2000000 in
theorem r_day2 {Γ : jg_G} {g : Nat → jg_C} {n r : Nat} (hr : r + 11 ≤ n) (s : rs_S) (v : Nat → Int32) (hI : ∀ a, a < 24 → wb (ra_lowN v (a)) (1 + a) 200) : ∀ a, a ≤ 24 → jg Γ mX12_dayEnds 3 0 0 37 [some (.ref (r)), some (.int (nI (a)))] [] (rs_h g r (s.1, ra_lowN v (a), s.2.2), n) (jq (.inl none) (rs_h g r (s.1, ra_lowN v (24), s.2.2), n)) := by
  refine jd_down (c := 24) (P := fun a => jg Γ mX12_dayEnds 3 0 0 37 [some (.ref (r)), some (.int (nI (a)))] [] (rs_h g r (s.1, ra_lowN v (a), s.2.2), n) (jq (.inl none) (rs_h g r (s.1, ra_lowN v (24), s.2.2), n))) ?_
  intro a ha ih
  refine jg_iload_n dX12_dayEnds_37 rfl ?_
  refine jn_bipush (k := 24) dX12_dayEnds_38 (by decide) ?_
  refine jn_icmp_ge (x := a) (y := 24) (tgt := 103) dX12_dayEnds_40 (by decide) (by omega) (by omega) (fun c_1 => ?_) (fun c_1 => ?_)
  · skip
    obtain rfl : a = 24 := by omega
    exact jg_return dX12_dayEnds_103 rfl ⟨rfl, rfl⟩
  · skip
    refine r_low_l hr s a (by omega) _ (wn (ra_lowN v (a)) (1 + a)) (ra_lowN v (a)) (hI a (by omega)).2 (hI a (by omega)).1 ?_
    refine jn_iinc (x := a) (L' := [some (.ref (r)), some (.int (nI (a + 1)))]) dX12_dayEnds_97 rfl rfl (by decide) rfl ?_
    refine jg_goto (tgt := 37) dX12_dayEnds_100 (by decide) ?_
    refine jg_at_eq (ih (by omega)) rfl (rfl) rfl (rfl)
    -- on
theorem dX12_dayEnds_6 : decode cX12_dayEnds 6 = .ok (.iload_n 1, 1) := by decide +kernel
theorem dX12_dayEnds_7 : decode cX12_dayEnds 7 = .ok (.aload_n 0, 1) := by decide +kernel
theorem dX12_dayEnds_8 : decode cX12_dayEnds 8 = .ok (.getfield 13, 3) := by decide +kernel
theorem dX12_dayEnds_11 : decode cX12_dayEnds 11 = .ok (.sipush 179, 3) := by decide +kernel
theorem dX12_dayEnds_14 : decode cX12_dayEnds 14 = .ok (.iaload, 1) := by decide +kernel
theorem dX12_dayEnds_15 : decode cX12_dayEnds 15 = .ok (.if_icmp .ge 20, 3) := by decide +kernel
theorem dX12_dayEnds_18 : decode cX12_dayEnds 18 = .ok (.aload_n 0, 1) := by decide +kernel
theorem dX12_dayEnds_19 : decode cX12_dayEnds 19 = .ok (.sipush 180, 3) := by decide +kernel
theorem dX12_dayEnds_22 : decode cX12_dayEnds 22 = .ok (.iconst 3, 1) := by decide +kernel
theorem dX12_dayEnds_23 : decode cX12_dayEnds 23 = .ok (.iload_n 1, 1) := by decide +kernel
theorem dX12_dayEnds_24 : decode cX12_dayEnds 24 = .ok (.imul, 1) := by decide +kernel
theorem dX12_dayEnds_25 : decode cX12_dayEnds 25 = .ok (.iadd, 1) := by decide +kernel
theorem dX12_dayEnds_26 : decode cX12_dayEnds 26 = .ok (.invokevirtual 96, 3) := by decide +kernel
theorem dX12_dayEnds_29 : decode cX12_dayEnds 29 = .ok (.iinc 1 1, 3) := by decide +kernel
theorem dX12_dayEnds_32 : decode cX12_dayEnds 32 = .ok (.goto (-26), 3) := by decide +kernel
theorem dX12_dayEnds_35 : decode cX12_dayEnds 35 = .ok (.iconst 0, 1) := by decide +kernel
theorem dX12_dayEnds_36 : decode cX12_dayEnds 36 = .ok (.istore_n 1, 1) := by decide +kernel
set_option maxHeartbeats 2000000 in
theorem r_day1 {Γ : jg_G} {g : Nat → jg_C} {n r : Nat} (hr : r + 11 ≤ n) (s : rs_S)  (hc : wb s.2.1 179 6) (h179 : ∀ a, a ≤ wn s.2.1 179 → (ra_digN (ra_settle s.2.1) (a)) 179 = nI (wn s.2.1 179)) (hD : ∀ a, a < wn s.2.1 179 → wc (ra_digN (ra_settle s.2.1) (a)) (180 + (3) * (a) + 1) ∧ wc (ra_digN (ra_settle s.2.1) (a)) (180 + (3) * (a) + 2) ∧ ∀ c, c < 24 → wb (ra_digN (ra_settle s.2.1) (a)) (1 + c) 200) (hI : ∀ a, a < 24 → wb (ra_lowN (ra_digN (ra_settle s.2.1) (wn s.2.1 179)) (a)) (1 + a) 200) : ∀ a, a ≤ wn s.2.1 179 → jg Γ mX12_dayEnds 3 0 0 6 [some (.ref (r)), some (.int (nI (a)))] [] (rs_h g r (s.1, ra_digN (ra_settle s.2.1) (a), s.2.2), n) (jq (.inl none) (rs_h g r (s.1, ra_day s.2.1, s.2.2), n)) := by
  have hc_2 := hc.2
  refine jd_down (c := wn s.2.1 179) (P := fun a => jg Γ mX12_dayEnds 3 0 0 6 [some (.ref (r)), some (.int (nI (a)))] [] (rs_h g r (s.1, ra_digN (ra_settle s.2.1) (a), s.2.2), n) (jq (.inl none) (rs_h g r (s.1, ra_day s.2.1, s.2.2), n))) ?_
  intro a ha ih
  refine jg_iload_n dX12_dayEnds_6 rfl ?_
  refine jg_aload_n dX12_dayEnds_7 rfl ?_
  refine rs_ga fl_X12_13 dX12_dayEnds_8 hr rfl ?_
  refine jn_sipush (k := 179) dX12_dayEnds_11 (by decide) ?_
  refine rs_lwN (i := 179) (x := (nI (wn s.2.1 179))) (h179 a ha) dX12_dayEnds_14 hr (by omega) ?_
  refine jn_icmp_ge (x := a) (y := wn s.2.1 179) (tgt := 35) dX12_dayEnds_15 (by decide) (by omega) (by omega) (fun c_1 => ?_) (fun c_1 => ?_)
  · skip
    obtain rfl : a = wn s.2.1 179 := by omega
    refine jn_iconst (k := 0) dX12_dayEnds_35 (by decide) ?_
    refine jg_istore_n (L' := [some (.ref (r)), some (.int (nI (0)))]) dX12_dayEnds_36 (by decide) rfl ?_
    exact r_day2 hr s (ra_digN (ra_settle s.2.1) (wn s.2.1 179)) hI 0 (Nat.zero_le _)
  · skip
    refine jg_aload_n dX12_dayEnds_18 rfl ?_
    refine jn_sipush (k := 180) dX12_dayEnds_19 (by decide) ?_
    refine jn_iconst (k := 3) dX12_dayEnds_22 (by decide) ?_
    refine jg_iload_n dX12_dayEnds_23 rfl ?_
    refine jn_imul (x := 3) (y := a) dX12_dayEnds_24  ?_
    refine jn_iadd (x := 180) (y := (3) * (a)) dX12_dayEnds_25  ?_
    refine rs_call (As := [.int (nI (180 + (3) * (a)))]) kv_X12_96 dX12_dayEnds_26 hr rfl rfl (by decide) (Nat.le_of_ble_eq_true rfl) rfl (by decide) (Nat.le_of_ble_eq_true rfl) (r_digs hr (s.1, ra_digN (ra_settle s.2.1) (a), s.2.2) (180 + (3) * (a)) (by omega) (by omega) (hD a (by omega)).1 (hD a (by omega)).2.1 (hD a (by omega)).2.2) ?_
    refine jn_iinc (x := a) (L' := [some (.ref (r)), some (.int (nI (a + 1)))]) dX12_dayEnds_29 rfl rfl (by decide) rfl ?_
    refine jg_goto (tgt := 6) dX12_dayEnds_32 (by decide) ?_
    refine jg_at_eq (ih (by omega)) rfl (rfl) rfl (rfl)
theorem dX12_dayEnds_0 : decode cX12_dayEnds 0 = .ok (.aload_n 0, 1) := by decide +kernel
theorem dX12_dayEnds_1 : decode cX12_dayEnds 1 = .ok (.invokevirtual 93, 3) := by decide +kernel
theorem dX12_dayEnds_4 : decode cX12_dayEnds 4 = .ok (.iconst 0, 1) := by decide +kernel
theorem dX12_dayEnds_5 : decode cX12_dayEnds 5 = .ok (.istore_n 1, 1) := by decide +kernel
set_option maxHeartbeats 1000000 in
theorem r_dayEnds {Γ : jg_G} {g : Nat → jg_C} {n r : Nat} (hr : r + 11 ≤ n) (s : rs_S)  (hh : wb s.2.1 0 30000) (hrn : wb s.2.1 98 40) (h24 : 24 ≤ wn s.2.1 0) (hc : wb s.2.1 179 6) (h179 : ∀ a, a ≤ wn s.2.1 179 → (ra_digN (ra_settle s.2.1) (a)) 179 = nI (wn s.2.1 179)) (hD : ∀ a, a < wn s.2.1 179 → wc (ra_digN (ra_settle s.2.1) (a)) (180 + (3) * (a) + 1) ∧ wc (ra_digN (ra_settle s.2.1) (a)) (180 + (3) * (a) + 2) ∧ ∀ c, c < 24 → wb (ra_digN (ra_settle s.2.1) (a)) (1 + c) 200) (hI : ∀ a, a < 24 → wb (ra_lowN (ra_digN (ra_settle s.2.1) (wn s.2.1 179)) (a)) (1 + a) 200) : jc Γ mX12_dayEnds 3 0 0 [some (.ref (r)), none] (rs_h g r s, n) (.inl none) (rs_h g r (s.1, ra_day s.2.1, s.2.2), n) := by
  refine jc_of ?_
  refine jg_aload_n dX12_dayEnds_0 rfl ?_
  refine rs_call (As := []) kv_X12_93 dX12_dayEnds_1 hr rfl rfl (by decide) (Nat.le_of_ble_eq_true rfl) rfl (by decide) (Nat.le_of_ble_eq_true rfl) (r_settles hr s (by first | exact hh | (simp only [upd]; (repeat rw [if_neg (by omega)]); exact hh)) (by first | exact hrn | (simp only [upd]; (repeat rw [if_neg (by omega)]); exact hrn)) h24) ?_
  refine jn_iconst (k := 0) dX12_dayEnds_4 (by decide) ?_
  refine jg_istore_n (L' := [some (.ref (r)), some (.int (nI (0)))]) dX12_dayEnds_5 (by decide) rfl ?_
  exact r_day1 hr s hc h179 hD hI 0 (Nat.zero_le _)
