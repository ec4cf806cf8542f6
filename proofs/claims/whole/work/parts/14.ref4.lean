/-! THE REFERENCE: runOf, knownOf, lines of an act (by program wip/whole/ref4.py) -/
def ra_run (w : Nat → Int32) (day : Int32) (c : Nat) : Option Nat := pl (fun a => decide (w (99 + 2 * a) ≤ day)) (fun a => w (99 + 2 * a)) c
/-- the run of a day -/
def ra_runOf (w : Nat → Int32) (day : Int32) (c : Nat) : Int32 := match ra_run w day c with
  | none => nI 0
  | some b => w (99 + 2 * b + 1)
theorem dX12_runOf_5 : decode cX12_runOf 5 = .ok (.iload_n 3, 1) := by decide +kernel
theorem dX12_runOf_6 : decode cX12_runOf 6 = .ok (.bipush 99, 2) := by decide +kernel
theorem dX12_runOf_8 : decode cX12_runOf 8 = .ok (.iconst 2, 1) := by decide +kernel
theorem dX12_runOf_9 : decode cX12_runOf 9 = .ok (.aload_n 0, 1) := by decide +kernel
theorem dX12_runOf_10 : decode cX12_runOf 10 = .ok (.getfield 13, 3) := by decide +kernel
theorem dX12_runOf_13 : decode cX12_runOf 13 = .ok (.bipush 98, 2) := by decide +kernel
theorem dX12_runOf_15 : decode cX12_runOf 15 = .ok (.iaload, 1) := by decide +kernel
theorem dX12_runOf_16 : decode cX12_runOf 16 = .ok (.imul, 1) := by decide +kernel
theorem dX12_runOf_17 : decode cX12_runOf 17 = .ok (.iadd, 1) := by decide +kernel
theorem dX12_runOf_18 : decode cX12_runOf 18 = .ok (.if_icmp .ge 40, 3) := by decide +kernel
theorem dX12_runOf_21 : decode cX12_runOf 21 = .ok (.aload_n 0, 1) := by decide +kernel
theorem dX12_runOf_22 : decode cX12_runOf 22 = .ok (.getfield 13, 3) := by decide +kernel
theorem dX12_runOf_25 : decode cX12_runOf 25 = .ok (.iload_n 3, 1) := by decide +kernel
theorem dX12_runOf_26 : decode cX12_runOf 26 = .ok (.iaload, 1) := by decide +kernel
theorem dX12_runOf_27 : decode cX12_runOf 27 = .ok (.iload_n 1, 1) := by decide +kernel
theorem dX12_runOf_28 : decode cX12_runOf 28 = .ok (.if_icmp .gt 24, 3) := by decide +kernel
theorem dX12_runOf_31 : decode cX12_runOf 31 = .ok (.iload_n 2, 1) := by decide +kernel
theorem dX12_runOf_32 : decode cX12_runOf 32 = .ok (.ifCond .lt 18, 3) := by decide +kernel
theorem dX12_runOf_50 : decode cX12_runOf 50 = .ok (.iload_n 3, 1) := by decide +kernel
theorem dX12_runOf_51 : decode cX12_runOf 51 = .ok (.istore_n 2, 1) := by decide +kernel
theorem dX12_runOf_52 : decode cX12_runOf 52 = .ok (.iinc 3 2, 3) := by decide +kernel
theorem dX12_runOf_55 : decode cX12_runOf 55 = .ok (.goto (-50), 3) := by decide +kernel
theorem dX12_runOf_58 : decode cX12_runOf 58 = .ok (.iload_n 2, 1) := by decide +kernel
theorem dX12_runOf_59 : decode cX12_runOf 59 = .ok (.ifCond .ge 7, 3) := by decide +kernel
theorem dX12_runOf_62 : decode cX12_runOf 62 = .ok (.iconst 0, 1) := by decide +kernel
theorem dX12_runOf_63 : decode cX12_runOf 63 = .ok (.goto 11, 3) := by decide +kernel
theorem dX12_runOf_74 : decode cX12_runOf 74 = .ok (.ireturn, 1) := by decide +kernel
theorem dX12_runOf_35 : decode cX12_runOf 35 = .ok (.aload_n 0, 1) := by decide +kernel
theorem dX12_runOf_36 : decode cX12_runOf 36 = .ok (.getfield 13, 3) := by decide +kernel
theorem dX12_runOf_39 : decode cX12_runOf 39 = .ok (.iload_n 3, 1) := by decide +kernel
theorem dX12_runOf_40 : decode cX12_runOf 40 = .ok (.iaload, 1) := by decide +kernel
theorem dX12_runOf_41 : decode cX12_runOf 41 = .ok (.aload_n 0, 1) := by decide +kernel
theorem dX12_runOf_42 : decode cX12_runOf 42 = .ok (.getfield 13, 3) := by decide +kernel
theorem dX12_runOf_45 : decode cX12_runOf 45 = .ok (.iload_n 2, 1) := by decide +kernel
theorem dX12_runOf_46 : decode cX12_runOf 46 = .ok (.iaload, 1) := by decide +kernel
theorem dX12_runOf_47 : decode cX12_runOf 47 = .ok (.if_icmp .lt 5, 3) := by decide +kernel
theorem dX12_runOf_66 : decode cX12_runOf 66 = .ok (.aload_n 0, 1) := by decide +kernel
theorem dX12_runOf_67 : decode cX12_runOf 67 = .ok (.getfield 13, 3) := by decide +kernel
theorem dX12_runOf_70 : decode cX12_runOf 70 = .ok (.iload_n 2, 1) := by decide +kernel
theorem dX12_runOf_71 : decode cX12_runOf 71 = .ok (.iconst 1, 1) := by decide +kernel
theorem dX12_runOf_72 : decode cX12_runOf 72 = .ok (.iadd, 1) := by decide +kernel
theorem dX12_runOf_73 : decode cX12_runOf 73 = .ok (.iaload, 1) := by decide +kernel
set_option maxHeartbeats 2000000 in
theorem r_runOf_l {Γ : jg_G} {g : Nat → jg_C} {n r : Nat} (hr : r + 11 ≤ n) (s : rs_S) (day : Int32) (hc : wb s.2.1 98 40) : ∀ a, a ≤ wn s.2.1 98 → jg Γ mX12_runOf 0 0 0 5 [some (.ref (r)), some (.int (day)), some (.int (ox 99 2 (ra_run s.2.1 day a))), some (.int (nI (99 + 2 * (a))))] [] (rs_h g r s, n) (jq (.inl (some (.int (ra_runOf s.2.1 day (wn s.2.1 98))))) (rs_h g r s, n)) := by
  refine jd_down (c := wn s.2.1 98) (P := fun a => jg Γ mX12_runOf 0 0 0 5 [some (.ref (r)), some (.int (day)), some (.int (ox 99 2 (ra_run s.2.1 day a))), some (.int (nI (99 + 2 * (a))))] [] (rs_h g r s, n) (jq (.inl (some (.int (ra_runOf s.2.1 day (wn s.2.1 98))))) (rs_h g r s, n))) ?_
  intro a ha ih
  cases hb : ra_run s.2.1 day a with
  | none =>
    refine jg_iload_n dX12_runOf_5 rfl ?_
    refine jn_bipush (k := 99) dX12_runOf_6 (by decide) ?_
    refine jn_iconst (k := 2) dX12_runOf_8 (by decide) ?_
    refine jg_aload_n dX12_runOf_9 rfl ?_
    refine rs_ga fl_X12_13 dX12_runOf_10 hr rfl ?_
    refine jn_bipush (k := 98) dX12_runOf_13 (by decide) ?_
    refine rs_lwN (i := 98) (x := (nI (wn s.2.1 98))) (hc.1) dX12_runOf_15 hr (by have := hc.2; omega) ?_
    refine jn_imul (x := 2) (y := wn s.2.1 98) dX12_runOf_16  ?_
    refine jn_iadd (x := 99) (y := (2) * (wn s.2.1 98)) dX12_runOf_17  ?_
    refine jn_icmp_ge (x := 99 + 2 * (a)) (y := 99 + (2) * (wn s.2.1 98)) (tgt := 58) dX12_runOf_18 (by decide) (by have := hc.2; omega) (by have := hc.2; omega) (fun c_1 => ?_) (fun c_1 => ?_)
    · skip
      refine jg_iload_n dX12_runOf_58 rfl ?_
      refine jg_if_ge (x := (-1)) (tgt := 66) dX12_runOf_59 (by decide) (fun q9 => absurd q9 (by decide)) (fun _ => ?_)
      refine jn_iconst (k := 0) dX12_runOf_62 (by decide) ?_
      refine jg_goto (tgt := 74) dX12_runOf_63 (by decide) ?_
      exact jg_ireturn dX12_runOf_74 rfl ⟨by rw [show a = wn s.2.1 98 by omega] at hb; simp [ra_runOf, hb], rfl⟩
    · skip
      refine jg_aload_n dX12_runOf_21 rfl ?_
      refine rs_ga fl_X12_13 dX12_runOf_22 hr rfl ?_
      refine jg_iload_n dX12_runOf_25 rfl ?_
      refine rs_lw (i := 99 + 2 * (a)) dX12_runOf_26 hr (by have := hc.2; omega) ?_
      refine jg_iload_n dX12_runOf_27 rfl ?_
      refine jg_icmp_gt (x := ((s.2.1) (99 + 2 * (a)))) (y := (day)) (tgt := 52) dX12_runOf_28 (by decide) (fun c_2 => ?_) (fun c_2 => ?_)
      · skip
        refine jg_iinc (x := nI (99 + 2 * (a))) (v := nI (99 + 2 * (a) + 2)) (L' := [some (.ref (r)), some (.int (day)), some (.int (-1)), some (.int (nI (99 + 2 * (a) + 2)))]) dX12_runOf_52 rfl (nI_add _ 2) (by decide) rfl ?_
        refine jg_goto (tgt := 5) dX12_runOf_55 (by decide) ?_
        have i9 := ih (by omega)
        rw [show ra_run s.2.1 day (a + 1) = none from pl_n0 hb (by simpa using c_2)] at i9
        refine jg_at_eq i9 rfl ?_ rfl rfl
        simp [ox]
        try (exact congrArg nI (by omega))
      · skip
        refine jg_iload_n dX12_runOf_31 rfl ?_
        refine jg_if_lt (x := (-1)) (tgt := 50) dX12_runOf_32 (by decide) (fun _ => ?_) (fun q9 => absurd (by decide) q9)
        refine jg_iload_n dX12_runOf_50 rfl ?_
        refine jg_istore_n (L' := [some (.ref (r)), some (.int (day)), some (.int (nI (99 + 2 * (a)))), some (.int (nI (99 + 2 * (a))))]) dX12_runOf_51 (by decide) rfl ?_
        refine jg_iinc (x := nI (99 + 2 * (a))) (v := nI (99 + 2 * (a) + 2)) (L' := [some (.ref (r)), some (.int (day)), some (.int (nI (99 + 2 * (a)))), some (.int (nI (99 + 2 * (a) + 2)))]) dX12_runOf_52 rfl (nI_add _ 2) (by decide) rfl ?_
        refine jg_goto (tgt := 5) dX12_runOf_55 (by decide) ?_
        have i9 := ih (by omega)
        rw [show ra_run s.2.1 day (a + 1) = some a from pl_n1 hb (by simpa using c_2)] at i9
        refine jg_at_eq i9 rfl ?_ rfl rfl
        simp [ox]
        try (exact congrArg nI (by omega))
  | some b =>
    have hb2 := pl_lt hb
    refine jg_iload_n dX12_runOf_5 rfl ?_
    refine jn_bipush (k := 99) dX12_runOf_6 (by decide) ?_
    refine jn_iconst (k := 2) dX12_runOf_8 (by decide) ?_
    refine jg_aload_n dX12_runOf_9 rfl ?_
    refine rs_ga fl_X12_13 dX12_runOf_10 hr rfl ?_
    refine jn_bipush (k := 98) dX12_runOf_13 (by decide) ?_
    refine rs_lwN (i := 98) (x := (nI (wn s.2.1 98))) (hc.1) dX12_runOf_15 hr (by have := hc.2; omega) ?_
    refine jn_imul (x := 2) (y := wn s.2.1 98) dX12_runOf_16  ?_
    refine jn_iadd (x := 99) (y := (2) * (wn s.2.1 98)) dX12_runOf_17  ?_
    refine jn_icmp_ge (x := 99 + 2 * (a)) (y := 99 + (2) * (wn s.2.1 98)) (tgt := 58) dX12_runOf_18 (by decide) (by have := hc.2; omega) (by have := hc.2; omega) (fun c_1 => ?_) (fun c_1 => ?_)
    · skip
      refine jg_iload_n dX12_runOf_58 rfl ?_
      refine jg_if_ge (x := (nI (99 + 2 * b))) (tgt := 66) dX12_runOf_59 (by decide) (fun _ => ?_) (fun q9 => absurd (nI_pos' (by have := hc.2; omega)) q9)
      refine jg_aload_n dX12_runOf_66 rfl ?_
      refine rs_ga fl_X12_13 dX12_runOf_67 hr rfl ?_
      refine jg_iload_n dX12_runOf_70 rfl ?_
      refine jn_iconst (k := 1) dX12_runOf_71 (by decide) ?_
      refine jn_iadd (x := 99 + 2 * b) (y := 1) dX12_runOf_72  ?_
      refine rs_lw (i := 99 + 2 * b + 1) dX12_runOf_73 hr (by have := hc.2; omega) ?_
      exact jg_ireturn dX12_runOf_74 rfl ⟨by rw [show a = wn s.2.1 98 by omega] at hb; simp [ra_runOf, hb], rfl⟩
    · skip
      refine jg_aload_n dX12_runOf_21 rfl ?_
      refine rs_ga fl_X12_13 dX12_runOf_22 hr rfl ?_
      refine jg_iload_n dX12_runOf_25 rfl ?_
      refine rs_lw (i := 99 + 2 * (a)) dX12_runOf_26 hr (by have := hc.2; omega) ?_
      refine jg_iload_n dX12_runOf_27 rfl ?_
      refine jg_icmp_gt (x := ((s.2.1) (99 + 2 * (a)))) (y := (day)) (tgt := 52) dX12_runOf_28 (by decide) (fun c_2 => ?_) (fun c_2 => ?_)
      · skip
        refine jg_iinc (x := nI (99 + 2 * (a))) (v := nI (99 + 2 * (a) + 2)) (L' := [some (.ref (r)), some (.int (day)), some (.int (nI (99 + 2 * b))), some (.int (nI (99 + 2 * (a) + 2)))]) dX12_runOf_52 rfl (nI_add _ 2) (by decide) rfl ?_
        refine jg_goto (tgt := 5) dX12_runOf_55 (by decide) ?_
        have i9 := ih (by omega)
        rw [show ra_run s.2.1 day (a + 1) = some b from pl_s0 hb (by simp only [decide_eq_true_eq]; rintro ⟨q1, q2⟩; first | exact absurd q1 (Int32.not_le.mpr c_2) | exact absurd q2 (Int32.not_le.mpr c_3))] at i9
        refine jg_at_eq i9 rfl ?_ rfl rfl
        simp [ox]
        try (exact congrArg nI (by omega))
      · skip
        refine jg_iload_n dX12_runOf_31 rfl ?_
        refine jg_if_lt (x := (nI (99 + 2 * b))) (tgt := 50) dX12_runOf_32 (by decide) (fun q9 => absurd q9 (nI_pos (by have := hc.2; omega))) (fun _ => ?_)
        refine jg_aload_n dX12_runOf_35 rfl ?_
        refine rs_ga fl_X12_13 dX12_runOf_36 hr rfl ?_
        refine jg_iload_n dX12_runOf_39 rfl ?_
        refine rs_lw (i := 99 + 2 * (a)) dX12_runOf_40 hr (by have := hc.2; omega) ?_
        refine jg_aload_n dX12_runOf_41 rfl ?_
        refine rs_ga fl_X12_13 dX12_runOf_42 hr rfl ?_
        refine jg_iload_n dX12_runOf_45 rfl ?_
        refine rs_lw (i := 99 + 2 * b) dX12_runOf_46 hr (by have := hc.2; omega) ?_
        refine jg_icmp_lt (x := ((s.2.1) (99 + 2 * (a)))) (y := ((s.2.1) (99 + 2 * b))) (tgt := 52) dX12_runOf_47 (by decide) (fun c_3 => ?_) (fun c_3 => ?_)
        · skip
          refine jg_iinc (x := nI (99 + 2 * (a))) (v := nI (99 + 2 * (a) + 2)) (L' := [some (.ref (r)), some (.int (day)), some (.int (nI (99 + 2 * b))), some (.int (nI (99 + 2 * (a) + 2)))]) dX12_runOf_52 rfl (nI_add _ 2) (by decide) rfl ?_
          refine jg_goto (tgt := 5) dX12_runOf_55 (by decide) ?_
          have i9 := ih (by omega)
          rw [show ra_run s.2.1 day (a + 1) = some b from pl_s0 hb (by simp only [decide_eq_true_eq]; rintro ⟨q1, q2⟩; first | exact absurd q1 (Int32.not_le.mpr c_2) | exact absurd q2 (Int32.not_le.mpr c_3))] at i9
          refine jg_at_eq i9 rfl ?_ rfl rfl
          simp [ox]
          try (exact congrArg nI (by omega))
        · skip
          refine jg_iload_n dX12_runOf_50 rfl ?_
          refine jg_istore_n (L' := [some (.ref (r)), some (.int (day)), some (.int (nI (99 + 2 * (a)))), some (.int (nI (99 + 2 * (a))))]) dX12_runOf_51 (by decide) rfl ?_
          refine jg_iinc (x := nI (99 + 2 * (a))) (v := nI (99 + 2 * (a) + 2)) (L' := [some (.ref (r)), some (.int (day)), some (.int (nI (99 + 2 * (a)))), some (.int (nI (99 + 2 * (a) + 2)))]) dX12_runOf_52 rfl (nI_add _ 2) (by decide) rfl ?_
          refine jg_goto (tgt := 5) dX12_runOf_55 (by decide) ?_
          have i9 := ih (by omega)
          rw [show ra_run s.2.1 day (a + 1) = some a from pl_s1 hb (by simpa using c_2) (by simpa using c_3)] at i9
          refine jg_at_eq i9 rfl ?_ rfl rfl
          simp [ox]
          try (exact congrArg nI (by omega))
theorem dX12_runOf_0 : decode cX12_runOf 0 = .ok (.iconst (-1), 1) := by decide +kernel
theorem dX12_runOf_1 : decode cX12_runOf 1 = .ok (.istore_n 2, 1) := by decide +kernel
theorem dX12_runOf_2 : decode cX12_runOf 2 = .ok (.bipush 99, 2) := by decide +kernel
theorem dX12_runOf_4 : decode cX12_runOf 4 = .ok (.istore_n 3, 1) := by decide +kernel
set_option maxHeartbeats 1000000 in
theorem r_runOf {Γ : jg_G} {g : Nat → jg_C} {n r : Nat} (hr : r + 11 ≤ n) (s : rs_S) (day : Int32) (hc : wb s.2.1 98 40) : jc Γ mX12_runOf 0 0 0 [some (.ref (r)), some (.int (day)), none, none] (rs_h g r s, n) (.inl (some (.int (ra_runOf s.2.1 day (wn s.2.1 98))))) (rs_h g r s, n) := by
  refine jc_of ?_
  refine jg_iconst (v := -1) dX12_runOf_0 (by decide) ?_
  refine jg_istore_n (L' := [some (.ref (r)), some (.int (day)), some (.int (-1)), none]) dX12_runOf_1 (by decide) rfl ?_
  refine jn_bipush (k := 99) dX12_runOf_2 (by decide) ?_
  refine jg_istore_n (L' := [some (.ref (r)), some (.int (day)), some (.int (-1)), some (.int (nI (99)))]) dX12_runOf_4 (by decide) rfl ?_
  exact r_runOf_l hr s day hc 0 (Nat.zero_le _)
def ra_snd (w : Nat → Int32) (c t : Int32) (m : Nat) : Option Nat := pl (fun a => decide (w (199 + 4 * a) = c ∧ w (199 + 4 * a + 3) ≤ t)) (fun a => w (199 + 4 * a + 1)) m
/-- the known depth of the cell k as of t -/
def ra_known (w : Nat → Int32) (k : Nat) (t : Int32) (m : Nat) : Int32 := match ra_snd w (nI k) t m with
  | none => w (25 + k)
  | some b => w (199 + 4 * b + 2)
theorem dX12_knownOf_7 : decode cX12_knownOf 7 = .ok (.iload 4, 2) := by decide +kernel
theorem dX12_knownOf_9 : decode cX12_knownOf 9 = .ok (.sipush 199, 3) := by decide +kernel
theorem dX12_knownOf_12 : decode cX12_knownOf 12 = .ok (.iconst 4, 1) := by decide +kernel
theorem dX12_knownOf_13 : decode cX12_knownOf 13 = .ok (.aload_n 0, 1) := by decide +kernel
theorem dX12_knownOf_14 : decode cX12_knownOf 14 = .ok (.getfield 13, 3) := by decide +kernel
theorem dX12_knownOf_17 : decode cX12_knownOf 17 = .ok (.sipush 198, 3) := by decide +kernel
theorem dX12_knownOf_20 : decode cX12_knownOf 20 = .ok (.iaload, 1) := by decide +kernel
theorem dX12_knownOf_21 : decode cX12_knownOf 21 = .ok (.imul, 1) := by decide +kernel
theorem dX12_knownOf_22 : decode cX12_knownOf 22 = .ok (.iadd, 1) := by decide +kernel
theorem dX12_knownOf_23 : decode cX12_knownOf 23 = .ok (.if_icmp .ge 63, 3) := by decide +kernel
theorem dX12_knownOf_26 : decode cX12_knownOf 26 = .ok (.aload_n 0, 1) := by decide +kernel
theorem dX12_knownOf_27 : decode cX12_knownOf 27 = .ok (.getfield 13, 3) := by decide +kernel
theorem dX12_knownOf_30 : decode cX12_knownOf 30 = .ok (.iload 4, 2) := by decide +kernel
theorem dX12_knownOf_32 : decode cX12_knownOf 32 = .ok (.iaload, 1) := by decide +kernel
theorem dX12_knownOf_33 : decode cX12_knownOf 33 = .ok (.iload_n 1, 1) := by decide +kernel
theorem dX12_knownOf_34 : decode cX12_knownOf 34 = .ok (.if_icmp .ne 46, 3) := by decide +kernel
theorem dX12_knownOf_37 : decode cX12_knownOf 37 = .ok (.aload_n 0, 1) := by decide +kernel
theorem dX12_knownOf_38 : decode cX12_knownOf 38 = .ok (.getfield 13, 3) := by decide +kernel
theorem dX12_knownOf_41 : decode cX12_knownOf 41 = .ok (.iload 4, 2) := by decide +kernel
theorem dX12_knownOf_43 : decode cX12_knownOf 43 = .ok (.iconst 3, 1) := by decide +kernel
theorem dX12_knownOf_44 : decode cX12_knownOf 44 = .ok (.iadd, 1) := by decide +kernel
theorem dX12_knownOf_45 : decode cX12_knownOf 45 = .ok (.iaload, 1) := by decide +kernel
theorem dX12_knownOf_46 : decode cX12_knownOf 46 = .ok (.iload_n 2, 1) := by decide +kernel
theorem dX12_knownOf_47 : decode cX12_knownOf 47 = .ok (.if_icmp .le 6, 3) := by decide +kernel
theorem dX12_knownOf_50 : decode cX12_knownOf 50 = .ok (.goto 30, 3) := by decide +kernel
theorem dX12_knownOf_53 : decode cX12_knownOf 53 = .ok (.iload_n 3, 1) := by decide +kernel
theorem dX12_knownOf_54 : decode cX12_knownOf 54 = .ok (.ifCond .lt 23, 3) := by decide +kernel
theorem dX12_knownOf_77 : decode cX12_knownOf 77 = .ok (.iload 4, 2) := by decide +kernel
theorem dX12_knownOf_79 : decode cX12_knownOf 79 = .ok (.istore_n 3, 1) := by decide +kernel
theorem dX12_knownOf_80 : decode cX12_knownOf 80 = .ok (.iinc 4 4, 3) := by decide +kernel
theorem dX12_knownOf_83 : decode cX12_knownOf 83 = .ok (.goto (-76), 3) := by decide +kernel
theorem dX12_knownOf_86 : decode cX12_knownOf 86 = .ok (.iload_n 3, 1) := by decide +kernel
theorem dX12_knownOf_87 : decode cX12_knownOf 87 = .ok (.ifCond .ge 15, 3) := by decide +kernel
theorem dX12_knownOf_90 : decode cX12_knownOf 90 = .ok (.aload_n 0, 1) := by decide +kernel
theorem dX12_knownOf_91 : decode cX12_knownOf 91 = .ok (.getfield 13, 3) := by decide +kernel
theorem dX12_knownOf_94 : decode cX12_knownOf 94 = .ok (.bipush 25, 2) := by decide +kernel
theorem dX12_knownOf_96 : decode cX12_knownOf 96 = .ok (.iload_n 1, 1) := by decide +kernel
theorem dX12_knownOf_97 : decode cX12_knownOf 97 = .ok (.iadd, 1) := by decide +kernel
theorem dX12_knownOf_98 : decode cX12_knownOf 98 = .ok (.iaload, 1) := by decide +kernel
theorem dX12_knownOf_99 : decode cX12_knownOf 99 = .ok (.goto 11, 3) := by decide +kernel
theorem dX12_knownOf_110 : decode cX12_knownOf 110 = .ok (.ireturn, 1) := by decide +kernel
theorem dX12_knownOf_57 : decode cX12_knownOf 57 = .ok (.aload_n 0, 1) := by decide +kernel
theorem dX12_knownOf_58 : decode cX12_knownOf 58 = .ok (.getfield 13, 3) := by decide +kernel
theorem dX12_knownOf_61 : decode cX12_knownOf 61 = .ok (.iload 4, 2) := by decide +kernel
theorem dX12_knownOf_63 : decode cX12_knownOf 63 = .ok (.iconst 1, 1) := by decide +kernel
theorem dX12_knownOf_64 : decode cX12_knownOf 64 = .ok (.iadd, 1) := by decide +kernel
theorem dX12_knownOf_65 : decode cX12_knownOf 65 = .ok (.iaload, 1) := by decide +kernel
theorem dX12_knownOf_66 : decode cX12_knownOf 66 = .ok (.aload_n 0, 1) := by decide +kernel
theorem dX12_knownOf_67 : decode cX12_knownOf 67 = .ok (.getfield 13, 3) := by decide +kernel
theorem dX12_knownOf_70 : decode cX12_knownOf 70 = .ok (.iload_n 3, 1) := by decide +kernel
theorem dX12_knownOf_71 : decode cX12_knownOf 71 = .ok (.iconst 1, 1) := by decide +kernel
theorem dX12_knownOf_72 : decode cX12_knownOf 72 = .ok (.iadd, 1) := by decide +kernel
theorem dX12_knownOf_73 : decode cX12_knownOf 73 = .ok (.iaload, 1) := by decide +kernel
theorem dX12_knownOf_74 : decode cX12_knownOf 74 = .ok (.if_icmp .lt 6, 3) := by decide +kernel
theorem dX12_knownOf_102 : decode cX12_knownOf 102 = .ok (.aload_n 0, 1) := by decide +kernel
theorem dX12_knownOf_103 : decode cX12_knownOf 103 = .ok (.getfield 13, 3) := by decide +kernel
theorem dX12_knownOf_106 : decode cX12_knownOf 106 = .ok (.iload_n 3, 1) := by decide +kernel
theorem dX12_knownOf_107 : decode cX12_knownOf 107 = .ok (.iconst 2, 1) := by decide +kernel
theorem dX12_knownOf_108 : decode cX12_knownOf 108 = .ok (.iadd, 1) := by decide +kernel
theorem dX12_knownOf_109 : decode cX12_knownOf 109 = .ok (.iaload, 1) := by decide +kernel
set_option maxHeartbeats 2000000 in
theorem r_knownOf_l {Γ : jg_G} {g : Nat → jg_C} {n r : Nat} (hr : r + 11 ≤ n) (s : rs_S) (k : Nat) (t : Int32) (hc : wb s.2.1 198 200) (hk : k < 24) : ∀ a, a ≤ wn s.2.1 198 → jg Γ mX12_knownOf 0 0 0 7 [some (.ref (r)), some (.int (nI k)), some (.int (t)), some (.int (ox 199 4 (ra_snd s.2.1 (nI k) t a))), some (.int (nI (199 + 4 * (a))))] [] (rs_h g r s, n) (jq (.inl (some (.int (ra_known s.2.1 k t (wn s.2.1 198))))) (rs_h g r s, n)) := by
  refine jd_down (c := wn s.2.1 198) (P := fun a => jg Γ mX12_knownOf 0 0 0 7 [some (.ref (r)), some (.int (nI k)), some (.int (t)), some (.int (ox 199 4 (ra_snd s.2.1 (nI k) t a))), some (.int (nI (199 + 4 * (a))))] [] (rs_h g r s, n) (jq (.inl (some (.int (ra_known s.2.1 k t (wn s.2.1 198))))) (rs_h g r s, n))) ?_
  intro a ha ih
  cases hb : ra_snd s.2.1 (nI k) t a with
  | none =>
    refine jg_iload dX12_knownOf_7 rfl ?_
    refine jn_sipush (k := 199) dX12_knownOf_9 (by decide) ?_
    refine jn_iconst (k := 4) dX12_knownOf_12 (by decide) ?_
    refine jg_aload_n dX12_knownOf_13 rfl ?_
    refine rs_ga fl_X12_13 dX12_knownOf_14 hr rfl ?_
    refine jn_sipush (k := 198) dX12_knownOf_17 (by decide) ?_
    refine rs_lwN (i := 198) (x := (nI (wn s.2.1 198))) (hc.1) dX12_knownOf_20 hr (by have := hc.2; omega) ?_
    refine jn_imul (x := 4) (y := wn s.2.1 198) dX12_knownOf_21  ?_
    refine jn_iadd (x := 199) (y := (4) * (wn s.2.1 198)) dX12_knownOf_22  ?_
    refine jn_icmp_ge (x := 199 + 4 * (a)) (y := 199 + (4) * (wn s.2.1 198)) (tgt := 86) dX12_knownOf_23 (by decide) (by have := hc.2; omega) (by have := hc.2; omega) (fun c_1 => ?_) (fun c_1 => ?_)
    · skip
      refine jg_iload_n dX12_knownOf_86 rfl ?_
      refine jg_if_ge (x := (-1)) (tgt := 102) dX12_knownOf_87 (by decide) (fun q9 => absurd q9 (by decide)) (fun _ => ?_)
      refine jg_aload_n dX12_knownOf_90 rfl ?_
      refine rs_ga fl_X12_13 dX12_knownOf_91 hr rfl ?_
      refine jn_bipush (k := 25) dX12_knownOf_94 (by decide) ?_
      refine jg_iload_n dX12_knownOf_96 rfl ?_
      refine jn_iadd (x := 25) (y := k) dX12_knownOf_97  ?_
      refine rs_lw (i := 25 + k) dX12_knownOf_98 hr (by have := hc.2; omega) ?_
      refine jg_goto (tgt := 110) dX12_knownOf_99 (by decide) ?_
      exact jg_ireturn dX12_knownOf_110 rfl ⟨by rw [show a = wn s.2.1 198 by omega] at hb; simp [ra_known, hb], rfl⟩
    · skip
      refine jg_aload_n dX12_knownOf_26 rfl ?_
      refine rs_ga fl_X12_13 dX12_knownOf_27 hr rfl ?_
      refine jg_iload dX12_knownOf_30 rfl ?_
      refine rs_lw (i := 199 + 4 * (a)) dX12_knownOf_32 hr (by have := hc.2; omega) ?_
      refine jg_iload_n dX12_knownOf_33 rfl ?_
      refine jg_icmp_ne (x := ((s.2.1) (199 + 4 * (a)))) (y := (nI (k))) (tgt := 80) dX12_knownOf_34 (by decide) (fun c_2 => ?_) (fun c_2 => ?_)
      · skip
        refine jg_iinc (x := nI (199 + 4 * (a))) (v := nI (199 + 4 * (a) + 4)) (L' := [some (.ref (r)), some (.int (nI (k))), some (.int (t)), some (.int (-1)), some (.int (nI (199 + 4 * (a) + 4)))]) dX12_knownOf_80 rfl (nI_add _ 4) (by decide) rfl ?_
        refine jg_goto (tgt := 7) dX12_knownOf_83 (by decide) ?_
        have i9 := ih (by omega)
        rw [show ra_snd s.2.1 (nI k) t (a + 1) = none from pl_n0 hb (by simp only [decide_eq_true_eq]; rintro ⟨q1, q2⟩; first | exact c_2 q1 | exact c_3 q2)] at i9
        refine jg_at_eq i9 rfl ?_ rfl rfl
        simp [ox]
        try (exact congrArg nI (by omega))
      · skip
        refine jg_aload_n dX12_knownOf_37 rfl ?_
        refine rs_ga fl_X12_13 dX12_knownOf_38 hr rfl ?_
        refine jg_iload dX12_knownOf_41 rfl ?_
        refine jn_iconst (k := 3) dX12_knownOf_43 (by decide) ?_
        refine jn_iadd (x := 199 + 4 * (a)) (y := 3) dX12_knownOf_44  ?_
        refine rs_lw (i := 199 + 4 * (a) + 3) dX12_knownOf_45 hr (by have := hc.2; omega) ?_
        refine jg_iload_n dX12_knownOf_46 rfl ?_
        refine jg_icmp_le (x := ((s.2.1) (199 + 4 * (a) + 3))) (y := (t)) (tgt := 53) dX12_knownOf_47 (by decide) (fun c_3 => ?_) (fun c_3 => ?_)
        · skip
          refine jg_iload_n dX12_knownOf_53 rfl ?_
          refine jg_if_lt (x := (-1)) (tgt := 77) dX12_knownOf_54 (by decide) (fun _ => ?_) (fun q9 => absurd (by decide) q9)
          refine jg_iload dX12_knownOf_77 rfl ?_
          refine jg_istore_n (L' := [some (.ref (r)), some (.int (nI (k))), some (.int (t)), some (.int (nI (199 + 4 * (a)))), some (.int (nI (199 + 4 * (a))))]) dX12_knownOf_79 (by decide) rfl ?_
          refine jg_iinc (x := nI (199 + 4 * (a))) (v := nI (199 + 4 * (a) + 4)) (L' := [some (.ref (r)), some (.int (nI (k))), some (.int (t)), some (.int (nI (199 + 4 * (a)))), some (.int (nI (199 + 4 * (a) + 4)))]) dX12_knownOf_80 rfl (nI_add _ 4) (by decide) rfl ?_
          refine jg_goto (tgt := 7) dX12_knownOf_83 (by decide) ?_
          have i9 := ih (by omega)
          rw [show ra_snd s.2.1 (nI k) t (a + 1) = some a from pl_n1 hb (by simp only [decide_eq_true_eq]; exact ⟨c_2, c_3⟩)] at i9
          refine jg_at_eq i9 rfl ?_ rfl rfl
          simp [ox]
          try (exact congrArg nI (by omega))
        · skip
          refine jg_goto (tgt := 80) dX12_knownOf_50 (by decide) ?_
          refine jg_iinc (x := nI (199 + 4 * (a))) (v := nI (199 + 4 * (a) + 4)) (L' := [some (.ref (r)), some (.int (nI (k))), some (.int (t)), some (.int (-1)), some (.int (nI (199 + 4 * (a) + 4)))]) dX12_knownOf_80 rfl (nI_add _ 4) (by decide) rfl ?_
          refine jg_goto (tgt := 7) dX12_knownOf_83 (by decide) ?_
          have i9 := ih (by omega)
          rw [show ra_snd s.2.1 (nI k) t (a + 1) = none from pl_n0 hb (by simp only [decide_eq_true_eq]; rintro ⟨q1, q2⟩; first | exact c_2 q1 | exact c_3 q2)] at i9
          refine jg_at_eq i9 rfl ?_ rfl rfl
          simp [ox]
          try (exact congrArg nI (by omega))
  | some b =>
    have hb2 := pl_lt hb
    refine jg_iload dX12_knownOf_7 rfl ?_
    refine jn_sipush (k := 199) dX12_knownOf_9 (by decide) ?_
    refine jn_iconst (k := 4) dX12_knownOf_12 (by decide) ?_
    refine jg_aload_n dX12_knownOf_13 rfl ?_
    refine rs_ga fl_X12_13 dX12_knownOf_14 hr rfl ?_
    refine jn_sipush (k := 198) dX12_knownOf_17 (by decide) ?_
    refine rs_lwN (i := 198) (x := (nI (wn s.2.1 198))) (hc.1) dX12_knownOf_20 hr (by have := hc.2; omega) ?_
    refine jn_imul (x := 4) (y := wn s.2.1 198) dX12_knownOf_21  ?_
    refine jn_iadd (x := 199) (y := (4) * (wn s.2.1 198)) dX12_knownOf_22  ?_
    refine jn_icmp_ge (x := 199 + 4 * (a)) (y := 199 + (4) * (wn s.2.1 198)) (tgt := 86) dX12_knownOf_23 (by decide) (by have := hc.2; omega) (by have := hc.2; omega) (fun c_1 => ?_) (fun c_1 => ?_)
    · skip
      refine jg_iload_n dX12_knownOf_86 rfl ?_
      refine jg_if_ge (x := (nI (199 + 4 * b))) (tgt := 102) dX12_knownOf_87 (by decide) (fun _ => ?_) (fun q9 => absurd (nI_pos' (by have := hc.2; omega)) q9)
      refine jg_aload_n dX12_knownOf_102 rfl ?_
      refine rs_ga fl_X12_13 dX12_knownOf_103 hr rfl ?_
      refine jg_iload_n dX12_knownOf_106 rfl ?_
      refine jn_iconst (k := 2) dX12_knownOf_107 (by decide) ?_
      refine jn_iadd (x := 199 + 4 * b) (y := 2) dX12_knownOf_108  ?_
      refine rs_lw (i := 199 + 4 * b + 2) dX12_knownOf_109 hr (by have := hc.2; omega) ?_
      exact jg_ireturn dX12_knownOf_110 rfl ⟨by rw [show a = wn s.2.1 198 by omega] at hb; simp [ra_known, hb], rfl⟩
    · skip
      refine jg_aload_n dX12_knownOf_26 rfl ?_
      refine rs_ga fl_X12_13 dX12_knownOf_27 hr rfl ?_
      refine jg_iload dX12_knownOf_30 rfl ?_
      refine rs_lw (i := 199 + 4 * (a)) dX12_knownOf_32 hr (by have := hc.2; omega) ?_
      refine jg_iload_n dX12_knownOf_33 rfl ?_
      refine jg_icmp_ne (x := ((s.2.1) (199 + 4 * (a)))) (y := (nI (k))) (tgt := 80) dX12_knownOf_34 (by decide) (fun c_2 => ?_) (fun c_2 => ?_)
      · skip
        refine jg_iinc (x := nI (199 + 4 * (a))) (v := nI (199 + 4 * (a) + 4)) (L' := [some (.ref (r)), some (.int (nI (k))), some (.int (t)), some (.int (nI (199 + 4 * b))), some (.int (nI (199 + 4 * (a) + 4)))]) dX12_knownOf_80 rfl (nI_add _ 4) (by decide) rfl ?_
        refine jg_goto (tgt := 7) dX12_knownOf_83 (by decide) ?_
        have i9 := ih (by omega)
        rw [show ra_snd s.2.1 (nI k) t (a + 1) = some b from pl_s0 hb (by simp only [decide_eq_true_eq]; rintro ⟨⟨q1, q3⟩, q2⟩; first | exact c_2 q1 | exact c_3 q3 | exact absurd q2 (Int32.not_le.mpr c_4))] at i9
        refine jg_at_eq i9 rfl ?_ rfl rfl
        simp [ox]
        try (exact congrArg nI (by omega))
      · skip
        refine jg_aload_n dX12_knownOf_37 rfl ?_
        refine rs_ga fl_X12_13 dX12_knownOf_38 hr rfl ?_
        refine jg_iload dX12_knownOf_41 rfl ?_
        refine jn_iconst (k := 3) dX12_knownOf_43 (by decide) ?_
        refine jn_iadd (x := 199 + 4 * (a)) (y := 3) dX12_knownOf_44  ?_
        refine rs_lw (i := 199 + 4 * (a) + 3) dX12_knownOf_45 hr (by have := hc.2; omega) ?_
        refine jg_iload_n dX12_knownOf_46 rfl ?_
        refine jg_icmp_le (x := ((s.2.1) (199 + 4 * (a) + 3))) (y := (t)) (tgt := 53) dX12_knownOf_47 (by decide) (fun c_3 => ?_) (fun c_3 => ?_)
        · skip
          refine jg_iload_n dX12_knownOf_53 rfl ?_
          refine jg_if_lt (x := (nI (199 + 4 * b))) (tgt := 77) dX12_knownOf_54 (by decide) (fun q9 => absurd q9 (nI_pos (by have := hc.2; omega))) (fun _ => ?_)
          refine jg_aload_n dX12_knownOf_57 rfl ?_
          refine rs_ga fl_X12_13 dX12_knownOf_58 hr rfl ?_
          refine jg_iload dX12_knownOf_61 rfl ?_
          refine jn_iconst (k := 1) dX12_knownOf_63 (by decide) ?_
          refine jn_iadd (x := 199 + 4 * (a)) (y := 1) dX12_knownOf_64  ?_
          refine rs_lw (i := 199 + 4 * (a) + 1) dX12_knownOf_65 hr (by have := hc.2; omega) ?_
          refine jg_aload_n dX12_knownOf_66 rfl ?_
          refine rs_ga fl_X12_13 dX12_knownOf_67 hr rfl ?_
          refine jg_iload_n dX12_knownOf_70 rfl ?_
          refine jn_iconst (k := 1) dX12_knownOf_71 (by decide) ?_
          refine jn_iadd (x := 199 + 4 * b) (y := 1) dX12_knownOf_72  ?_
          refine rs_lw (i := 199 + 4 * b + 1) dX12_knownOf_73 hr (by have := hc.2; omega) ?_
          refine jg_icmp_lt (x := ((s.2.1) (199 + 4 * (a) + 1))) (y := ((s.2.1) (199 + 4 * b + 1))) (tgt := 80) dX12_knownOf_74 (by decide) (fun c_4 => ?_) (fun c_4 => ?_)
          · skip
            refine jg_iinc (x := nI (199 + 4 * (a))) (v := nI (199 + 4 * (a) + 4)) (L' := [some (.ref (r)), some (.int (nI (k))), some (.int (t)), some (.int (nI (199 + 4 * b))), some (.int (nI (199 + 4 * (a) + 4)))]) dX12_knownOf_80 rfl (nI_add _ 4) (by decide) rfl ?_
            refine jg_goto (tgt := 7) dX12_knownOf_83 (by decide) ?_
            have i9 := ih (by omega)
            rw [show ra_snd s.2.1 (nI k) t (a + 1) = some b from pl_s0 hb (by simp only [decide_eq_true_eq]; rintro ⟨⟨q1, q3⟩, q2⟩; first | exact c_2 q1 | exact c_3 q3 | exact absurd q2 (Int32.not_le.mpr c_4))] at i9
            refine jg_at_eq i9 rfl ?_ rfl rfl
            simp [ox]
            try (exact congrArg nI (by omega))
          · skip
            refine jg_iload dX12_knownOf_77 rfl ?_
            refine jg_istore_n (L' := [some (.ref (r)), some (.int (nI (k))), some (.int (t)), some (.int (nI (199 + 4 * (a)))), some (.int (nI (199 + 4 * (a))))]) dX12_knownOf_79 (by decide) rfl ?_
            refine jg_iinc (x := nI (199 + 4 * (a))) (v := nI (199 + 4 * (a) + 4)) (L' := [some (.ref (r)), some (.int (nI (k))), some (.int (t)), some (.int (nI (199 + 4 * (a)))), some (.int (nI (199 + 4 * (a) + 4)))]) dX12_knownOf_80 rfl (nI_add _ 4) (by decide) rfl ?_
            refine jg_goto (tgt := 7) dX12_knownOf_83 (by decide) ?_
            have i9 := ih (by omega)
            rw [show ra_snd s.2.1 (nI k) t (a + 1) = some a from pl_s1 hb (by simp only [decide_eq_true_eq]; exact ⟨c_2, c_3⟩) (by simpa using c_4)] at i9
            refine jg_at_eq i9 rfl ?_ rfl rfl
            simp [ox]
            try (exact congrArg nI (by omega))
        · skip
          refine jg_goto (tgt := 80) dX12_knownOf_50 (by decide) ?_
          refine jg_iinc (x := nI (199 + 4 * (a))) (v := nI (199 + 4 * (a) + 4)) (L' := [some (.ref (r)), some (.int (nI (k))), some (.int (t)), some (.int (nI (199 + 4 * b))), some (.int (nI (199 + 4 * (a) + 4)))]) dX12_knownOf_80 rfl (nI_add _ 4) (by decide) rfl ?_
          refine jg_goto (tgt := 7) dX12_knownOf_83 (by decide) ?_
          have i9 := ih (by omega)
          rw [show ra_snd s.2.1 (nI k) t (a + 1) = some b from pl_s0 hb (by simp only [decide_eq_true_eq]; rintro ⟨⟨q1, q3⟩, q2⟩; first | exact c_2 q1 | exact c_3 q3 | exact absurd q2 (Int32.not_le.mpr c_4))] at i9
          refine jg_at_eq i9 rfl ?_ rfl rfl
          simp [ox]
          try (exact congrArg nI (by omega))
theorem dX12_knownOf_0 : decode cX12_knownOf 0 = .ok (.iconst (-1), 1) := by decide +kernel
theorem dX12_knownOf_1 : decode cX12_knownOf 1 = .ok (.istore_n 3, 1) := by decide +kernel
theorem dX12_knownOf_2 : decode cX12_knownOf 2 = .ok (.sipush 199, 3) := by decide +kernel
theorem dX12_knownOf_5 : decode cX12_knownOf 5 = .ok (.istore 4, 2) := by decide +kernel
set_option maxHeartbeats 1000000 in
theorem r_knownOf {Γ : jg_G} {g : Nat → jg_C} {n r : Nat} (hr : r + 11 ≤ n) (s : rs_S) (k : Nat) (t : Int32) (hc : wb s.2.1 198 200) (hk : k < 24) : jc Γ mX12_knownOf 0 0 0 [some (.ref (r)), some (.int (nI (k))), some (.int (t)), none, none] (rs_h g r s, n) (.inl (some (.int (ra_known s.2.1 k t (wn s.2.1 198))))) (rs_h g r s, n) := by
  refine jc_of ?_
  refine jg_iconst (v := -1) dX12_knownOf_0 (by decide) ?_
  refine jg_istore_n (L' := [some (.ref (r)), some (.int (nI (k))), some (.int (t)), some (.int (-1)), none]) dX12_knownOf_1 (by decide) rfl ?_
  refine jn_sipush (k := 199) dX12_knownOf_2 (by decide) ?_
  refine jg_istore (L' := [some (.ref (r)), some (.int (nI (k))), some (.int (t)), some (.int (-1)), some (.int (nI (199)))]) dX12_knownOf_5 (by decide) rfl ?_
  exact r_knownOf_l hr s k t hc hk 0 (Nat.zero_le _)
