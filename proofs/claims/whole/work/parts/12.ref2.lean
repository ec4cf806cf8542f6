/-! THE REFERENCE: what is picked out of rows (by program wip/whole/ref2.py) -/
/-- the last of the greatest key among those that P lets in -/
def pl (P : Nat → Bool) (key : Nat → Int32) : Nat → Option Nat
  | 0 => none
  | a + 1 => match pl P key a with
    | none => if P a = true then some a else none
    | some b => if P a = true ∧ key b ≤ key a then some a else some b
theorem pl_n1 {P : Nat → Bool} {key : Nat → Int32} {a : Nat} (h : pl P key a = none) (hp : P a = true) : pl P key (a + 1) = some a := by simp [pl, h, hp]
theorem pl_n0 {P : Nat → Bool} {key : Nat → Int32} {a : Nat} (h : pl P key a = none) (hp : ¬ P a = true) : pl P key (a + 1) = none := by simp [pl, h, hp]
theorem pl_s1 {P : Nat → Bool} {key : Nat → Int32} {a b : Nat} (h : pl P key a = some b) (hp : P a = true) (hk : key b ≤ key a) : pl P key (a + 1) = some a := by simp [pl, h, hp, hk]
theorem pl_s0 {P : Nat → Bool} {key : Nat → Int32} {a b : Nat} (h : pl P key a = some b) (hp : ¬ (P a = true ∧ key b ≤ key a)) : pl P key (a + 1) = some b := by
  unfold pl
  rw [h]
  exact if_neg hp
theorem pl_lt {P : Nat → Bool} {key : Nat → Int32} : ∀ {a b : Nat}, pl P key a = some b → b < a
  | 0, b, h => by simp [pl] at h
  | a + 1, b, h => by
    cases hb : pl P key a with
    | none =>
      by_cases hp : P a = true
      · rw [pl_n1 hb hp] at h; cases h; omega
      · rw [pl_n0 hb hp] at h; cases h
    | some c =>
      have hc := pl_lt hb
      by_cases hp : P a = true ∧ key c ≤ key a
      · rw [pl_s1 hb hp.1 hp.2] at h; cases h; omega
      · rw [pl_s0 hb hp] at h; cases h; omega
theorem pl_congr {P P' : Nat → Bool} {key key' : Nat → Int32} : ∀ {a : Nat}, (∀ k, k < a → P k = P' k ∧ key k = key' k) → pl P key a = pl P' key' a
  | 0, _ => rfl
  | a + 1, h => by
    have ih := pl_congr (a := a) (fun k hk => h k (by omega))
    have ha := h a (by omega)
    unfold pl
    rw [ih, ha.1]
    cases hb : pl P' key' a with
    | none => rfl
    | some b =>
      have hb2 := h b (by have := pl_lt hb; omega)
      simp only [ha.2, hb2.2]
/-- none is -1 -/
def ob (o : Option Nat) : Int32 := match o with
  | none => -1
  | some b => nI b
def ox (base each : Nat) (o : Option Nat) : Int32 := match o with
  | none => -1
  | some b => nI (base + each * b)
/-- a number of the world as a natural one -/
def wn (w : Nat → Int32) (i : Nat) : Nat := (w i).toNatClampNeg
def wb (w : Nat → Int32) (i B : Nat) : Prop := w i = nI (wn w i) ∧ wn w i ≤ B
theorem jd_down {c : Nat} {P : Nat → Prop} (st : ∀ a, a ≤ c → (a < c → P (a + 1)) → P a) : ∀ a, a ≤ c → P a := by
  intro a ha
  obtain ⟨m, hm⟩ : ∃ m, m = c - a := ⟨_, rfl⟩
  induction m generalizing a with
  | zero => exact st a ha (fun h => by omega)
  | succ m ih => exact st a ha (fun h => ih (a + 1) h (by omega))

/-- the act of a day: its number -/
def ra_act (w : Nat → Int32) (day : Int32) (c : Nat) : Option Nat := pl (fun a => decide (w (2812 + (882) * (a)) ≤ day)) (fun a => w (2812 + (882) * (a))) c
theorem dX12_actOf_4 : decode cX12_actOf 4 = .ok (.iload_n 3, 1) := by decide +kernel
theorem dX12_actOf_5 : decode cX12_actOf 5 = .ok (.aload_n 0, 1) := by decide +kernel
theorem dX12_actOf_6 : decode cX12_actOf 6 = .ok (.getfield 13, 3) := by decide +kernel
theorem dX12_actOf_9 : decode cX12_actOf 9 = .ok (.sipush 2811, 3) := by decide +kernel
theorem dX12_actOf_12 : decode cX12_actOf 12 = .ok (.iaload, 1) := by decide +kernel
theorem dX12_actOf_13 : decode cX12_actOf 13 = .ok (.if_icmp .ge 49, 3) := by decide +kernel
theorem dX12_actOf_16 : decode cX12_actOf 16 = .ok (.aload_n 0, 1) := by decide +kernel
theorem dX12_actOf_17 : decode cX12_actOf 17 = .ok (.getfield 13, 3) := by decide +kernel
theorem dX12_actOf_20 : decode cX12_actOf 20 = .ok (.iload_n 3, 1) := by decide +kernel
theorem dX12_actOf_21 : decode cX12_actOf 21 = .ok (.invokestatic 242, 3) := by decide +kernel
theorem dX12_actOf_24 : decode cX12_actOf 24 = .ok (.iaload, 1) := by decide +kernel
theorem dX12_actOf_25 : decode cX12_actOf 25 = .ok (.iload_n 1, 1) := by decide +kernel
theorem dX12_actOf_26 : decode cX12_actOf 26 = .ok (.if_icmp .gt 30, 3) := by decide +kernel
theorem dX12_actOf_29 : decode cX12_actOf 29 = .ok (.iload_n 2, 1) := by decide +kernel
theorem dX12_actOf_30 : decode cX12_actOf 30 = .ok (.ifCond .lt 24, 3) := by decide +kernel
theorem dX12_actOf_54 : decode cX12_actOf 54 = .ok (.iload_n 3, 1) := by decide +kernel
theorem dX12_actOf_55 : decode cX12_actOf 55 = .ok (.istore_n 2, 1) := by decide +kernel
theorem dX12_actOf_56 : decode cX12_actOf 56 = .ok (.iinc 3 1, 3) := by decide +kernel
theorem dX12_actOf_59 : decode cX12_actOf 59 = .ok (.goto (-55), 3) := by decide +kernel
theorem dX12_actOf_62 : decode cX12_actOf 62 = .ok (.iload_n 2, 1) := by decide +kernel
theorem dX12_actOf_63 : decode cX12_actOf 63 = .ok (.ireturn, 1) := by decide +kernel
theorem dX12_actOf_33 : decode cX12_actOf 33 = .ok (.aload_n 0, 1) := by decide +kernel
theorem dX12_actOf_34 : decode cX12_actOf 34 = .ok (.getfield 13, 3) := by decide +kernel
theorem dX12_actOf_37 : decode cX12_actOf 37 = .ok (.iload_n 3, 1) := by decide +kernel
theorem dX12_actOf_38 : decode cX12_actOf 38 = .ok (.invokestatic 242, 3) := by decide +kernel
theorem dX12_actOf_41 : decode cX12_actOf 41 = .ok (.iaload, 1) := by decide +kernel
theorem dX12_actOf_42 : decode cX12_actOf 42 = .ok (.aload_n 0, 1) := by decide +kernel
theorem dX12_actOf_43 : decode cX12_actOf 43 = .ok (.getfield 13, 3) := by decide +kernel
theorem dX12_actOf_46 : decode cX12_actOf 46 = .ok (.iload_n 2, 1) := by decide +kernel
theorem dX12_actOf_47 : decode cX12_actOf 47 = .ok (.invokestatic 242, 3) := by decide +kernel
theorem dX12_actOf_50 : decode cX12_actOf 50 = .ok (.iaload, 1) := by decide +kernel
theorem dX12_actOf_51 : decode cX12_actOf 51 = .ok (.if_icmp .lt 5, 3) := by decide +kernel
set_option maxHeartbeats 2000000 in
theorem r_actOf_l {Γ : jg_G} {g : Nat → jg_C} {n r : Nat} (hr : r + 11 ≤ n) (s : rs_S) (day : Int32) (hc : wb s.2.1 2811 20) : ∀ a, a ≤ wn s.2.1 2811 → jg Γ mX12_actOf 1 0 0 4 [some (.ref (r)), some (.int (day)), some (.int (ob (ra_act s.2.1 day a))), some (.int (nI (a)))] [] (rs_h g r s, n) (jq (.inl (some (.int (ob (ra_act s.2.1 day (wn s.2.1 2811)))))) (rs_h g r s, n)) := by
  refine jd_down (c := wn s.2.1 2811) (P := fun a => jg Γ mX12_actOf 1 0 0 4 [some (.ref (r)), some (.int (day)), some (.int (ob (ra_act s.2.1 day a))), some (.int (nI (a)))] [] (rs_h g r s, n) (jq (.inl (some (.int (ob (ra_act s.2.1 day (wn s.2.1 2811)))))) (rs_h g r s, n))) ?_
  intro a ha ih
  cases hb : ra_act s.2.1 day a with
  | none =>
    refine jg_iload_n dX12_actOf_4 rfl ?_
    refine jg_aload_n dX12_actOf_5 rfl ?_
    refine rs_ga fl_X12_13 dX12_actOf_6 hr rfl ?_
    refine jn_sipush (k := 2811) dX12_actOf_9 (by decide) ?_
    refine rs_lwN (i := 2811) (x := (nI (wn s.2.1 2811))) (hc.1) dX12_actOf_12 hr (by omega) ?_
    refine jn_icmp_ge (x := a) (y := wn s.2.1 2811) (tgt := 62) dX12_actOf_13 (by decide) (by have := hc.2; omega) (by have := hc.2; omega) (fun c_1 => ?_) (fun c_1 => ?_)
    · skip
      refine jg_iload_n dX12_actOf_62 rfl ?_
      exact jg_ireturn dX12_actOf_63 rfl ⟨by rw [show a = wn s.2.1 2811 by omega] at hb; rw [hb], rfl⟩
    · skip
      refine jg_aload_n dX12_actOf_16 rfl ?_
      refine rs_ga fl_X12_13 dX12_actOf_17 hr rfl ?_
      refine jg_iload_n dX12_actOf_20 rfl ?_
      refine rs_callS (As := [.int (nI (a))]) ks_X12_242 dX12_actOf_21 rfl (by decide) (Nat.le_of_ble_eq_true rfl) rfl (by decide) (Nat.le_of_ble_eq_true rfl) (r_actAt (a)) ?_
      refine rs_lw (i := 2812 + (882) * (a)) dX12_actOf_24 hr (by have := hc.2; omega) ?_
      refine jg_iload_n dX12_actOf_25 rfl ?_
      refine jg_icmp_gt (x := ((s.2.1) (2812 + (882) * (a)))) (y := (day)) (tgt := 56) dX12_actOf_26 (by decide) (fun c_2 => ?_) (fun c_2 => ?_)
      · skip
        refine jn_iinc (x := a) (L' := [some (.ref (r)), some (.int (day)), some (.int (-1)), some (.int (nI (a + 1)))]) dX12_actOf_56 rfl rfl (by decide) rfl ?_
        refine jg_goto (tgt := 4) dX12_actOf_59 (by decide) ?_
        have i9 := ih c_1
        rw [show ra_act s.2.1 day (a + 1) = none from pl_n0 hb (by simpa using c_2)] at i9
        refine jg_at_eq i9 rfl ?_ rfl rfl
        simp [ob]
      · skip
        refine jg_iload_n dX12_actOf_29 rfl ?_
        refine jg_if_lt (x := (-1)) (tgt := 54) dX12_actOf_30 (by decide) (fun _ => ?_) (fun q9 => absurd (by decide) q9)
        refine jg_iload_n dX12_actOf_54 rfl ?_
        refine jg_istore_n (L' := [some (.ref (r)), some (.int (day)), some (.int (nI (a))), some (.int (nI (a)))]) dX12_actOf_55 (by decide) rfl ?_
        refine jn_iinc (x := a) (L' := [some (.ref (r)), some (.int (day)), some (.int (nI (a))), some (.int (nI (a + 1)))]) dX12_actOf_56 rfl rfl (by decide) rfl ?_
        refine jg_goto (tgt := 4) dX12_actOf_59 (by decide) ?_
        have i9 := ih c_1
        rw [show ra_act s.2.1 day (a + 1) = some a from pl_n1 hb (by simpa using c_2)] at i9
        refine jg_at_eq i9 rfl ?_ rfl rfl
        simp [ob]
  | some b =>
    have hb2 := pl_lt hb
    refine jg_iload_n dX12_actOf_4 rfl ?_
    refine jg_aload_n dX12_actOf_5 rfl ?_
    refine rs_ga fl_X12_13 dX12_actOf_6 hr rfl ?_
    refine jn_sipush (k := 2811) dX12_actOf_9 (by decide) ?_
    refine rs_lwN (i := 2811) (x := (nI (wn s.2.1 2811))) (hc.1) dX12_actOf_12 hr (by omega) ?_
    refine jn_icmp_ge (x := a) (y := wn s.2.1 2811) (tgt := 62) dX12_actOf_13 (by decide) (by have := hc.2; omega) (by have := hc.2; omega) (fun c_1 => ?_) (fun c_1 => ?_)
    · skip
      refine jg_iload_n dX12_actOf_62 rfl ?_
      exact jg_ireturn dX12_actOf_63 rfl ⟨by rw [show a = wn s.2.1 2811 by omega] at hb; rw [hb], rfl⟩
    · skip
      refine jg_aload_n dX12_actOf_16 rfl ?_
      refine rs_ga fl_X12_13 dX12_actOf_17 hr rfl ?_
      refine jg_iload_n dX12_actOf_20 rfl ?_
      refine rs_callS (As := [.int (nI (a))]) ks_X12_242 dX12_actOf_21 rfl (by decide) (Nat.le_of_ble_eq_true rfl) rfl (by decide) (Nat.le_of_ble_eq_true rfl) (r_actAt (a)) ?_
      refine rs_lw (i := 2812 + (882) * (a)) dX12_actOf_24 hr (by have := hc.2; omega) ?_
      refine jg_iload_n dX12_actOf_25 rfl ?_
      refine jg_icmp_gt (x := ((s.2.1) (2812 + (882) * (a)))) (y := (day)) (tgt := 56) dX12_actOf_26 (by decide) (fun c_2 => ?_) (fun c_2 => ?_)
      · skip
        refine jn_iinc (x := a) (L' := [some (.ref (r)), some (.int (day)), some (.int (nI (b))), some (.int (nI (a + 1)))]) dX12_actOf_56 rfl rfl (by decide) rfl ?_
        refine jg_goto (tgt := 4) dX12_actOf_59 (by decide) ?_
        have i9 := ih c_1
        rw [show ra_act s.2.1 day (a + 1) = some b from pl_s0 hb (by simp only [decide_eq_true_eq]; rintro ⟨q1, q2⟩; first | exact absurd q1 (Int32.not_le.mpr c_2) | exact absurd q2 (Int32.not_le.mpr c_3))] at i9
        refine jg_at_eq i9 rfl ?_ rfl rfl
        simp [ob]
      · skip
        refine jg_iload_n dX12_actOf_29 rfl ?_
        refine jg_if_lt (x := (nI (b))) (tgt := 54) dX12_actOf_30 (by decide) (fun q9 => absurd q9 (nI_pos (by have := hc.2; omega))) (fun _ => ?_)
        refine jg_aload_n dX12_actOf_33 rfl ?_
        refine rs_ga fl_X12_13 dX12_actOf_34 hr rfl ?_
        refine jg_iload_n dX12_actOf_37 rfl ?_
        refine rs_callS (As := [.int (nI (a))]) ks_X12_242 dX12_actOf_38 rfl (by decide) (Nat.le_of_ble_eq_true rfl) rfl (by decide) (Nat.le_of_ble_eq_true rfl) (r_actAt (a)) ?_
        refine rs_lw (i := 2812 + (882) * (a)) dX12_actOf_41 hr (by have := hc.2; omega) ?_
        refine jg_aload_n dX12_actOf_42 rfl ?_
        refine rs_ga fl_X12_13 dX12_actOf_43 hr rfl ?_
        refine jg_iload_n dX12_actOf_46 rfl ?_
        refine rs_callS (As := [.int (nI (b))]) ks_X12_242 dX12_actOf_47 rfl (by decide) (Nat.le_of_ble_eq_true rfl) rfl (by decide) (Nat.le_of_ble_eq_true rfl) (r_actAt (b)) ?_
        refine rs_lw (i := 2812 + (882) * (b)) dX12_actOf_50 hr (by have := hc.2; omega) ?_
        refine jg_icmp_lt (x := ((s.2.1) (2812 + (882) * (a)))) (y := ((s.2.1) (2812 + (882) * (b)))) (tgt := 56) dX12_actOf_51 (by decide) (fun c_3 => ?_) (fun c_3 => ?_)
        · skip
          refine jn_iinc (x := a) (L' := [some (.ref (r)), some (.int (day)), some (.int (nI (b))), some (.int (nI (a + 1)))]) dX12_actOf_56 rfl rfl (by decide) rfl ?_
          refine jg_goto (tgt := 4) dX12_actOf_59 (by decide) ?_
          have i9 := ih c_1
          rw [show ra_act s.2.1 day (a + 1) = some b from pl_s0 hb (by simp only [decide_eq_true_eq]; rintro ⟨q1, q2⟩; first | exact absurd q1 (Int32.not_le.mpr c_2) | exact absurd q2 (Int32.not_le.mpr c_3))] at i9
          refine jg_at_eq i9 rfl ?_ rfl rfl
          simp [ob]
        · skip
          refine jg_iload_n dX12_actOf_54 rfl ?_
          refine jg_istore_n (L' := [some (.ref (r)), some (.int (day)), some (.int (nI (a))), some (.int (nI (a)))]) dX12_actOf_55 (by decide) rfl ?_
          refine jn_iinc (x := a) (L' := [some (.ref (r)), some (.int (day)), some (.int (nI (a))), some (.int (nI (a + 1)))]) dX12_actOf_56 rfl rfl (by decide) rfl ?_
          refine jg_goto (tgt := 4) dX12_actOf_59 (by decide) ?_
          have i9 := ih c_1
          rw [show ra_act s.2.1 day (a + 1) = some a from pl_s1 hb (by simpa using c_2) (by simpa using c_3)] at i9
          refine jg_at_eq i9 rfl ?_ rfl rfl
          simp [ob]
theorem dX12_actOf_0 : decode cX12_actOf 0 = .ok (.iconst (-1), 1) := by decide +kernel
theorem dX12_actOf_1 : decode cX12_actOf 1 = .ok (.istore_n 2, 1) := by decide +kernel
theorem dX12_actOf_2 : decode cX12_actOf 2 = .ok (.iconst 0, 1) := by decide +kernel
theorem dX12_actOf_3 : decode cX12_actOf 3 = .ok (.istore_n 3, 1) := by decide +kernel
set_option maxHeartbeats 1000000 in
theorem r_actOf {Γ : jg_G} {g : Nat → jg_C} {n r : Nat} (hr : r + 11 ≤ n) (s : rs_S) (day : Int32) (hc : wb s.2.1 2811 20) : jc Γ mX12_actOf 1 0 0 [some (.ref (r)), some (.int (day)), none, none] (rs_h g r s, n) (.inl (some (.int (ob (ra_act s.2.1 day (wn s.2.1 2811)))))) (rs_h g r s, n) := by
  refine jc_of ?_
  refine jg_iconst (v := -1) dX12_actOf_0 (by decide) ?_
  refine jg_istore_n (L' := [some (.ref (r)), some (.int (day)), some (.int (-1)), none]) dX12_actOf_1 (by decide) rfl ?_
  refine jn_iconst (k := 0) dX12_actOf_2 (by decide) ?_
  refine jg_istore_n (L' := [some (.ref (r)), some (.int (day)), some (.int (-1)), some (.int (nI (0)))]) dX12_actOf_3 (by decide) rfl ?_
  exact r_actOf_l hr s day hc 0 (Nat.zero_le _)
