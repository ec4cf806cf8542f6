/-! THE REFERENCE: the last line of a kind, safe ways, touches (by program wip/whole/ref6.py) -/
def bi (b : Bool) : Int32 := match b with
  | true => nI 1
  | false => nI 0
def ra_last (w : Nat → Int32) (b : Nat) (k o : Int32) : Nat → Int32
  | 0 => o
  | a + 1 => if w (2812 + (882) * (b) + 2 + (4) * (a)) = k then w (2812 + (882) * (b) + 2 + (4) * (a) + 1) else ra_last w b k o a
/-- the number of the last line of a kind in the act of today -/
def ra_lastOf (w : Nat → Int32) (k o : Int32) : Int32 := match ra_act w (nI ((wn w 0) / 24)) (wn w 2811) with
  | none => o
  | some b => ra_last w b k o (wn w (2812 + (882) * (b) + 1))
def ra_safe (dep w : Nat → Int32) (need : Int32) (hf : Nat → Nat) : Nat → Bool
  | 0 => true
  | a + 1 => ra_safe dep w need hf a && decide (need ≤ dep a + w (73 + (hf a) % (25)))
def ra_tch (w : Nat → Int32) (dr : Int32) (hf : Nat → Nat) : Nat → Bool
  | 0 => false
  | a + 1 => ra_tch w dr hf a || decide (w (1 + a) + w (73 + (hf a) % (25)) < dr)
/-- the lines of all acts are counted -/
def ra_ok (w : Nat → Int32) : Prop := ∀ b, b < wn w 2811 → wb w (2812 + (882) * (b) + 1) 20

theorem dX12_linesOf_0 : decode cX12_linesOf 0 = .ok (.iload_n 1, 1) := by decide +kernel
theorem dX12_linesOf_1 : decode cX12_linesOf 1 = .ok (.ifCond .ge 7, 3) := by decide +kernel
theorem dX12_linesOf_4 : decode cX12_linesOf 4 = .ok (.iconst 0, 1) := by decide +kernel
theorem dX12_linesOf_5 : decode cX12_linesOf 5 = .ok (.goto 14, 3) := by decide +kernel
theorem dX12_linesOf_19 : decode cX12_linesOf 19 = .ok (.ireturn, 1) := by decide +kernel
set_option maxHeartbeats 1000000 in
theorem r_linesOf0 {Γ : jg_G} {g : Nat → jg_C} {n r : Nat} (hr : r + 11 ≤ n) (s : rs_S)   : jc Γ mX12_linesOf 1 0 0 [some (.ref (r)), some (.int (-1))] (rs_h g r s, n) (.inl (some (.int (nI (0))))) (rs_h g r s, n) := by
  refine jc_of ?_
  refine jg_iload_n dX12_linesOf_0 rfl ?_
  refine jg_if_ge (x := (-1)) (tgt := 8) dX12_linesOf_1 (by decide) (fun q9 => absurd q9 (by decide)) (fun _ => ?_)
  refine jn_iconst (k := 0) dX12_linesOf_4 (by decide) ?_
  refine jg_goto (tgt := 19) dX12_linesOf_5 (by decide) ?_
  exact jg_ireturn dX12_linesOf_19 rfl ⟨rfl, rfl⟩
theorem dX12_linesOf_8 : decode cX12_linesOf 8 = .ok (.aload_n 0, 1) := by decide +kernel
theorem dX12_linesOf_9 : decode cX12_linesOf 9 = .ok (.getfield 13, 3) := by decide +kernel
theorem dX12_linesOf_12 : decode cX12_linesOf 12 = .ok (.iload_n 1, 1) := by decide +kernel
theorem dX12_linesOf_13 : decode cX12_linesOf 13 = .ok (.invokestatic 242, 3) := by decide +kernel
theorem dX12_linesOf_16 : decode cX12_linesOf 16 = .ok (.iconst 1, 1) := by decide +kernel
theorem dX12_linesOf_17 : decode cX12_linesOf 17 = .ok (.iadd, 1) := by decide +kernel
theorem dX12_linesOf_18 : decode cX12_linesOf 18 = .ok (.iaload, 1) := by decide +kernel
set_option maxHeartbeats 1000000 in
theorem r_linesOf1 {Γ : jg_G} {g : Nat → jg_C} {n r : Nat} (hr : r + 11 ≤ n) (s : rs_S) (b : Nat) (x : Int32) (hx : s.2.1 (2812 + (882) * (b) + 1) = x) (hb : b < 22) : jc Γ mX12_linesOf 1 0 0 [some (.ref (r)), some (.int (nI (b)))] (rs_h g r s, n) (.inl (some (.int (x)))) (rs_h g r s, n) := by
  refine jc_of ?_
  refine jg_iload_n dX12_linesOf_0 rfl ?_
  refine jg_if_ge (x := (nI (b))) (tgt := 8) dX12_linesOf_1 (by decide) (fun _ => ?_) (fun q9 => absurd (nI_pos' (by omega)) q9)
  refine jg_aload_n dX12_linesOf_8 rfl ?_
  refine rs_ga fl_X12_13 dX12_linesOf_9 hr rfl ?_
  refine jg_iload_n dX12_linesOf_12 rfl ?_
  refine rs_callS (As := [.int (nI (b))]) ks_X12_242 dX12_linesOf_13 rfl (by decide) (Nat.le_of_ble_eq_true rfl) rfl (by decide) (Nat.le_of_ble_eq_true rfl) (r_actAt (b)) ?_
  refine jn_iconst (k := 1) dX12_linesOf_16 (by decide) ?_
  refine jn_iadd (x := 2812 + (882) * (b)) (y := 1) dX12_linesOf_17  ?_
  refine rs_lwN (i := 2812 + (882) * (b) + 1) (x := (x)) (hx) dX12_linesOf_18 hr (by omega) ?_
  exact jg_ireturn dX12_linesOf_19 rfl ⟨rfl, rfl⟩
theorem dX12_lastOf_15 : decode cX12_lastOf 15 = .ok (.iload 5, 2) := by decide +kernel
theorem dX12_lastOf_17 : decode cX12_lastOf 17 = .ok (.aload_n 0, 1) := by decide +kernel
theorem dX12_lastOf_18 : decode cX12_lastOf 18 = .ok (.iload_n 3, 1) := by decide +kernel
theorem dX12_lastOf_19 : decode cX12_lastOf 19 = .ok (.invokevirtual 356, 3) := by decide +kernel
theorem dX12_lastOf_22 : decode cX12_lastOf 22 = .ok (.if_icmp .ge 49, 3) := by decide +kernel
theorem dX12_lastOf_25 : decode cX12_lastOf 25 = .ok (.aload_n 0, 1) := by decide +kernel
theorem dX12_lastOf_26 : decode cX12_lastOf 26 = .ok (.getfield 13, 3) := by decide +kernel
theorem dX12_lastOf_29 : decode cX12_lastOf 29 = .ok (.iload_n 3, 1) := by decide +kernel
theorem dX12_lastOf_30 : decode cX12_lastOf 30 = .ok (.invokestatic 242, 3) := by decide +kernel
theorem dX12_lastOf_33 : decode cX12_lastOf 33 = .ok (.iconst 2, 1) := by decide +kernel
theorem dX12_lastOf_34 : decode cX12_lastOf 34 = .ok (.iadd, 1) := by decide +kernel
theorem dX12_lastOf_35 : decode cX12_lastOf 35 = .ok (.iconst 4, 1) := by decide +kernel
theorem dX12_lastOf_36 : decode cX12_lastOf 36 = .ok (.iload 5, 2) := by decide +kernel
theorem dX12_lastOf_38 : decode cX12_lastOf 38 = .ok (.imul, 1) := by decide +kernel
theorem dX12_lastOf_39 : decode cX12_lastOf 39 = .ok (.iadd, 1) := by decide +kernel
theorem dX12_lastOf_40 : decode cX12_lastOf 40 = .ok (.iaload, 1) := by decide +kernel
theorem dX12_lastOf_41 : decode cX12_lastOf 41 = .ok (.iload_n 1, 1) := by decide +kernel
theorem dX12_lastOf_42 : decode cX12_lastOf 42 = .ok (.if_icmp .ne 23, 3) := by decide +kernel
theorem dX12_lastOf_45 : decode cX12_lastOf 45 = .ok (.aload_n 0, 1) := by decide +kernel
theorem dX12_lastOf_46 : decode cX12_lastOf 46 = .ok (.getfield 13, 3) := by decide +kernel
theorem dX12_lastOf_49 : decode cX12_lastOf 49 = .ok (.iload_n 3, 1) := by decide +kernel
theorem dX12_lastOf_50 : decode cX12_lastOf 50 = .ok (.invokestatic 242, 3) := by decide +kernel
theorem dX12_lastOf_53 : decode cX12_lastOf 53 = .ok (.iconst 2, 1) := by decide +kernel
theorem dX12_lastOf_54 : decode cX12_lastOf 54 = .ok (.iadd, 1) := by decide +kernel
theorem dX12_lastOf_55 : decode cX12_lastOf 55 = .ok (.iconst 4, 1) := by decide +kernel
theorem dX12_lastOf_56 : decode cX12_lastOf 56 = .ok (.iload 5, 2) := by decide +kernel
theorem dX12_lastOf_58 : decode cX12_lastOf 58 = .ok (.imul, 1) := by decide +kernel
theorem dX12_lastOf_59 : decode cX12_lastOf 59 = .ok (.iadd, 1) := by decide +kernel
theorem dX12_lastOf_60 : decode cX12_lastOf 60 = .ok (.iconst 1, 1) := by decide +kernel
theorem dX12_lastOf_61 : decode cX12_lastOf 61 = .ok (.iadd, 1) := by decide +kernel
theorem dX12_lastOf_62 : decode cX12_lastOf 62 = .ok (.iaload, 1) := by decide +kernel
theorem dX12_lastOf_63 : decode cX12_lastOf 63 = .ok (.istore 4, 2) := by decide +kernel
theorem dX12_lastOf_65 : decode cX12_lastOf 65 = .ok (.iinc 5 1, 3) := by decide +kernel
theorem dX12_lastOf_68 : decode cX12_lastOf 68 = .ok (.goto (-53), 3) := by decide +kernel
theorem dX12_lastOf_71 : decode cX12_lastOf 71 = .ok (.iload 4, 2) := by decide +kernel
theorem dX12_lastOf_73 : decode cX12_lastOf 73 = .ok (.ireturn, 1) := by decide +kernel
set_option maxHeartbeats 2000000 in
theorem r_lastOf_l {Γ : jg_G} {g : Nat → jg_C} {n r : Nat} (hr : r + 11 ≤ n) (s : rs_S) (b : Nat) (k o : Int32) (hl : wb s.2.1 (2812 + (882) * (b) + 1) 20) (hb : b < 22) : ∀ a, a ≤ wn s.2.1 (2812 + (882) * (b) + 1) → jg Γ mX12_lastOf 2 0 0 15 [some (.ref (r)), some (.int (k)), some (.int (o)), some (.int (nI (b))), some (.int (ra_last s.2.1 b k o (a))), some (.int (nI (a)))] [] (rs_h g r s, n) (jq (.inl (some (.int (ra_last s.2.1 b k o (wn s.2.1 (2812 + (882) * (b) + 1)))))) (rs_h g r s, n)) := by
  have hl_2 := hl.2
  refine jd_down (c := wn s.2.1 (2812 + (882) * (b) + 1)) (P := fun a => jg Γ mX12_lastOf 2 0 0 15 [some (.ref (r)), some (.int (k)), some (.int (o)), some (.int (nI (b))), some (.int (ra_last s.2.1 b k o (a))), some (.int (nI (a)))] [] (rs_h g r s, n) (jq (.inl (some (.int (ra_last s.2.1 b k o (wn s.2.1 (2812 + (882) * (b) + 1)))))) (rs_h g r s, n))) ?_
  intro a ha ih
  refine jg_iload dX12_lastOf_15 rfl ?_
  refine jg_aload_n dX12_lastOf_17 rfl ?_
  refine jg_iload_n dX12_lastOf_18 rfl ?_
  refine rs_call (As := [.int (nI (b))]) kv_X12_356 dX12_lastOf_19 hr rfl rfl (by decide) (Nat.le_of_ble_eq_true rfl) rfl (by decide) (Nat.le_of_ble_eq_true rfl) (r_linesOf1 hr s (b) (nI (wn s.2.1 (2812 + (882) * (b) + 1))) (by first | exact hl.1 | (simp only [upd]; (repeat rw [if_neg (by omega)]); exact hl.1)) (by omega)) ?_
  refine jn_icmp_ge (x := a) (y := wn s.2.1 (2812 + (882) * (b) + 1)) (tgt := 71) dX12_lastOf_22 (by decide) (by omega) (by omega) (fun c_1 => ?_) (fun c_1 => ?_)
  · skip
    obtain rfl : a = wn s.2.1 (2812 + (882) * (b) + 1) := by omega
    refine jg_iload dX12_lastOf_71 rfl ?_
    exact jg_ireturn dX12_lastOf_73 rfl ⟨rfl, rfl⟩
  · skip
    refine jg_aload_n dX12_lastOf_25 rfl ?_
    refine rs_ga fl_X12_13 dX12_lastOf_26 hr rfl ?_
    refine jg_iload_n dX12_lastOf_29 rfl ?_
    refine rs_callS (As := [.int (nI (b))]) ks_X12_242 dX12_lastOf_30 rfl (by decide) (Nat.le_of_ble_eq_true rfl) rfl (by decide) (Nat.le_of_ble_eq_true rfl) (r_actAt (b)) ?_
    refine jn_iconst (k := 2) dX12_lastOf_33 (by decide) ?_
    refine jn_iadd (x := 2812 + (882) * (b)) (y := 2) dX12_lastOf_34  ?_
    refine jn_iconst (k := 4) dX12_lastOf_35 (by decide) ?_
    refine jg_iload dX12_lastOf_36 rfl ?_
    refine jn_imul (x := 4) (y := a) dX12_lastOf_38  ?_
    refine jn_iadd (x := 2812 + (882) * (b) + 2) (y := (4) * (a)) dX12_lastOf_39  ?_
    refine rs_lw (i := 2812 + (882) * (b) + 2 + (4) * (a)) dX12_lastOf_40 hr (by omega) ?_
    refine jg_iload_n dX12_lastOf_41 rfl ?_
    refine jg_icmp_ne (x := ((s.2.1) (2812 + (882) * (b) + 2 + (4) * (a)))) (y := (k)) (tgt := 65) dX12_lastOf_42 (by decide) (fun c_2 => ?_) (fun c_2 => ?_)
    · skip
      refine jn_iinc (x := a) (L' := [some (.ref (r)), some (.int (k)), some (.int (o)), some (.int (nI (b))), some (.int (ra_last s.2.1 b k o (a))), some (.int (nI (a + 1)))]) dX12_lastOf_65 rfl rfl (by decide) rfl ?_
      refine jg_goto (tgt := 15) dX12_lastOf_68 (by decide) ?_
      refine jg_at_eq (ih (by omega)) rfl (by simp [ra_last, c_2]) rfl (rfl)
    · skip
      refine jg_aload_n dX12_lastOf_45 rfl ?_
      refine rs_ga fl_X12_13 dX12_lastOf_46 hr rfl ?_
      refine jg_iload_n dX12_lastOf_49 rfl ?_
      refine rs_callS (As := [.int (nI (b))]) ks_X12_242 dX12_lastOf_50 rfl (by decide) (Nat.le_of_ble_eq_true rfl) rfl (by decide) (Nat.le_of_ble_eq_true rfl) (r_actAt (b)) ?_
      refine jn_iconst (k := 2) dX12_lastOf_53 (by decide) ?_
      refine jn_iadd (x := 2812 + (882) * (b)) (y := 2) dX12_lastOf_54  ?_
      refine jn_iconst (k := 4) dX12_lastOf_55 (by decide) ?_
      refine jg_iload dX12_lastOf_56 rfl ?_
      refine jn_imul (x := 4) (y := a) dX12_lastOf_58  ?_
      refine jn_iadd (x := 2812 + (882) * (b) + 2) (y := (4) * (a)) dX12_lastOf_59  ?_
      refine jn_iconst (k := 1) dX12_lastOf_60 (by decide) ?_
      refine jn_iadd (x := 2812 + (882) * (b) + 2 + (4) * (a)) (y := 1) dX12_lastOf_61  ?_
      refine rs_lw (i := 2812 + (882) * (b) + 2 + (4) * (a) + 1) dX12_lastOf_62 hr (by omega) ?_
      refine jg_istore (L' := [some (.ref (r)), some (.int (k)), some (.int (o)), some (.int (nI (b))), some (.int ((s.2.1) (2812 + (882) * (b) + 2 + (4) * (a) + 1))), some (.int (nI (a)))]) dX12_lastOf_63 (by decide) rfl ?_
      refine jn_iinc (x := a) (L' := [some (.ref (r)), some (.int (k)), some (.int (o)), some (.int (nI (b))), some (.int ((s.2.1) (2812 + (882) * (b) + 2 + (4) * (a) + 1))), some (.int (nI (a + 1)))]) dX12_lastOf_65 rfl rfl (by decide) rfl ?_
      refine jg_goto (tgt := 15) dX12_lastOf_68 (by decide) ?_
      refine jg_at_eq (ih (by omega)) rfl (by simp [ra_last, c_2]) rfl (rfl)
theorem dX12_lastOf_0 : decode cX12_lastOf 0 = .ok (.aload_n 0, 1) := by decide +kernel
theorem dX12_lastOf_1 : decode cX12_lastOf 1 = .ok (.aload_n 0, 1) := by decide +kernel
theorem dX12_lastOf_2 : decode cX12_lastOf 2 = .ok (.invokevirtual 77, 3) := by decide +kernel
theorem dX12_lastOf_5 : decode cX12_lastOf 5 = .ok (.invokevirtual 115, 3) := by decide +kernel
theorem dX12_lastOf_8 : decode cX12_lastOf 8 = .ok (.istore_n 3, 1) := by decide +kernel
theorem dX12_lastOf_9 : decode cX12_lastOf 9 = .ok (.iload_n 2, 1) := by decide +kernel
theorem dX12_lastOf_10 : decode cX12_lastOf 10 = .ok (.istore 4, 2) := by decide +kernel
theorem dX12_lastOf_12 : decode cX12_lastOf 12 = .ok (.iconst 0, 1) := by decide +kernel
theorem dX12_lastOf_13 : decode cX12_lastOf 13 = .ok (.istore 5, 2) := by decide +kernel
set_option maxHeartbeats 1000000 in
theorem r_lastOf {Γ : jg_G} {g : Nat → jg_C} {n r : Nat} (hr : r + 11 ≤ n) (s : rs_S) (k o : Int32) (hh : wb s.2.1 0 30000) (ha9 : wb s.2.1 2811 20) (ho : ra_ok s.2.1) : jc Γ mX12_lastOf 2 0 0 [some (.ref (r)), some (.int (k)), some (.int (o)), none, none, none] (rs_h g r s, n) (.inl (some (.int (ra_lastOf s.2.1 k o)))) (rs_h g r s, n) := by
  refine jc_of ?_
  have hh_2 := hh.2
  have ha9_2 := ha9.2
  refine jg_aload_n dX12_lastOf_0 rfl ?_
  refine jg_aload_n dX12_lastOf_1 rfl ?_
  refine rs_call (As := []) kv_X12_77 dX12_lastOf_2 hr rfl rfl (by decide) (Nat.le_of_ble_eq_true rfl) rfl (by decide) (Nat.le_of_ble_eq_true rfl) (r_today hr s (wn s.2.1 0) (by first | exact hh.1 | (simp only [upd]; (repeat rw [if_neg (by omega)]); exact hh.1)) (by omega)) ?_
  refine rs_call (As := [.int (nI ((wn s.2.1 0) / 24))]) kv_X12_115 dX12_lastOf_5 hr rfl rfl (by decide) (Nat.le_of_ble_eq_true rfl) rfl (by decide) (Nat.le_of_ble_eq_true rfl) (r_actOf hr s (nI ((wn s.2.1 0) / 24)) (by first | exact ha9 | (simp only [upd]; (repeat rw [if_neg (by omega)]); exact ha9))) ?_
  cases hA : ra_act s.2.1 (nI ((wn s.2.1 0) / 24)) (wn s.2.1 2811) with
  | none =>
      refine jg_istore_n (L' := [some (.ref (r)), some (.int (k)), some (.int (o)), some (.int (-1)), none, none]) dX12_lastOf_8 (by decide) rfl ?_
      refine jg_iload_n dX12_lastOf_9 rfl ?_
      refine jg_istore (L' := [some (.ref (r)), some (.int (k)), some (.int (o)), some (.int (-1)), some (.int (o)), none]) dX12_lastOf_10 (by decide) rfl ?_
      refine jn_iconst (k := 0) dX12_lastOf_12 (by decide) ?_
      refine jg_istore (L' := [some (.ref (r)), some (.int (k)), some (.int (o)), some (.int (-1)), some (.int (o)), some (.int (nI (0)))]) dX12_lastOf_13 (by decide) rfl ?_
      refine jg_iload dX12_lastOf_15 rfl ?_
      refine jg_aload_n dX12_lastOf_17 rfl ?_
      refine jg_iload_n dX12_lastOf_18 rfl ?_
      refine rs_call (As := [.int (-1)]) kv_X12_356 dX12_lastOf_19 hr rfl rfl (by decide) (Nat.le_of_ble_eq_true rfl) rfl (by decide) (Nat.le_of_ble_eq_true rfl) (r_linesOf0 hr s) ?_
      refine jn_icmp_ge (x := 0) (y := 0) (tgt := 71) dX12_lastOf_22 (by decide) (by omega) (by omega) (fun _ => ?_) (fun q9 => absurd q9 (by decide))
      refine jg_iload dX12_lastOf_71 rfl ?_
      exact jg_ireturn dX12_lastOf_73 rfl ⟨by simp [ra_lastOf, hA], rfl⟩
  | some b =>
      have hb := pl_lt hA
      have hl := ho b hb
      have hl_2 := hl.2
      refine jg_istore_n (L' := [some (.ref (r)), some (.int (k)), some (.int (o)), some (.int (nI (b))), none, none]) dX12_lastOf_8 (by decide) rfl ?_
      refine jg_iload_n dX12_lastOf_9 rfl ?_
      refine jg_istore (L' := [some (.ref (r)), some (.int (k)), some (.int (o)), some (.int (nI (b))), some (.int (o)), none]) dX12_lastOf_10 (by decide) rfl ?_
      refine jn_iconst (k := 0) dX12_lastOf_12 (by decide) ?_
      refine jg_istore (L' := [some (.ref (r)), some (.int (k)), some (.int (o)), some (.int (nI (b))), some (.int (o)), some (.int (nI (0)))]) dX12_lastOf_13 (by decide) rfl ?_
      rw [show ra_lastOf s.2.1 k o = ra_last s.2.1 b k o (wn s.2.1 (2812 + (882) * (b) + 1)) by simp [ra_lastOf, hA]]
      exact r_lastOf_l hr s b k o hl (by omega) 0 (Nat.zero_le _)
theorem dX12_clearance_0 : decode cX12_clearance 0 = .ok (.aload_n 0, 1) := by decide +kernel
theorem dX12_clearance_1 : decode cX12_clearance 1 = .ok (.iconst 5, 1) := by decide +kernel
theorem dX12_clearance_2 : decode cX12_clearance 2 = .ok (.iconst 5, 1) := by decide +kernel
theorem dX12_clearance_3 : decode cX12_clearance 3 = .ok (.invokevirtual 147, 3) := by decide +kernel
theorem dX12_clearance_6 : decode cX12_clearance 6 = .ok (.ireturn, 1) := by decide +kernel
set_option maxHeartbeats 1000000 in
theorem r_clearance {Γ : jg_G} {g : Nat → jg_C} {n r : Nat} (hr : r + 11 ≤ n) (s : rs_S)  (hh : wb s.2.1 0 30000) (ha9 : wb s.2.1 2811 20) (ho : ra_ok s.2.1) : jc Γ mX12_clearance 3 0 0 [some (.ref (r))] (rs_h g r s, n) (.inl (some (.int (ra_lastOf s.2.1 (nI (5)) (nI (5)))))) (rs_h g r s, n) := by
  refine jc_of ?_
  refine jg_aload_n dX12_clearance_0 rfl ?_
  refine jn_iconst (k := 5) dX12_clearance_1 (by decide) ?_
  refine jn_iconst (k := 5) dX12_clearance_2 (by decide) ?_
  refine rs_call (As := [.int (nI (5)), .int (nI (5))]) kv_X12_147 dX12_clearance_3 hr rfl rfl (by decide) (Nat.le_of_ble_eq_true rfl) rfl (by decide) (Nat.le_of_ble_eq_true rfl) (r_lastOf hr s (nI (5)) (nI (5)) (by first | exact hh | (simp only [upd]; (repeat rw [if_neg (by omega)]); exact hh)) (by first | exact ha9 | (simp only [upd]; (repeat rw [if_neg (by omega)]); exact ha9)) (by first | exact ho | (simp only [upd]; (repeat rw [if_neg (by omega)]); exact ho))) ?_
  exact jg_ireturn dX12_clearance_6 rfl ⟨rfl, rfl⟩
theorem dX12_isSafe_14 : decode cX12_isSafe 14 = .ok (.iload 7, 2) := by decide +kernel
theorem dX12_isSafe_16 : decode cX12_isSafe 16 = .ok (.iload_n 2, 1) := by decide +kernel
theorem dX12_isSafe_17 : decode cX12_isSafe 17 = .ok (.if_icmp .gt 47, 3) := by decide +kernel
theorem dX12_isSafe_20 : decode cX12_isSafe 20 = .ok (.iload 6, 2) := by decide +kernel
theorem dX12_isSafe_22 : decode cX12_isSafe 22 = .ok (.ifCond .eq 33, 3) := by decide +kernel
theorem dX12_isSafe_25 : decode cX12_isSafe 25 = .ok (.aload_n 0, 1) := by decide +kernel
theorem dX12_isSafe_26 : decode cX12_isSafe 26 = .ok (.getfield 20, 3) := by decide +kernel
theorem dX12_isSafe_29 : decode cX12_isSafe 29 = .ok (.iload 7, 2) := by decide +kernel
theorem dX12_isSafe_31 : decode cX12_isSafe 31 = .ok (.iaload, 1) := by decide +kernel
theorem dX12_isSafe_32 : decode cX12_isSafe 32 = .ok (.aload_n 0, 1) := by decide +kernel
theorem dX12_isSafe_33 : decode cX12_isSafe 33 = .ok (.iload_n 3, 1) := by decide +kernel
theorem dX12_isSafe_34 : decode cX12_isSafe 34 = .ok (.iload 7, 2) := by decide +kernel
theorem dX12_isSafe_36 : decode cX12_isSafe 36 = .ok (.iload_n 2, 1) := by decide +kernel
theorem dX12_isSafe_37 : decode cX12_isSafe 37 = .ok (.iload 4, 2) := by decide +kernel
theorem dX12_isSafe_39 : decode cX12_isSafe 39 = .ok (.invokestatic 121, 3) := by decide +kernel
theorem dX12_isSafe_42 : decode cX12_isSafe 42 = .ok (.invokevirtual 125, 3) := by decide +kernel
theorem dX12_isSafe_45 : decode cX12_isSafe 45 = .ok (.iadd, 1) := by decide +kernel
theorem dX12_isSafe_46 : decode cX12_isSafe 46 = .ok (.iload 5, 2) := by decide +kernel
theorem dX12_isSafe_48 : decode cX12_isSafe 48 = .ok (.if_icmp .lt 7, 3) := by decide +kernel
theorem dX12_isSafe_51 : decode cX12_isSafe 51 = .ok (.iconst 1, 1) := by decide +kernel
theorem dX12_isSafe_52 : decode cX12_isSafe 52 = .ok (.goto 4, 3) := by decide +kernel
theorem dX12_isSafe_55 : decode cX12_isSafe 55 = .ok (.iconst 0, 1) := by decide +kernel
theorem dX12_isSafe_56 : decode cX12_isSafe 56 = .ok (.istore 6, 2) := by decide +kernel
theorem dX12_isSafe_58 : decode cX12_isSafe 58 = .ok (.iinc 7 1, 3) := by decide +kernel
theorem dX12_isSafe_61 : decode cX12_isSafe 61 = .ok (.goto (-47), 3) := by decide +kernel
theorem dX12_isSafe_64 : decode cX12_isSafe 64 = .ok (.iload 6, 2) := by decide +kernel
theorem dX12_isSafe_66 : decode cX12_isSafe 66 = .ok (.ireturn, 1) := by decide +kernel
set_option maxHeartbeats 2000000 in
theorem r_isSafe_il {Γ : jg_G} {g : Nat → jg_C} {n r : Nat} (hr : r + 11 ≤ n) (s : rs_S) (d : Int32) (q t : Nat) (hh : wb s.2.1 0 30000) (ha9 : wb s.2.1 2811 20) (ho : ra_ok s.2.1) (hq : q < 24) (ht : t < 2 ^ 30) : ∀ a, a ≤ q + 1 → jg Γ mX12_isSafe 4 0 0 14 [some (.ref (r)), some (.int (d)), some (.int (nI (q))), some (.int (nI (t))), some (.int (nI (0))), some (.int ((d + ra_lastOf s.2.1 (nI (5)) (nI (5))))), some (.int (bi (ra_safe (s.2.2 2) s.2.1 (d + ra_lastOf s.2.1 (nI (5)) (nI (5))) (fun c => t + (c) / (6)) (a)))), some (.int (nI (a)))] [] (rs_h g r s, n) (jq (.inl (some (.int (bi (ra_safe (s.2.2 2) s.2.1 (d + ra_lastOf s.2.1 (nI (5)) (nI (5))) (fun c => t + (c) / (6)) (q + 1)))))) (rs_h g r s, n)) := by
  have hh_2 := hh.2
  have ha9_2 := ha9.2
  refine jd_down (c := q + 1) (P := fun a => jg Γ mX12_isSafe 4 0 0 14 [some (.ref (r)), some (.int (d)), some (.int (nI (q))), some (.int (nI (t))), some (.int (nI (0))), some (.int ((d + ra_lastOf s.2.1 (nI (5)) (nI (5))))), some (.int (bi (ra_safe (s.2.2 2) s.2.1 (d + ra_lastOf s.2.1 (nI (5)) (nI (5))) (fun c => t + (c) / (6)) (a)))), some (.int (nI (a)))] [] (rs_h g r s, n) (jq (.inl (some (.int (bi (ra_safe (s.2.2 2) s.2.1 (d + ra_lastOf s.2.1 (nI (5)) (nI (5))) (fun c => t + (c) / (6)) (q + 1)))))) (rs_h g r s, n))) ?_
  intro a ha ih
  cases hF : ra_safe (s.2.2 2) s.2.1 (d + ra_lastOf s.2.1 (nI (5)) (nI (5))) (fun c => t + (c) / (6)) a with
  | true =>
    refine jg_iload dX12_isSafe_14 rfl ?_
    refine jg_iload_n dX12_isSafe_16 rfl ?_
    refine jn_icmp_gt (x := a) (y := q) (tgt := 64) dX12_isSafe_17 (by decide) (by omega) (by omega) (fun c_1 => ?_) (fun c_1 => ?_)
    · skip
      obtain rfl : a = q + 1 := by omega
      refine jg_iload dX12_isSafe_64 rfl ?_
      exact jg_zreturn dX12_isSafe_66 rfl (rfl) ⟨by rw [hF], rfl⟩
    · skip
      refine jg_iload dX12_isSafe_20 rfl ?_
      refine jn_if_eq (x := 1) (tgt := 55) dX12_isSafe_22 (by decide) (by omega) (fun q9 => absurd q9 (by decide)) (fun _ => ?_)
      refine jg_aload_n dX12_isSafe_25 rfl ?_
      refine rs_ga fl_X12_20 dX12_isSafe_26 hr rfl ?_
      refine jg_iload dX12_isSafe_29 rfl ?_
      refine rs_ld (i := a) (j := 1) dX12_isSafe_31 hr (by decide) rfl (by show _ < _; simp only [rs_ln]; omega) ?_
      refine jg_aload_n dX12_isSafe_32 rfl ?_
      refine jg_iload_n dX12_isSafe_33 rfl ?_
      refine jg_iload dX12_isSafe_34 rfl ?_
      refine jg_iload_n dX12_isSafe_36 rfl ?_
      refine jg_iload dX12_isSafe_37 rfl ?_
      refine rs_callS (As := [.int (nI (t)), .int (nI (a)), .int (nI (q)), .int (nI (0))]) ks_X12_121 dX12_isSafe_39 rfl (by decide) (Nat.le_of_ble_eq_true rfl) rfl (by decide) (Nat.le_of_ble_eq_true rfl) (r_hourAt0 (t) (a) (q) (by omega)) ?_
      refine rs_call (As := [.int (nI (t + (a) / (6)))]) kv_X12_125 dX12_isSafe_42 hr rfl rfl (by decide) (Nat.le_of_ble_eq_true rfl) rfl (by decide) (Nat.le_of_ble_eq_true rfl) (r_tideOf hr s (t + (a) / (6)) (by omega)) ?_
      refine jg_iadd (x := ((s.2.2) 2 (a))) (y := ((s.2.1) (73 + (t + (a) / (6)) % (25)))) dX12_isSafe_45  ?_
      refine jg_iload dX12_isSafe_46 rfl ?_
      refine jg_icmp_lt (x := ((((s.2.2) 2 (a)) + ((s.2.1) (73 + (t + (a) / (6)) % (25)))))) (y := ((d + ra_lastOf s.2.1 (nI (5)) (nI (5))))) (tgt := 55) dX12_isSafe_48 (by decide) (fun c_2 => ?_) (fun c_2 => ?_)
      · skip
        refine jn_iconst (k := 0) dX12_isSafe_55 (by decide) ?_
        refine jg_istore (L' := [some (.ref (r)), some (.int (d)), some (.int (nI (q))), some (.int (nI (t))), some (.int (nI (0))), some (.int ((d + ra_lastOf s.2.1 (nI (5)) (nI (5))))), some (.int (nI (0))), some (.int (nI (a)))]) dX12_isSafe_56 (by decide) rfl ?_
        refine jn_iinc (x := a) (L' := [some (.ref (r)), some (.int (d)), some (.int (nI (q))), some (.int (nI (t))), some (.int (nI (0))), some (.int ((d + ra_lastOf s.2.1 (nI (5)) (nI (5))))), some (.int (nI (0))), some (.int (nI (a + 1)))]) dX12_isSafe_58 rfl rfl (by decide) rfl ?_
        refine jg_goto (tgt := 14) dX12_isSafe_61 (by decide) ?_
        refine jg_at_eq (ih (by omega)) rfl (by rw [show ra_safe (s.2.2 2) s.2.1 (d + ra_lastOf s.2.1 (nI (5)) (nI (5))) (fun c => t + (c) / (6)) (a + 1) = false by simp only [ra_safe, hF, Bool.true_and]; exact decide_eq_false (Int32.not_le.mpr c_2)]; rfl) rfl (rfl)
      · skip
        refine jn_iconst (k := 1) dX12_isSafe_51 (by decide) ?_
        refine jg_goto (tgt := 56) dX12_isSafe_52 (by decide) ?_
        refine jg_istore (L' := [some (.ref (r)), some (.int (d)), some (.int (nI (q))), some (.int (nI (t))), some (.int (nI (0))), some (.int ((d + ra_lastOf s.2.1 (nI (5)) (nI (5))))), some (.int (nI (1))), some (.int (nI (a)))]) dX12_isSafe_56 (by decide) rfl ?_
        refine jn_iinc (x := a) (L' := [some (.ref (r)), some (.int (d)), some (.int (nI (q))), some (.int (nI (t))), some (.int (nI (0))), some (.int ((d + ra_lastOf s.2.1 (nI (5)) (nI (5))))), some (.int (nI (1))), some (.int (nI (a + 1)))]) dX12_isSafe_58 rfl rfl (by decide) rfl ?_
        refine jg_goto (tgt := 14) dX12_isSafe_61 (by decide) ?_
        refine jg_at_eq (ih (by omega)) rfl (by rw [show ra_safe (s.2.2 2) s.2.1 (d + ra_lastOf s.2.1 (nI (5)) (nI (5))) (fun c => t + (c) / (6)) (a + 1) = true by simp only [ra_safe, hF, Bool.true_and]; exact decide_eq_true (Int32.not_lt.mp c_2)]; rfl) rfl (rfl)
  | false =>
    refine jg_iload dX12_isSafe_14 rfl ?_
    refine jg_iload_n dX12_isSafe_16 rfl ?_
    refine jn_icmp_gt (x := a) (y := q) (tgt := 64) dX12_isSafe_17 (by decide) (by omega) (by omega) (fun c_1 => ?_) (fun c_1 => ?_)
    · skip
      obtain rfl : a = q + 1 := by omega
      refine jg_iload dX12_isSafe_64 rfl ?_
      exact jg_zreturn dX12_isSafe_66 rfl (rfl) ⟨by rw [hF], rfl⟩
    · skip
      refine jg_iload dX12_isSafe_20 rfl ?_
      refine jn_if_eq (x := 0) (tgt := 55) dX12_isSafe_22 (by decide) (by omega) (fun _ => ?_) (fun q9 => absurd q9 (by decide))
      refine jn_iconst (k := 0) dX12_isSafe_55 (by decide) ?_
      refine jg_istore (L' := [some (.ref (r)), some (.int (d)), some (.int (nI (q))), some (.int (nI (t))), some (.int (nI (0))), some (.int ((d + ra_lastOf s.2.1 (nI (5)) (nI (5))))), some (.int (nI (0))), some (.int (nI (a)))]) dX12_isSafe_56 (by decide) rfl ?_
      refine jn_iinc (x := a) (L' := [some (.ref (r)), some (.int (d)), some (.int (nI (q))), some (.int (nI (t))), some (.int (nI (0))), some (.int ((d + ra_lastOf s.2.1 (nI (5)) (nI (5))))), some (.int (nI (0))), some (.int (nI (a + 1)))]) dX12_isSafe_58 rfl rfl (by decide) rfl ?_
      refine jg_goto (tgt := 14) dX12_isSafe_61 (by decide) ?_
      refine jg_at_eq (ih (by omega)) rfl (by rw [show ra_safe (s.2.2 2) s.2.1 (d + ra_lastOf s.2.1 (nI (5)) (nI (5))) (fun c => t + (c) / (6)) (a + 1) = false by simp only [ra_safe, hF, Bool.false_and]]; rfl) rfl (rfl)
theorem dX12_isSafe_0 : decode cX12_isSafe 0 = .ok (.iload_n 1, 1) := by decide +kernel
theorem dX12_isSafe_1 : decode cX12_isSafe 1 = .ok (.aload_n 0, 1) := by decide +kernel
theorem dX12_isSafe_2 : decode cX12_isSafe 2 = .ok (.invokevirtual 118, 3) := by decide +kernel
theorem dX12_isSafe_5 : decode cX12_isSafe 5 = .ok (.iadd, 1) := by decide +kernel
theorem dX12_isSafe_6 : decode cX12_isSafe 6 = .ok (.istore 5, 2) := by decide +kernel
theorem dX12_isSafe_8 : decode cX12_isSafe 8 = .ok (.iconst 1, 1) := by decide +kernel
theorem dX12_isSafe_9 : decode cX12_isSafe 9 = .ok (.istore 6, 2) := by decide +kernel
theorem dX12_isSafe_11 : decode cX12_isSafe 11 = .ok (.iconst 0, 1) := by decide +kernel
theorem dX12_isSafe_12 : decode cX12_isSafe 12 = .ok (.istore 7, 2) := by decide +kernel
set_option maxHeartbeats 1000000 in
theorem r_isSafe_i {Γ : jg_G} {g : Nat → jg_C} {n r : Nat} (hr : r + 11 ≤ n) (s : rs_S) (d : Int32) (q t : Nat) (hh : wb s.2.1 0 30000) (ha9 : wb s.2.1 2811 20) (ho : ra_ok s.2.1) (hq : q < 24) (ht : t < 2 ^ 30) : jc Γ mX12_isSafe 4 0 0 [some (.ref (r)), some (.int (d)), some (.int (nI (q))), some (.int (nI (t))), some (.int (nI (0))), none, none, none] (rs_h g r s, n) (.inl (some (.int (bi (ra_safe (s.2.2 2) s.2.1 (d + ra_lastOf s.2.1 (nI (5)) (nI (5))) (fun c => t + (c) / (6)) (q + 1)))))) (rs_h g r s, n) := by
  refine jc_of ?_
  refine jg_iload_n dX12_isSafe_0 rfl ?_
  refine jg_aload_n dX12_isSafe_1 rfl ?_
  refine rs_call (As := []) kv_X12_118 dX12_isSafe_2 hr rfl rfl (by decide) (Nat.le_of_ble_eq_true rfl) rfl (by decide) (Nat.le_of_ble_eq_true rfl) (r_clearance hr s (by first | exact hh | (simp only [upd]; (repeat rw [if_neg (by omega)]); exact hh)) (by first | exact ha9 | (simp only [upd]; (repeat rw [if_neg (by omega)]); exact ha9)) (by first | exact ho | (simp only [upd]; (repeat rw [if_neg (by omega)]); exact ho))) ?_
  refine jg_iadd (x := (d)) (y := (ra_lastOf (s.2.1) (nI (5)) (nI (5)))) dX12_isSafe_5  ?_
  refine jg_istore (L' := [some (.ref (r)), some (.int (d)), some (.int (nI (q))), some (.int (nI (t))), some (.int (nI (0))), some (.int (((d) + (ra_lastOf (s.2.1) (nI (5)) (nI (5)))))), none, none]) dX12_isSafe_6 (by decide) rfl ?_
  refine jn_iconst (k := 1) dX12_isSafe_8 (by decide) ?_
  refine jg_istore (L' := [some (.ref (r)), some (.int (d)), some (.int (nI (q))), some (.int (nI (t))), some (.int (nI (0))), some (.int (((d) + (ra_lastOf (s.2.1) (nI (5)) (nI (5)))))), some (.int (nI (1))), none]) dX12_isSafe_9 (by decide) rfl ?_
  refine jn_iconst (k := 0) dX12_isSafe_11 (by decide) ?_
  refine jg_istore (L' := [some (.ref (r)), some (.int (d)), some (.int (nI (q))), some (.int (nI (t))), some (.int (nI (0))), some (.int (((d) + (ra_lastOf (s.2.1) (nI (5)) (nI (5)))))), some (.int (nI (1))), some (.int (nI (0)))]) dX12_isSafe_12 (by decide) rfl ?_
  exact r_isSafe_il hr s d q t hh ha9 ho hq ht 0 (Nat.zero_le _)
set_option maxHeartbeats 2000000 in
theorem r_isSafe_ol {Γ : jg_G} {g : Nat → jg_C} {n r : Nat} (hr : r + 11 ≤ n) (s : rs_S) (d : Int32) (q t : Nat) (hh : wb s.2.1 0 30000) (ha9 : wb s.2.1 2811 20) (ho : ra_ok s.2.1) (hq : q < 24) (ht : t < 2 ^ 30) : ∀ a, a ≤ q + 1 → jg Γ mX12_isSafe 4 0 0 14 [some (.ref (r)), some (.int (d)), some (.int (nI (q))), some (.int (nI (t))), some (.int (nI (1))), some (.int ((d + ra_lastOf s.2.1 (nI (5)) (nI (5))))), some (.int (bi (ra_safe (s.2.2 2) s.2.1 (d + ra_lastOf s.2.1 (nI (5)) (nI (5))) (fun c => t + ((q) - (c)) / (6)) (a)))), some (.int (nI (a)))] [] (rs_h g r s, n) (jq (.inl (some (.int (bi (ra_safe (s.2.2 2) s.2.1 (d + ra_lastOf s.2.1 (nI (5)) (nI (5))) (fun c => t + ((q) - (c)) / (6)) (q + 1)))))) (rs_h g r s, n)) := by
  have hh_2 := hh.2
  have ha9_2 := ha9.2
  refine jd_down (c := q + 1) (P := fun a => jg Γ mX12_isSafe 4 0 0 14 [some (.ref (r)), some (.int (d)), some (.int (nI (q))), some (.int (nI (t))), some (.int (nI (1))), some (.int ((d + ra_lastOf s.2.1 (nI (5)) (nI (5))))), some (.int (bi (ra_safe (s.2.2 2) s.2.1 (d + ra_lastOf s.2.1 (nI (5)) (nI (5))) (fun c => t + ((q) - (c)) / (6)) (a)))), some (.int (nI (a)))] [] (rs_h g r s, n) (jq (.inl (some (.int (bi (ra_safe (s.2.2 2) s.2.1 (d + ra_lastOf s.2.1 (nI (5)) (nI (5))) (fun c => t + ((q) - (c)) / (6)) (q + 1)))))) (rs_h g r s, n))) ?_
  intro a ha ih
  cases hF : ra_safe (s.2.2 2) s.2.1 (d + ra_lastOf s.2.1 (nI (5)) (nI (5))) (fun c => t + ((q) - (c)) / (6)) a with
  | true =>
    refine jg_iload dX12_isSafe_14 rfl ?_
    refine jg_iload_n dX12_isSafe_16 rfl ?_
    refine jn_icmp_gt (x := a) (y := q) (tgt := 64) dX12_isSafe_17 (by decide) (by omega) (by omega) (fun c_1 => ?_) (fun c_1 => ?_)
    · skip
      obtain rfl : a = q + 1 := by omega
      refine jg_iload dX12_isSafe_64 rfl ?_
      exact jg_zreturn dX12_isSafe_66 rfl (rfl) ⟨by rw [hF], rfl⟩
    · skip
      refine jg_iload dX12_isSafe_20 rfl ?_
      refine jn_if_eq (x := 1) (tgt := 55) dX12_isSafe_22 (by decide) (by omega) (fun q9 => absurd q9 (by decide)) (fun _ => ?_)
      refine jg_aload_n dX12_isSafe_25 rfl ?_
      refine rs_ga fl_X12_20 dX12_isSafe_26 hr rfl ?_
      refine jg_iload dX12_isSafe_29 rfl ?_
      refine rs_ld (i := a) (j := 1) dX12_isSafe_31 hr (by decide) rfl (by show _ < _; simp only [rs_ln]; omega) ?_
      refine jg_aload_n dX12_isSafe_32 rfl ?_
      refine jg_iload_n dX12_isSafe_33 rfl ?_
      refine jg_iload dX12_isSafe_34 rfl ?_
      refine jg_iload_n dX12_isSafe_36 rfl ?_
      refine jg_iload dX12_isSafe_37 rfl ?_
      refine rs_callS (As := [.int (nI (t)), .int (nI (a)), .int (nI (q)), .int (nI (1))]) ks_X12_121 dX12_isSafe_39 rfl (by decide) (Nat.le_of_ble_eq_true rfl) rfl (by decide) (Nat.le_of_ble_eq_true rfl) (r_hourAt1 (t) (a) (q) (by omega) (by omega)) ?_
      refine rs_call (As := [.int (nI (t + ((q) - (a)) / (6)))]) kv_X12_125 dX12_isSafe_42 hr rfl rfl (by decide) (Nat.le_of_ble_eq_true rfl) rfl (by decide) (Nat.le_of_ble_eq_true rfl) (r_tideOf hr s (t + ((q) - (a)) / (6)) (by omega)) ?_
      refine jg_iadd (x := ((s.2.2) 2 (a))) (y := ((s.2.1) (73 + (t + ((q) - (a)) / (6)) % (25)))) dX12_isSafe_45  ?_
      refine jg_iload dX12_isSafe_46 rfl ?_
      refine jg_icmp_lt (x := ((((s.2.2) 2 (a)) + ((s.2.1) (73 + (t + ((q) - (a)) / (6)) % (25)))))) (y := ((d + ra_lastOf s.2.1 (nI (5)) (nI (5))))) (tgt := 55) dX12_isSafe_48 (by decide) (fun c_2 => ?_) (fun c_2 => ?_)
      · skip
        refine jn_iconst (k := 0) dX12_isSafe_55 (by decide) ?_
        refine jg_istore (L' := [some (.ref (r)), some (.int (d)), some (.int (nI (q))), some (.int (nI (t))), some (.int (nI (1))), some (.int ((d + ra_lastOf s.2.1 (nI (5)) (nI (5))))), some (.int (nI (0))), some (.int (nI (a)))]) dX12_isSafe_56 (by decide) rfl ?_
        refine jn_iinc (x := a) (L' := [some (.ref (r)), some (.int (d)), some (.int (nI (q))), some (.int (nI (t))), some (.int (nI (1))), some (.int ((d + ra_lastOf s.2.1 (nI (5)) (nI (5))))), some (.int (nI (0))), some (.int (nI (a + 1)))]) dX12_isSafe_58 rfl rfl (by decide) rfl ?_
        refine jg_goto (tgt := 14) dX12_isSafe_61 (by decide) ?_
        refine jg_at_eq (ih (by omega)) rfl (by rw [show ra_safe (s.2.2 2) s.2.1 (d + ra_lastOf s.2.1 (nI (5)) (nI (5))) (fun c => t + ((q) - (c)) / (6)) (a + 1) = false by simp only [ra_safe, hF, Bool.true_and]; exact decide_eq_false (Int32.not_le.mpr c_2)]; rfl) rfl (rfl)
      · skip
        refine jn_iconst (k := 1) dX12_isSafe_51 (by decide) ?_
        refine jg_goto (tgt := 56) dX12_isSafe_52 (by decide) ?_
        refine jg_istore (L' := [some (.ref (r)), some (.int (d)), some (.int (nI (q))), some (.int (nI (t))), some (.int (nI (1))), some (.int ((d + ra_lastOf s.2.1 (nI (5)) (nI (5))))), some (.int (nI (1))), some (.int (nI (a)))]) dX12_isSafe_56 (by decide) rfl ?_
        refine jn_iinc (x := a) (L' := [some (.ref (r)), some (.int (d)), some (.int (nI (q))), some (.int (nI (t))), some (.int (nI (1))), some (.int ((d + ra_lastOf s.2.1 (nI (5)) (nI (5))))), some (.int (nI (1))), some (.int (nI (a + 1)))]) dX12_isSafe_58 rfl rfl (by decide) rfl ?_
        refine jg_goto (tgt := 14) dX12_isSafe_61 (by decide) ?_
        refine jg_at_eq (ih (by omega)) rfl (by rw [show ra_safe (s.2.2 2) s.2.1 (d + ra_lastOf s.2.1 (nI (5)) (nI (5))) (fun c => t + ((q) - (c)) / (6)) (a + 1) = true by simp only [ra_safe, hF, Bool.true_and]; exact decide_eq_true (Int32.not_lt.mp c_2)]; rfl) rfl (rfl)
  | false =>
    refine jg_iload dX12_isSafe_14 rfl ?_
    refine jg_iload_n dX12_isSafe_16 rfl ?_
    refine jn_icmp_gt (x := a) (y := q) (tgt := 64) dX12_isSafe_17 (by decide) (by omega) (by omega) (fun c_1 => ?_) (fun c_1 => ?_)
    · skip
      obtain rfl : a = q + 1 := by omega
      refine jg_iload dX12_isSafe_64 rfl ?_
      exact jg_zreturn dX12_isSafe_66 rfl (rfl) ⟨by rw [hF], rfl⟩
    · skip
      refine jg_iload dX12_isSafe_20 rfl ?_
      refine jn_if_eq (x := 0) (tgt := 55) dX12_isSafe_22 (by decide) (by omega) (fun _ => ?_) (fun q9 => absurd q9 (by decide))
      refine jn_iconst (k := 0) dX12_isSafe_55 (by decide) ?_
      refine jg_istore (L' := [some (.ref (r)), some (.int (d)), some (.int (nI (q))), some (.int (nI (t))), some (.int (nI (1))), some (.int ((d + ra_lastOf s.2.1 (nI (5)) (nI (5))))), some (.int (nI (0))), some (.int (nI (a)))]) dX12_isSafe_56 (by decide) rfl ?_
      refine jn_iinc (x := a) (L' := [some (.ref (r)), some (.int (d)), some (.int (nI (q))), some (.int (nI (t))), some (.int (nI (1))), some (.int ((d + ra_lastOf s.2.1 (nI (5)) (nI (5))))), some (.int (nI (0))), some (.int (nI (a + 1)))]) dX12_isSafe_58 rfl rfl (by decide) rfl ?_
      refine jg_goto (tgt := 14) dX12_isSafe_61 (by decide) ?_
      refine jg_at_eq (ih (by omega)) rfl (by rw [show ra_safe (s.2.2 2) s.2.1 (d + ra_lastOf s.2.1 (nI (5)) (nI (5))) (fun c => t + ((q) - (c)) / (6)) (a + 1) = false by simp only [ra_safe, hF, Bool.false_and]]; rfl) rfl (rfl)
set_option maxHeartbeats 1000000 in
theorem r_isSafe_o {Γ : jg_G} {g : Nat → jg_C} {n r : Nat} (hr : r + 11 ≤ n) (s : rs_S) (d : Int32) (q t : Nat) (hh : wb s.2.1 0 30000) (ha9 : wb s.2.1 2811 20) (ho : ra_ok s.2.1) (hq : q < 24) (ht : t < 2 ^ 30) : jc Γ mX12_isSafe 4 0 0 [some (.ref (r)), some (.int (d)), some (.int (nI (q))), some (.int (nI (t))), some (.int (nI (1))), none, none, none] (rs_h g r s, n) (.inl (some (.int (bi (ra_safe (s.2.2 2) s.2.1 (d + ra_lastOf s.2.1 (nI (5)) (nI (5))) (fun c => t + ((q) - (c)) / (6)) (q + 1)))))) (rs_h g r s, n) := by
  refine jc_of ?_
  refine jg_iload_n dX12_isSafe_0 rfl ?_
  refine jg_aload_n dX12_isSafe_1 rfl ?_
  refine rs_call (As := []) kv_X12_118 dX12_isSafe_2 hr rfl rfl (by decide) (Nat.le_of_ble_eq_true rfl) rfl (by decide) (Nat.le_of_ble_eq_true rfl) (r_clearance hr s (by first | exact hh | (simp only [upd]; (repeat rw [if_neg (by omega)]); exact hh)) (by first | exact ha9 | (simp only [upd]; (repeat rw [if_neg (by omega)]); exact ha9)) (by first | exact ho | (simp only [upd]; (repeat rw [if_neg (by omega)]); exact ho))) ?_
  refine jg_iadd (x := (d)) (y := (ra_lastOf (s.2.1) (nI (5)) (nI (5)))) dX12_isSafe_5  ?_
  refine jg_istore (L' := [some (.ref (r)), some (.int (d)), some (.int (nI (q))), some (.int (nI (t))), some (.int (nI (1))), some (.int (((d) + (ra_lastOf (s.2.1) (nI (5)) (nI (5)))))), none, none]) dX12_isSafe_6 (by decide) rfl ?_
  refine jn_iconst (k := 1) dX12_isSafe_8 (by decide) ?_
  refine jg_istore (L' := [some (.ref (r)), some (.int (d)), some (.int (nI (q))), some (.int (nI (t))), some (.int (nI (1))), some (.int (((d) + (ra_lastOf (s.2.1) (nI (5)) (nI (5)))))), some (.int (nI (1))), none]) dX12_isSafe_9 (by decide) rfl ?_
  refine jn_iconst (k := 0) dX12_isSafe_11 (by decide) ?_
  refine jg_istore (L' := [some (.ref (r)), some (.int (d)), some (.int (nI (q))), some (.int (nI (t))), some (.int (nI (1))), some (.int (((d) + (ra_lastOf (s.2.1) (nI (5)) (nI (5)))))), some (.int (nI (1))), some (.int (nI (0)))]) dX12_isSafe_12 (by decide) rfl ?_
  exact r_isSafe_ol hr s d q t hh ha9 ho hq ht 0 (Nat.zero_le _)
/-- what a way does to the numbers of touches -/
def ra_touchi (w : Nat → Int32) (k : Nat) (d : Int32) (q : Nat) : Nat → Int32 := match ra_tch w d (fun c => wn w 0 + (c) / (6)) (q + 1) with
  | true => upd (upd w (1212 + (18) * (k) + 16) (w (1212 + (18) * (k) + 16) + nI 1)) 2655 (w 2655 + nI 1)
  | false => w
theorem dX12_touches_6 : decode cX12_touches 6 = .ok (.iload 6, 2) := by decide +kernel
theorem dX12_touches_8 : decode cX12_touches 8 = .ok (.iload_n 3, 1) := by decide +kernel
theorem dX12_touches_9 : decode cX12_touches 9 = .ok (.if_icmp .gt 51, 3) := by decide +kernel
theorem dX12_touches_12 : decode cX12_touches 12 = .ok (.iload 5, 2) := by decide +kernel
theorem dX12_touches_14 : decode cX12_touches 14 = .ok (.ifCond .ne 33, 3) := by decide +kernel
theorem dX12_touches_47 : decode cX12_touches 47 = .ok (.iconst 1, 1) := by decide +kernel
theorem dX12_touches_48 : decode cX12_touches 48 = .ok (.goto 4, 3) := by decide +kernel
theorem dX12_touches_52 : decode cX12_touches 52 = .ok (.istore 5, 2) := by decide +kernel
theorem dX12_touches_54 : decode cX12_touches 54 = .ok (.iinc 6 1, 3) := by decide +kernel
theorem dX12_touches_57 : decode cX12_touches 57 = .ok (.goto (-51), 3) := by decide +kernel
theorem dX12_touches_60 : decode cX12_touches 60 = .ok (.iload 5, 2) := by decide +kernel
theorem dX12_touches_62 : decode cX12_touches 62 = .ok (.ifCond .ne 4, 3) := by decide +kernel
theorem dX12_touches_66 : decode cX12_touches 66 = .ok (.aload_n 0, 1) := by decide +kernel
theorem dX12_touches_67 : decode cX12_touches 67 = .ok (.getfield 13, 3) := by decide +kernel
theorem dX12_touches_70 : decode cX12_touches 70 = .ok (.iload_n 1, 1) := by decide +kernel
theorem dX12_touches_71 : decode cX12_touches 71 = .ok (.bipush 16, 2) := by decide +kernel
theorem dX12_touches_73 : decode cX12_touches 73 = .ok (.invokestatic 104, 3) := by decide +kernel
theorem dX12_touches_76 : decode cX12_touches 76 = .ok (.dup2, 1) := by decide +kernel
theorem dX12_touches_77 : decode cX12_touches 77 = .ok (.iaload, 1) := by decide +kernel
theorem dX12_touches_78 : decode cX12_touches 78 = .ok (.iconst 1, 1) := by decide +kernel
theorem dX12_touches_79 : decode cX12_touches 79 = .ok (.iadd, 1) := by decide +kernel
theorem dX12_touches_80 : decode cX12_touches 80 = .ok (.iastore, 1) := by decide +kernel
theorem dX12_touches_81 : decode cX12_touches 81 = .ok (.aload_n 0, 1) := by decide +kernel
theorem dX12_touches_82 : decode cX12_touches 82 = .ok (.getfield 13, 3) := by decide +kernel
theorem dX12_touches_85 : decode cX12_touches 85 = .ok (.sipush 2655, 3) := by decide +kernel
theorem dX12_touches_88 : decode cX12_touches 88 = .ok (.dup2, 1) := by decide +kernel
theorem dX12_touches_89 : decode cX12_touches 89 = .ok (.iaload, 1) := by decide +kernel
theorem dX12_touches_90 : decode cX12_touches 90 = .ok (.iconst 1, 1) := by decide +kernel
theorem dX12_touches_91 : decode cX12_touches 91 = .ok (.iadd, 1) := by decide +kernel
theorem dX12_touches_92 : decode cX12_touches 92 = .ok (.iastore, 1) := by decide +kernel
theorem dX12_touches_93 : decode cX12_touches 93 = .ok (.return_, 1) := by decide +kernel
theorem dX12_touches_17 : decode cX12_touches 17 = .ok (.aload_n 0, 1) := by decide +kernel
theorem dX12_touches_18 : decode cX12_touches 18 = .ok (.getfield 13, 3) := by decide +kernel
theorem dX12_touches_21 : decode cX12_touches 21 = .ok (.iconst 1, 1) := by decide +kernel
theorem dX12_touches_22 : decode cX12_touches 22 = .ok (.iload 6, 2) := by decide +kernel
theorem dX12_touches_24 : decode cX12_touches 24 = .ok (.iadd, 1) := by decide +kernel
theorem dX12_touches_25 : decode cX12_touches 25 = .ok (.iaload, 1) := by decide +kernel
theorem dX12_touches_26 : decode cX12_touches 26 = .ok (.aload_n 0, 1) := by decide +kernel
theorem dX12_touches_27 : decode cX12_touches 27 = .ok (.aload_n 0, 1) := by decide +kernel
theorem dX12_touches_28 : decode cX12_touches 28 = .ok (.invokevirtual 73, 3) := by decide +kernel
theorem dX12_touches_31 : decode cX12_touches 31 = .ok (.iload 6, 2) := by decide +kernel
theorem dX12_touches_33 : decode cX12_touches 33 = .ok (.iload_n 3, 1) := by decide +kernel
theorem dX12_touches_34 : decode cX12_touches 34 = .ok (.iload 4, 2) := by decide +kernel
theorem dX12_touches_36 : decode cX12_touches 36 = .ok (.invokestatic 121, 3) := by decide +kernel
theorem dX12_touches_39 : decode cX12_touches 39 = .ok (.invokevirtual 125, 3) := by decide +kernel
theorem dX12_touches_42 : decode cX12_touches 42 = .ok (.iadd, 1) := by decide +kernel
theorem dX12_touches_43 : decode cX12_touches 43 = .ok (.iload_n 2, 1) := by decide +kernel
theorem dX12_touches_44 : decode cX12_touches 44 = .ok (.if_icmp .ge 7, 3) := by decide +kernel
theorem dX12_touches_51 : decode cX12_touches 51 = .ok (.iconst 0, 1) := by decide +kernel
theorem dX12_touches_65 : decode cX12_touches 65 = .ok (.return_, 1) := by decide +kernel
set_option maxHeartbeats 2000000 in
theorem r_touches_il {Γ : jg_G} {g : Nat → jg_C} {n r : Nat} (hr : r + 11 ≤ n) (s : rs_S) (k : Nat) (d : Int32) (q : Nat) (hh : wb s.2.1 0 30000) (hq : q < 24) (hk : k < 80) : ∀ a, a ≤ q + 1 → jg Γ mX12_touches 1 0 0 6 [some (.ref (r)), some (.int (nI (k))), some (.int (d)), some (.int (nI (q))), some (.int (nI (0))), some (.int (bi (ra_tch s.2.1 d (fun c => wn s.2.1 0 + (c) / (6)) (a)))), some (.int (nI (a)))] [] (rs_h g r s, n) (jq (.inl none) (rs_h g r (s.1, ra_touchi s.2.1 k d q, s.2.2), n)) := by
  have hh_2 := hh.2
  refine jd_down (c := q + 1) (P := fun a => jg Γ mX12_touches 1 0 0 6 [some (.ref (r)), some (.int (nI (k))), some (.int (d)), some (.int (nI (q))), some (.int (nI (0))), some (.int (bi (ra_tch s.2.1 d (fun c => wn s.2.1 0 + (c) / (6)) (a)))), some (.int (nI (a)))] [] (rs_h g r s, n) (jq (.inl none) (rs_h g r (s.1, ra_touchi s.2.1 k d q, s.2.2), n))) ?_
  intro a ha ih
  cases hF : ra_tch s.2.1 d (fun c => wn s.2.1 0 + (c) / (6)) a with
  | true =>
    refine jg_iload dX12_touches_6 rfl ?_
    refine jg_iload_n dX12_touches_8 rfl ?_
    refine jn_icmp_gt (x := a) (y := q) (tgt := 60) dX12_touches_9 (by decide) (by omega) (by omega) (fun c_1 => ?_) (fun c_1 => ?_)
    · skip
      obtain rfl : a = q + 1 := by omega
      refine jg_iload dX12_touches_60 rfl ?_
      refine jn_if_ne (x := 1) (tgt := 66) dX12_touches_62 (by decide) (by omega) (fun _ => ?_) (fun q9 => absurd q9 (by decide))
      refine jg_aload_n dX12_touches_66 rfl ?_
      refine rs_ga fl_X12_13 dX12_touches_67 hr rfl ?_
      refine jg_iload_n dX12_touches_70 rfl ?_
      refine jn_bipush (k := 16) dX12_touches_71 (by decide) ?_
      refine rs_callS (As := [.int (nI (k)), .int (nI (16))]) ks_X12_104 dX12_touches_73 rfl (by decide) (Nat.le_of_ble_eq_true rfl) rfl (by decide) (Nat.le_of_ble_eq_true rfl) (r_shipAt (k) (16)) ?_
      refine jg_dup2 dX12_touches_76 rfl rfl ?_
      refine rs_lw (i := 1212 + (18) * (k) + 16) dX12_touches_77 hr (by omega) ?_
      refine jn_iconst (k := 1) dX12_touches_78 (by decide) ?_
      refine jg_iadd (x := ((s.2.1) (1212 + (18) * (k) + 16))) (y := (nI (1))) dX12_touches_79  ?_
      refine rs_sw (i := 1212 + (18) * (k) + 16) (x := ((((s.2.1) (1212 + (18) * (k) + 16)) + (nI (1))))) dX12_touches_80 hr (by omega) ?_
      refine jg_aload_n dX12_touches_81 rfl ?_
      refine rs_ga fl_X12_13 dX12_touches_82 hr rfl ?_
      refine jn_sipush (k := 2655) dX12_touches_85 (by decide) ?_
      refine jg_dup2 dX12_touches_88 rfl rfl ?_
      refine rs_lwN (i := 2655) (x := ((s.2.1 2655))) (by simp only [upd]; rw [if_neg (by omega)]) dX12_touches_89 hr (by omega) ?_
      refine jn_iconst (k := 1) dX12_touches_90 (by decide) ?_
      refine jg_iadd (x := ((s.2.1 2655))) (y := (nI (1))) dX12_touches_91  ?_
      refine rs_sw (i := 2655) (x := ((((s.2.1 2655)) + (nI (1))))) dX12_touches_92 hr (by omega) ?_
      exact jg_return dX12_touches_93 rfl ⟨rfl, by simp only [ra_touchi, hF]⟩
    · skip
      refine jg_iload dX12_touches_12 rfl ?_
      refine jn_if_ne (x := 1) (tgt := 47) dX12_touches_14 (by decide) (by omega) (fun _ => ?_) (fun q9 => absurd q9 (by decide))
      refine jn_iconst (k := 1) dX12_touches_47 (by decide) ?_
      refine jg_goto (tgt := 52) dX12_touches_48 (by decide) ?_
      refine jg_istore (L' := [some (.ref (r)), some (.int (nI (k))), some (.int (d)), some (.int (nI (q))), some (.int (nI (0))), some (.int (nI (1))), some (.int (nI (a)))]) dX12_touches_52 (by decide) rfl ?_
      refine jn_iinc (x := a) (L' := [some (.ref (r)), some (.int (nI (k))), some (.int (d)), some (.int (nI (q))), some (.int (nI (0))), some (.int (nI (1))), some (.int (nI (a + 1)))]) dX12_touches_54 rfl rfl (by decide) rfl ?_
      refine jg_goto (tgt := 6) dX12_touches_57 (by decide) ?_
      refine jg_at_eq (ih (by omega)) rfl (by rw [show ra_tch s.2.1 d (fun c => wn s.2.1 0 + (c) / (6)) (a + 1) = true by simp only [ra_tch, hF, Bool.true_or]]; rfl) rfl (rfl)
  | false =>
    refine jg_iload dX12_touches_6 rfl ?_
    refine jg_iload_n dX12_touches_8 rfl ?_
    refine jn_icmp_gt (x := a) (y := q) (tgt := 60) dX12_touches_9 (by decide) (by omega) (by omega) (fun c_1 => ?_) (fun c_1 => ?_)
    · skip
      obtain rfl : a = q + 1 := by omega
      refine jg_iload dX12_touches_60 rfl ?_
      refine jn_if_ne (x := 0) (tgt := 66) dX12_touches_62 (by decide) (by omega) (fun q9 => absurd q9 (by decide)) (fun _ => ?_)
      exact jg_return dX12_touches_65 rfl ⟨rfl, by simp [ra_touchi, hF]⟩
    · skip
      refine jg_iload dX12_touches_12 rfl ?_
      refine jn_if_ne (x := 0) (tgt := 47) dX12_touches_14 (by decide) (by omega) (fun q9 => absurd q9 (by decide)) (fun _ => ?_)
      refine jg_aload_n dX12_touches_17 rfl ?_
      refine rs_ga fl_X12_13 dX12_touches_18 hr rfl ?_
      refine jn_iconst (k := 1) dX12_touches_21 (by decide) ?_
      refine jg_iload dX12_touches_22 rfl ?_
      refine jn_iadd (x := 1) (y := a) dX12_touches_24  ?_
      refine rs_lw (i := 1 + a) dX12_touches_25 hr (by omega) ?_
      refine jg_aload_n dX12_touches_26 rfl ?_
      refine jg_aload_n dX12_touches_27 rfl ?_
      refine rs_call (As := []) kv_X12_73 dX12_touches_28 hr rfl rfl (by decide) (Nat.le_of_ble_eq_true rfl) rfl (by decide) (Nat.le_of_ble_eq_true rfl) (r_hour hr s (nI (wn s.2.1 0)) (by first | exact hh.1 | (simp only [upd]; (repeat rw [if_neg (by omega)]); exact hh.1))) ?_
      refine jg_iload dX12_touches_31 rfl ?_
      refine jg_iload_n dX12_touches_33 rfl ?_
      refine jg_iload dX12_touches_34 rfl ?_
      refine rs_callS (As := [.int (nI (wn s.2.1 0)), .int (nI (a)), .int (nI (q)), .int (nI (0))]) ks_X12_121 dX12_touches_36 rfl (by decide) (Nat.le_of_ble_eq_true rfl) rfl (by decide) (Nat.le_of_ble_eq_true rfl) (r_hourAt0 (wn s.2.1 0) (a) (q) (by omega)) ?_
      refine rs_call (As := [.int (nI (wn s.2.1 0 + (a) / (6)))]) kv_X12_125 dX12_touches_39 hr rfl rfl (by decide) (Nat.le_of_ble_eq_true rfl) rfl (by decide) (Nat.le_of_ble_eq_true rfl) (r_tideOf hr s (wn s.2.1 0 + (a) / (6)) (by omega)) ?_
      refine jg_iadd (x := ((s.2.1) (1 + a))) (y := ((s.2.1) (73 + (wn s.2.1 0 + (a) / (6)) % (25)))) dX12_touches_42  ?_
      refine jg_iload_n dX12_touches_43 rfl ?_
      refine jg_icmp_ge (x := ((((s.2.1) (1 + a)) + ((s.2.1) (73 + (wn s.2.1 0 + (a) / (6)) % (25)))))) (y := (d)) (tgt := 51) dX12_touches_44 (by decide) (fun c_2 => ?_) (fun c_2 => ?_)
      · skip
        refine jn_iconst (k := 0) dX12_touches_51 (by decide) ?_
        refine jg_istore (L' := [some (.ref (r)), some (.int (nI (k))), some (.int (d)), some (.int (nI (q))), some (.int (nI (0))), some (.int (nI (0))), some (.int (nI (a)))]) dX12_touches_52 (by decide) rfl ?_
        refine jn_iinc (x := a) (L' := [some (.ref (r)), some (.int (nI (k))), some (.int (d)), some (.int (nI (q))), some (.int (nI (0))), some (.int (nI (0))), some (.int (nI (a + 1)))]) dX12_touches_54 rfl rfl (by decide) rfl ?_
        refine jg_goto (tgt := 6) dX12_touches_57 (by decide) ?_
        refine jg_at_eq (ih (by omega)) rfl (by rw [show ra_tch s.2.1 d (fun c => wn s.2.1 0 + (c) / (6)) (a + 1) = false by simp only [ra_tch, hF, Bool.false_or]; exact decide_eq_false (Int32.not_lt.mpr c_2)]; rfl) rfl (rfl)
      · skip
        refine jn_iconst (k := 1) dX12_touches_47 (by decide) ?_
        refine jg_goto (tgt := 52) dX12_touches_48 (by decide) ?_
        refine jg_istore (L' := [some (.ref (r)), some (.int (nI (k))), some (.int (d)), some (.int (nI (q))), some (.int (nI (0))), some (.int (nI (1))), some (.int (nI (a)))]) dX12_touches_52 (by decide) rfl ?_
        refine jn_iinc (x := a) (L' := [some (.ref (r)), some (.int (nI (k))), some (.int (d)), some (.int (nI (q))), some (.int (nI (0))), some (.int (nI (1))), some (.int (nI (a + 1)))]) dX12_touches_54 rfl rfl (by decide) rfl ?_
        refine jg_goto (tgt := 6) dX12_touches_57 (by decide) ?_
        refine jg_at_eq (ih (by omega)) rfl (by rw [show ra_tch s.2.1 d (fun c => wn s.2.1 0 + (c) / (6)) (a + 1) = true by simp only [ra_tch, hF, Bool.false_or]; exact decide_eq_true (Int32.not_le.mp c_2)]; rfl) rfl (rfl)
theorem dX12_touches_0 : decode cX12_touches 0 = .ok (.iconst 0, 1) := by decide +kernel
theorem dX12_touches_1 : decode cX12_touches 1 = .ok (.istore 5, 2) := by decide +kernel
theorem dX12_touches_3 : decode cX12_touches 3 = .ok (.iconst 0, 1) := by decide +kernel
theorem dX12_touches_4 : decode cX12_touches 4 = .ok (.istore 6, 2) := by decide +kernel
set_option maxHeartbeats 1000000 in
theorem r_touches_i {Γ : jg_G} {g : Nat → jg_C} {n r : Nat} (hr : r + 11 ≤ n) (s : rs_S) (k : Nat) (d : Int32) (q : Nat) (hh : wb s.2.1 0 30000) (hq : q < 24) (hk : k < 80) : jc Γ mX12_touches 1 0 0 [some (.ref (r)), some (.int (nI (k))), some (.int (d)), some (.int (nI (q))), some (.int (nI (0))), none, none] (rs_h g r s, n) (.inl none) (rs_h g r (s.1, ra_touchi s.2.1 k d q, s.2.2), n) := by
  refine jc_of ?_
  refine jn_iconst (k := 0) dX12_touches_0 (by decide) ?_
  refine jg_istore (L' := [some (.ref (r)), some (.int (nI (k))), some (.int (d)), some (.int (nI (q))), some (.int (nI (0))), some (.int (nI (0))), none]) dX12_touches_1 (by decide) rfl ?_
  refine jn_iconst (k := 0) dX12_touches_3 (by decide) ?_
  refine jg_istore (L' := [some (.ref (r)), some (.int (nI (k))), some (.int (d)), some (.int (nI (q))), some (.int (nI (0))), some (.int (nI (0))), some (.int (nI (0)))]) dX12_touches_4 (by decide) rfl ?_
  exact r_touches_il hr s k d q hh hq hk 0 (Nat.zero_le _)
/-- what a way does to the numbers of touches -/
def ra_toucho (w : Nat → Int32) (k : Nat) (d : Int32) (q : Nat) : Nat → Int32 := match ra_tch w d (fun c => wn w 0 + ((q) - (c)) / (6)) (q + 1) with
  | true => upd (upd w (1212 + (18) * (k) + 16) (w (1212 + (18) * (k) + 16) + nI 1)) 2655 (w 2655 + nI 1)
  | false => w
set_option maxHeartbeats 2000000 in
theorem r_touches_ol {Γ : jg_G} {g : Nat → jg_C} {n r : Nat} (hr : r + 11 ≤ n) (s : rs_S) (k : Nat) (d : Int32) (q : Nat) (hh : wb s.2.1 0 30000) (hq : q < 24) (hk : k < 80) : ∀ a, a ≤ q + 1 → jg Γ mX12_touches 1 0 0 6 [some (.ref (r)), some (.int (nI (k))), some (.int (d)), some (.int (nI (q))), some (.int (nI (1))), some (.int (bi (ra_tch s.2.1 d (fun c => wn s.2.1 0 + ((q) - (c)) / (6)) (a)))), some (.int (nI (a)))] [] (rs_h g r s, n) (jq (.inl none) (rs_h g r (s.1, ra_toucho s.2.1 k d q, s.2.2), n)) := by
  have hh_2 := hh.2
  refine jd_down (c := q + 1) (P := fun a => jg Γ mX12_touches 1 0 0 6 [some (.ref (r)), some (.int (nI (k))), some (.int (d)), some (.int (nI (q))), some (.int (nI (1))), some (.int (bi (ra_tch s.2.1 d (fun c => wn s.2.1 0 + ((q) - (c)) / (6)) (a)))), some (.int (nI (a)))] [] (rs_h g r s, n) (jq (.inl none) (rs_h g r (s.1, ra_toucho s.2.1 k d q, s.2.2), n))) ?_
  intro a ha ih
  cases hF : ra_tch s.2.1 d (fun c => wn s.2.1 0 + ((q) - (c)) / (6)) a with
  | true =>
    refine jg_iload dX12_touches_6 rfl ?_
    refine jg_iload_n dX12_touches_8 rfl ?_
    refine jn_icmp_gt (x := a) (y := q) (tgt := 60) dX12_touches_9 (by decide) (by omega) (by omega) (fun c_1 => ?_) (fun c_1 => ?_)
    · skip
      obtain rfl : a = q + 1 := by omega
      refine jg_iload dX12_touches_60 rfl ?_
      refine jn_if_ne (x := 1) (tgt := 66) dX12_touches_62 (by decide) (by omega) (fun _ => ?_) (fun q9 => absurd q9 (by decide))
      refine jg_aload_n dX12_touches_66 rfl ?_
      refine rs_ga fl_X12_13 dX12_touches_67 hr rfl ?_
      refine jg_iload_n dX12_touches_70 rfl ?_
      refine jn_bipush (k := 16) dX12_touches_71 (by decide) ?_
      refine rs_callS (As := [.int (nI (k)), .int (nI (16))]) ks_X12_104 dX12_touches_73 rfl (by decide) (Nat.le_of_ble_eq_true rfl) rfl (by decide) (Nat.le_of_ble_eq_true rfl) (r_shipAt (k) (16)) ?_
      refine jg_dup2 dX12_touches_76 rfl rfl ?_
      refine rs_lw (i := 1212 + (18) * (k) + 16) dX12_touches_77 hr (by omega) ?_
      refine jn_iconst (k := 1) dX12_touches_78 (by decide) ?_
      refine jg_iadd (x := ((s.2.1) (1212 + (18) * (k) + 16))) (y := (nI (1))) dX12_touches_79  ?_
      refine rs_sw (i := 1212 + (18) * (k) + 16) (x := ((((s.2.1) (1212 + (18) * (k) + 16)) + (nI (1))))) dX12_touches_80 hr (by omega) ?_
      refine jg_aload_n dX12_touches_81 rfl ?_
      refine rs_ga fl_X12_13 dX12_touches_82 hr rfl ?_
      refine jn_sipush (k := 2655) dX12_touches_85 (by decide) ?_
      refine jg_dup2 dX12_touches_88 rfl rfl ?_
      refine rs_lwN (i := 2655) (x := ((s.2.1 2655))) (by simp only [upd]; rw [if_neg (by omega)]) dX12_touches_89 hr (by omega) ?_
      refine jn_iconst (k := 1) dX12_touches_90 (by decide) ?_
      refine jg_iadd (x := ((s.2.1 2655))) (y := (nI (1))) dX12_touches_91  ?_
      refine rs_sw (i := 2655) (x := ((((s.2.1 2655)) + (nI (1))))) dX12_touches_92 hr (by omega) ?_
      exact jg_return dX12_touches_93 rfl ⟨rfl, by simp only [ra_toucho, hF]⟩
    · skip
      refine jg_iload dX12_touches_12 rfl ?_
      refine jn_if_ne (x := 1) (tgt := 47) dX12_touches_14 (by decide) (by omega) (fun _ => ?_) (fun q9 => absurd q9 (by decide))
      refine jn_iconst (k := 1) dX12_touches_47 (by decide) ?_
      refine jg_goto (tgt := 52) dX12_touches_48 (by decide) ?_
      refine jg_istore (L' := [some (.ref (r)), some (.int (nI (k))), some (.int (d)), some (.int (nI (q))), some (.int (nI (1))), some (.int (nI (1))), some (.int (nI (a)))]) dX12_touches_52 (by decide) rfl ?_
      refine jn_iinc (x := a) (L' := [some (.ref (r)), some (.int (nI (k))), some (.int (d)), some (.int (nI (q))), some (.int (nI (1))), some (.int (nI (1))), some (.int (nI (a + 1)))]) dX12_touches_54 rfl rfl (by decide) rfl ?_
      refine jg_goto (tgt := 6) dX12_touches_57 (by decide) ?_
      refine jg_at_eq (ih (by omega)) rfl (by rw [show ra_tch s.2.1 d (fun c => wn s.2.1 0 + ((q) - (c)) / (6)) (a + 1) = true by simp only [ra_tch, hF, Bool.true_or]]; rfl) rfl (rfl)
  | false =>
    refine jg_iload dX12_touches_6 rfl ?_
    refine jg_iload_n dX12_touches_8 rfl ?_
    refine jn_icmp_gt (x := a) (y := q) (tgt := 60) dX12_touches_9 (by decide) (by omega) (by omega) (fun c_1 => ?_) (fun c_1 => ?_)
    · skip
      obtain rfl : a = q + 1 := by omega
      refine jg_iload dX12_touches_60 rfl ?_
      refine jn_if_ne (x := 0) (tgt := 66) dX12_touches_62 (by decide) (by omega) (fun q9 => absurd q9 (by decide)) (fun _ => ?_)
      exact jg_return dX12_touches_65 rfl ⟨rfl, by simp [ra_toucho, hF]⟩
    · skip
      refine jg_iload dX12_touches_12 rfl ?_
      refine jn_if_ne (x := 0) (tgt := 47) dX12_touches_14 (by decide) (by omega) (fun q9 => absurd q9 (by decide)) (fun _ => ?_)
      refine jg_aload_n dX12_touches_17 rfl ?_
      refine rs_ga fl_X12_13 dX12_touches_18 hr rfl ?_
      refine jn_iconst (k := 1) dX12_touches_21 (by decide) ?_
      refine jg_iload dX12_touches_22 rfl ?_
      refine jn_iadd (x := 1) (y := a) dX12_touches_24  ?_
      refine rs_lw (i := 1 + a) dX12_touches_25 hr (by omega) ?_
      refine jg_aload_n dX12_touches_26 rfl ?_
      refine jg_aload_n dX12_touches_27 rfl ?_
      refine rs_call (As := []) kv_X12_73 dX12_touches_28 hr rfl rfl (by decide) (Nat.le_of_ble_eq_true rfl) rfl (by decide) (Nat.le_of_ble_eq_true rfl) (r_hour hr s (nI (wn s.2.1 0)) (by first | exact hh.1 | (simp only [upd]; (repeat rw [if_neg (by omega)]); exact hh.1))) ?_
      refine jg_iload dX12_touches_31 rfl ?_
      refine jg_iload_n dX12_touches_33 rfl ?_
      refine jg_iload dX12_touches_34 rfl ?_
      refine rs_callS (As := [.int (nI (wn s.2.1 0)), .int (nI (a)), .int (nI (q)), .int (nI (1))]) ks_X12_121 dX12_touches_36 rfl (by decide) (Nat.le_of_ble_eq_true rfl) rfl (by decide) (Nat.le_of_ble_eq_true rfl) (r_hourAt1 (wn s.2.1 0) (a) (q) (by omega) (by omega)) ?_
      refine rs_call (As := [.int (nI (wn s.2.1 0 + ((q) - (a)) / (6)))]) kv_X12_125 dX12_touches_39 hr rfl rfl (by decide) (Nat.le_of_ble_eq_true rfl) rfl (by decide) (Nat.le_of_ble_eq_true rfl) (r_tideOf hr s (wn s.2.1 0 + ((q) - (a)) / (6)) (by omega)) ?_
      refine jg_iadd (x := ((s.2.1) (1 + a))) (y := ((s.2.1) (73 + (wn s.2.1 0 + ((q) - (a)) / (6)) % (25)))) dX12_touches_42  ?_
      refine jg_iload_n dX12_touches_43 rfl ?_
      refine jg_icmp_ge (x := ((((s.2.1) (1 + a)) + ((s.2.1) (73 + (wn s.2.1 0 + ((q) - (a)) / (6)) % (25)))))) (y := (d)) (tgt := 51) dX12_touches_44 (by decide) (fun c_2 => ?_) (fun c_2 => ?_)
      · skip
        refine jn_iconst (k := 0) dX12_touches_51 (by decide) ?_
        refine jg_istore (L' := [some (.ref (r)), some (.int (nI (k))), some (.int (d)), some (.int (nI (q))), some (.int (nI (1))), some (.int (nI (0))), some (.int (nI (a)))]) dX12_touches_52 (by decide) rfl ?_
        refine jn_iinc (x := a) (L' := [some (.ref (r)), some (.int (nI (k))), some (.int (d)), some (.int (nI (q))), some (.int (nI (1))), some (.int (nI (0))), some (.int (nI (a + 1)))]) dX12_touches_54 rfl rfl (by decide) rfl ?_
        refine jg_goto (tgt := 6) dX12_touches_57 (by decide) ?_
        refine jg_at_eq (ih (by omega)) rfl (by rw [show ra_tch s.2.1 d (fun c => wn s.2.1 0 + ((q) - (c)) / (6)) (a + 1) = false by simp only [ra_tch, hF, Bool.false_or]; exact decide_eq_false (Int32.not_lt.mpr c_2)]; rfl) rfl (rfl)
      · skip
        refine jn_iconst (k := 1) dX12_touches_47 (by decide) ?_
        refine jg_goto (tgt := 52) dX12_touches_48 (by decide) ?_
        refine jg_istore (L' := [some (.ref (r)), some (.int (nI (k))), some (.int (d)), some (.int (nI (q))), some (.int (nI (1))), some (.int (nI (1))), some (.int (nI (a)))]) dX12_touches_52 (by decide) rfl ?_
        refine jn_iinc (x := a) (L' := [some (.ref (r)), some (.int (nI (k))), some (.int (d)), some (.int (nI (q))), some (.int (nI (1))), some (.int (nI (1))), some (.int (nI (a + 1)))]) dX12_touches_54 rfl rfl (by decide) rfl ?_
        refine jg_goto (tgt := 6) dX12_touches_57 (by decide) ?_
        refine jg_at_eq (ih (by omega)) rfl (by rw [show ra_tch s.2.1 d (fun c => wn s.2.1 0 + ((q) - (c)) / (6)) (a + 1) = true by simp only [ra_tch, hF, Bool.false_or]; exact decide_eq_true (Int32.not_le.mp c_2)]; rfl) rfl (rfl)
set_option maxHeartbeats 1000000 in
theorem r_touches_o {Γ : jg_G} {g : Nat → jg_C} {n r : Nat} (hr : r + 11 ≤ n) (s : rs_S) (k : Nat) (d : Int32) (q : Nat) (hh : wb s.2.1 0 30000) (hq : q < 24) (hk : k < 80) : jc Γ mX12_touches 1 0 0 [some (.ref (r)), some (.int (nI (k))), some (.int (d)), some (.int (nI (q))), some (.int (nI (1))), none, none] (rs_h g r s, n) (.inl none) (rs_h g r (s.1, ra_toucho s.2.1 k d q, s.2.2), n) := by
  refine jc_of ?_
  refine jn_iconst (k := 0) dX12_touches_0 (by decide) ?_
  refine jg_istore (L' := [some (.ref (r)), some (.int (nI (k))), some (.int (d)), some (.int (nI (q))), some (.int (nI (1))), some (.int (nI (0))), none]) dX12_touches_1 (by decide) rfl ?_
  refine jn_iconst (k := 0) dX12_touches_3 (by decide) ?_
  refine jg_istore (L' := [some (.ref (r)), some (.int (nI (k))), some (.int (d)), some (.int (nI (q))), some (.int (nI (1))), some (.int (nI (0))), some (.int (nI (0)))]) dX12_touches_4 (by decide) rfl ?_
  exact r_touches_ol hr s k d q hh hq hk 0 (Nat.zero_le _)
