/-! THE REFERENCE: public calls without loops (by program wip/whole/ref3.py) -/
theorem in_nat {v : Int32} {B : Nat} (hB : B < 2 ^ 31) (h1 : nI 0 ≤ v) (h2 : v ≤ nI B) : ∃ k : Nat, k ≤ B ∧ v = nI k := by
  have h0 : ¬ v < 0 := Int32.not_lt.mpr (by rw [nI_0] at h1; exact h1)
  exact nI_of2 (M := nI B) (n := B) (nI_toInt hB) h0 h2
/-- an index below a count -/
theorem in_natL {v : Int32} {c : Nat} {B : Nat} {x : Int32} (h1 : nI 0 ≤ v) (h2 : v ≤ nI c - nI 1) (_ : x = nI c) (hB : c ≤ B) (hB2 : B < 2 ^ 30 := by decide) : ∃ k : Nat, k < c ∧ v = nI k := by
  cases c with
  | zero =>
    have e1 : (nI 0 - nI 1 : Int32) = -1 := by decide
    rw [e1] at h2
    exact absurd (Int32.le_trans h1 h2) (by decide)
  | succ c =>
    rw [show nI (c + 1) - nI 1 = nI c from nI_pred c] at h2
    obtain ⟨k, hk, e⟩ := in_nat (by omega) h1 h2
    exact ⟨k, by omega, e⟩
theorem jt_out {D : Prop} (_ : True) (lo hi : Int) (x : Int32) (h : ∀ k : Int, lo ≤ k → k ≤ hi → ¬ x = Int32.ofInt k) : x.toInt < lo ∨ hi < x.toInt := by
  by_cases h1 : x.toInt < lo
  · exact Or.inl h1
  · by_cases h2 : hi < x.toInt
    · exact Or.inr h2
    · exact absurd (Int32.ofInt_toInt x).symm (h x.toInt (by omega) (by omega))

theorem dX12_tide_0 : decode cX12_tide 0 = .ok (.aload_n 0, 1) := by decide +kernel
theorem dX12_tide_1 : decode cX12_tide 1 = .ok (.iconst 0, 1) := by decide +kernel
theorem dX12_tide_2 : decode cX12_tide 2 = .ok (.putfield 3, 3) := by decide +kernel
theorem dX12_tide_5 : decode cX12_tide 5 = .ok (.aload_n 0, 1) := by decide +kernel
theorem dX12_tide_6 : decode cX12_tide 6 = .ok (.iload_n 1, 1) := by decide +kernel
theorem dX12_tide_7 : decode cX12_tide 7 = .ok (.iconst 0, 1) := by decide +kernel
theorem dX12_tide_8 : decode cX12_tide 8 = .ok (.bipush 24, 2) := by decide +kernel
theorem dX12_tide_10 : decode cX12_tide 10 = .ok (.invokestatic 49, 3) := by decide +kernel
theorem dX12_tide_13 : decode cX12_tide 13 = .ok (.ifCond .eq 14, 3) := by decide +kernel
theorem dX12_tide_16 : decode cX12_tide 16 = .ok (.iload_n 2, 1) := by decide +kernel
theorem dX12_tide_17 : decode cX12_tide 17 = .ok (.bipush (-20), 2) := by decide +kernel
theorem dX12_tide_19 : decode cX12_tide 19 = .ok (.bipush 60, 2) := by decide +kernel
theorem dX12_tide_21 : decode cX12_tide 21 = .ok (.invokestatic 49, 3) := by decide +kernel
theorem dX12_tide_24 : decode cX12_tide 24 = .ok (.ifCond .ne 7, 3) := by decide +kernel
theorem dX12_tide_27 : decode cX12_tide 27 = .ok (.iconst 1, 1) := by decide +kernel
theorem dX12_tide_28 : decode cX12_tide 28 = .ok (.goto 4, 3) := by decide +kernel
theorem dX12_tide_31 : decode cX12_tide 31 = .ok (.iconst 0, 1) := by decide +kernel
theorem dX12_tide_32 : decode cX12_tide 32 = .ok (.iconst 1, 1) := by decide +kernel
theorem dX12_tide_33 : decode cX12_tide 33 = .ok (.invokevirtual 69, 3) := by decide +kernel
theorem dX12_tide_36 : decode cX12_tide 36 = .ok (.ifCond .eq 4, 3) := by decide +kernel
theorem dX12_tide_39 : decode cX12_tide 39 = .ok (.return_, 1) := by decide +kernel
theorem dX12_tide_40 : decode cX12_tide 40 = .ok (.aload_n 0, 1) := by decide +kernel
theorem dX12_tide_41 : decode cX12_tide 41 = .ok (.getfield 13, 3) := by decide +kernel
theorem dX12_tide_44 : decode cX12_tide 44 = .ok (.bipush 73, 2) := by decide +kernel
theorem dX12_tide_46 : decode cX12_tide 46 = .ok (.iload_n 1, 1) := by decide +kernel
theorem dX12_tide_47 : decode cX12_tide 47 = .ok (.iadd, 1) := by decide +kernel
theorem dX12_tide_48 : decode cX12_tide 48 = .ok (.iload_n 2, 1) := by decide +kernel
theorem dX12_tide_49 : decode cX12_tide 49 = .ok (.iastore, 1) := by decide +kernel
theorem dX12_tide_50 : decode cX12_tide 50 = .ok (.return_, 1) := by decide +kernel
def o_r_tide (s : rs_S) (p v : Int32) : Option Value × rs_S := (if (nI (0)) ≤ (p) ∧ (p) ≤ (nI (24)) then (if (-20) ≤ (v) ∧ (v) ≤ (nI (60)) then (none, (va_up (s.1) 0 (nI (0)), upd (s.2.1) (73 + p.toNatClampNeg) (v), s.2.2)) else (none, (va_up (va_up (s.1) 0 (nI (0))) 0 (nI 1), s.2.1, s.2.2))) else (none, (va_up (va_up (s.1) 0 (nI (0))) 0 (nI 1), s.2.1, s.2.2)))
set_option maxHeartbeats 2000000 in
theorem r_tide {Γ : jg_G} {g : Nat → jg_C} {n r : Nat} (hr : r + 11 ≤ n) (s : rs_S) (p v : Int32)  : jc Γ mX12_tide 2 0 0 [some (.ref (r)), some (.int (p)), some (.int (v))] (rs_h g r s, n) (.inl (o_r_tide s p v).1) (rs_h g r (o_r_tide s p v).2, n) := by
  refine jc_of ?_
  refine jg_aload_n dX12_tide_0 rfl ?_
  refine jn_iconst (k := 0) dX12_tide_1 (by decide) ?_
  refine rs_put (x := (nI (0))) (i' := va_up (s.1) 0 (nI (0))) fl_X12_3 dX12_tide_2 hr (by decide) (rfl) rfl rfl ?_
  refine jg_aload_n dX12_tide_5 rfl ?_
  refine jg_iload_n dX12_tide_6 rfl ?_
  refine jn_iconst (k := 0) dX12_tide_7 (by decide) ?_
  refine jn_bipush (k := 24) dX12_tide_8 (by decide) ?_
  by_cases c_1 : (nI (0)) ≤ (p) ∧ (p) ≤ (nI (24))
  · skip
    refine rs_callS (As := [.int (p), .int (nI (0)), .int (nI (24))]) ks_X12_49 dX12_tide_10 rfl (by decide) (Nat.le_of_ble_eq_true rfl) rfl (by decide) (Nat.le_of_ble_eq_true rfl) (r_in_t (p) (nI (0)) (nI (24)) c_1) ?_
    refine jn_if_eq (x := 1) (tgt := 27) dX12_tide_13 (by decide) (by omega) (fun q9 => absurd q9 (by decide)) (fun _ => ?_)
    refine jg_iload_n dX12_tide_16 rfl ?_
    refine jg_bipush (v := -20) dX12_tide_17 (by decide) ?_
    refine jn_bipush (k := 60) dX12_tide_19 (by decide) ?_
    by_cases c_2 : (-20) ≤ (v) ∧ (v) ≤ (nI (60))
    · skip
      refine rs_callS (As := [.int (v), .int (-20), .int (nI (60))]) ks_X12_49 dX12_tide_21 rfl (by decide) (Nat.le_of_ble_eq_true rfl) rfl (by decide) (Nat.le_of_ble_eq_true rfl) (r_in_t (v) (-20) (nI (60)) c_2) ?_
      refine jn_if_ne (x := 1) (tgt := 31) dX12_tide_24 (by decide) (by omega) (fun _ => ?_) (fun q9 => absurd q9 (by decide))
      refine jn_iconst (k := 0) dX12_tide_31 (by decide) ?_
      refine jn_iconst (k := 1) dX12_tide_32 (by decide) ?_
      refine rs_call (As := [.int (nI (0)), .int (nI (1))]) kv_X12_69 dX12_tide_33 hr rfl rfl (by decide) (Nat.le_of_ble_eq_true rfl) rfl (by decide) (Nat.le_of_ble_eq_true rfl) (r_thr0 hr (va_up (s.1) 0 (nI (0)), s.2.1, s.2.2) 1) ?_
      refine jn_if_eq (x := 0) (tgt := 40) dX12_tide_36 (by decide) (by omega) (fun _ => ?_) (fun q9 => absurd q9 (by decide))
      obtain ⟨k_p, hk_p, rfl⟩ := in_nat (by decide) c_1.1 c_1.2
      refine jg_aload_n dX12_tide_40 rfl ?_
      refine rs_ga fl_X12_13 dX12_tide_41 hr rfl ?_
      refine jn_bipush (k := 73) dX12_tide_44 (by decide) ?_
      refine jg_iload_n dX12_tide_46 rfl ?_
      refine jn_iadd (x := 73) (y := k_p) dX12_tide_47  ?_
      refine jg_iload_n dX12_tide_48 rfl ?_
      refine rs_sw (i := 73 + k_p) (x := (v)) dX12_tide_49 hr (by omega) ?_
      exact jg_return dX12_tide_50 rfl ⟨by simp only [o_r_tide, if_pos c_1, if_pos c_2, nI_clamp (show k_p < 2 ^ 31 by omega)], by simp only [o_r_tide, if_pos c_1, if_pos c_2, nI_clamp (show k_p < 2 ^ 31 by omega)]⟩
    · skip
      refine rs_callS (As := [.int (v), .int (-20), .int (nI (60))]) ks_X12_49 dX12_tide_21 rfl (by decide) (Nat.le_of_ble_eq_true rfl) rfl (by decide) (Nat.le_of_ble_eq_true rfl) (r_in_f (v) (-20) (nI (60)) c_2) ?_
      refine jn_if_ne (x := 0) (tgt := 31) dX12_tide_24 (by decide) (by omega) (fun q9 => absurd q9 (by decide)) (fun _ => ?_)
      refine jn_iconst (k := 1) dX12_tide_27 (by decide) ?_
      refine jg_goto (tgt := 32) dX12_tide_28 (by decide) ?_
      refine jn_iconst (k := 1) dX12_tide_32 (by decide) ?_
      refine rs_call (As := [.int (nI (1)), .int (nI (1))]) kv_X12_69 dX12_tide_33 hr rfl rfl (by decide) (Nat.le_of_ble_eq_true rfl) rfl (by decide) (Nat.le_of_ble_eq_true rfl) (r_thr1 hr (va_up (s.1) 0 (nI (0)), s.2.1, s.2.2) 1) ?_
      refine jn_if_eq (x := 1) (tgt := 40) dX12_tide_36 (by decide) (by omega) (fun q9 => absurd q9 (by decide)) (fun _ => ?_)
      exact jg_return dX12_tide_39 rfl ⟨by simp only [o_r_tide, if_pos c_1, if_neg c_2], by simp only [o_r_tide, if_pos c_1, if_neg c_2]⟩
  · skip
    refine rs_callS (As := [.int (p), .int (nI (0)), .int (nI (24))]) ks_X12_49 dX12_tide_10 rfl (by decide) (Nat.le_of_ble_eq_true rfl) rfl (by decide) (Nat.le_of_ble_eq_true rfl) (r_in_f (p) (nI (0)) (nI (24)) c_1) ?_
    refine jn_if_eq (x := 0) (tgt := 27) dX12_tide_13 (by decide) (by omega) (fun _ => ?_) (fun q9 => absurd q9 (by decide))
    refine jn_iconst (k := 1) dX12_tide_27 (by decide) ?_
    refine jg_goto (tgt := 32) dX12_tide_28 (by decide) ?_
    refine jn_iconst (k := 1) dX12_tide_32 (by decide) ?_
    refine rs_call (As := [.int (nI (1)), .int (nI (1))]) kv_X12_69 dX12_tide_33 hr rfl rfl (by decide) (Nat.le_of_ble_eq_true rfl) rfl (by decide) (Nat.le_of_ble_eq_true rfl) (r_thr1 hr (va_up (s.1) 0 (nI (0)), s.2.1, s.2.2) 1) ?_
    refine jn_if_eq (x := 1) (tgt := 40) dX12_tide_36 (by decide) (by omega) (fun q9 => absurd q9 (by decide)) (fun _ => ?_)
    exact jg_return dX12_tide_39 rfl ⟨by simp only [o_r_tide, if_neg c_1], by simp only [o_r_tide, if_neg c_1]⟩
theorem dX12_hands_0 : decode cX12_hands 0 = .ok (.aload_n 0, 1) := by decide +kernel
theorem dX12_hands_1 : decode cX12_hands 1 = .ok (.iconst 0, 1) := by decide +kernel
theorem dX12_hands_2 : decode cX12_hands 2 = .ok (.putfield 3, 3) := by decide +kernel
theorem dX12_hands_5 : decode cX12_hands 5 = .ok (.aload_n 0, 1) := by decide +kernel
theorem dX12_hands_6 : decode cX12_hands 6 = .ok (.iload_n 1, 1) := by decide +kernel
theorem dX12_hands_7 : decode cX12_hands 7 = .ok (.iconst 0, 1) := by decide +kernel
theorem dX12_hands_8 : decode cX12_hands 8 = .ok (.bipush 20, 2) := by decide +kernel
theorem dX12_hands_10 : decode cX12_hands 10 = .ok (.invokestatic 49, 3) := by decide +kernel
theorem dX12_hands_13 : decode cX12_hands 13 = .ok (.ifCond .eq 13, 3) := by decide +kernel
theorem dX12_hands_16 : decode cX12_hands 16 = .ok (.iload_n 2, 1) := by decide +kernel
theorem dX12_hands_17 : decode cX12_hands 17 = .ok (.iconst 0, 1) := by decide +kernel
theorem dX12_hands_18 : decode cX12_hands 18 = .ok (.bipush 100, 2) := by decide +kernel
theorem dX12_hands_20 : decode cX12_hands 20 = .ok (.invokestatic 49, 3) := by decide +kernel
theorem dX12_hands_23 : decode cX12_hands 23 = .ok (.ifCond .ne 7, 3) := by decide +kernel
theorem dX12_hands_26 : decode cX12_hands 26 = .ok (.iconst 1, 1) := by decide +kernel
theorem dX12_hands_27 : decode cX12_hands 27 = .ok (.goto 4, 3) := by decide +kernel
theorem dX12_hands_30 : decode cX12_hands 30 = .ok (.iconst 0, 1) := by decide +kernel
theorem dX12_hands_31 : decode cX12_hands 31 = .ok (.iconst 1, 1) := by decide +kernel
theorem dX12_hands_32 : decode cX12_hands 32 = .ok (.invokevirtual 69, 3) := by decide +kernel
theorem dX12_hands_35 : decode cX12_hands 35 = .ok (.ifCond .eq 4, 3) := by decide +kernel
theorem dX12_hands_38 : decode cX12_hands 38 = .ok (.return_, 1) := by decide +kernel
theorem dX12_hands_39 : decode cX12_hands 39 = .ok (.aload_n 0, 1) := by decide +kernel
theorem dX12_hands_40 : decode cX12_hands 40 = .ok (.getfield 13, 3) := by decide +kernel
theorem dX12_hands_43 : decode cX12_hands 43 = .ok (.sipush 1080, 3) := by decide +kernel
theorem dX12_hands_46 : decode cX12_hands 46 = .ok (.iload_n 1, 1) := by decide +kernel
theorem dX12_hands_47 : decode cX12_hands 47 = .ok (.iastore, 1) := by decide +kernel
theorem dX12_hands_48 : decode cX12_hands 48 = .ok (.aload_n 0, 1) := by decide +kernel
theorem dX12_hands_49 : decode cX12_hands 49 = .ok (.getfield 13, 3) := by decide +kernel
theorem dX12_hands_52 : decode cX12_hands 52 = .ok (.sipush 1081, 3) := by decide +kernel
theorem dX12_hands_55 : decode cX12_hands 55 = .ok (.iload_n 2, 1) := by decide +kernel
theorem dX12_hands_56 : decode cX12_hands 56 = .ok (.iastore, 1) := by decide +kernel
theorem dX12_hands_57 : decode cX12_hands 57 = .ok (.return_, 1) := by decide +kernel
def o_r_hands (s : rs_S) (p v : Int32) : Option Value × rs_S := (if (nI (0)) ≤ (p) ∧ (p) ≤ (nI (20)) then (if (nI (0)) ≤ (v) ∧ (v) ≤ (nI (100)) then (none, (va_up (s.1) 0 (nI (0)), upd (upd (s.2.1) (1080) (p)) (1081) (v), s.2.2)) else (none, (va_up (va_up (s.1) 0 (nI (0))) 0 (nI 1), s.2.1, s.2.2))) else (none, (va_up (va_up (s.1) 0 (nI (0))) 0 (nI 1), s.2.1, s.2.2)))
set_option maxHeartbeats 2000000 in
theorem r_hands {Γ : jg_G} {g : Nat → jg_C} {n r : Nat} (hr : r + 11 ≤ n) (s : rs_S) (p v : Int32)  : jc Γ mX12_hands 2 0 0 [some (.ref (r)), some (.int (p)), some (.int (v))] (rs_h g r s, n) (.inl (o_r_hands s p v).1) (rs_h g r (o_r_hands s p v).2, n) := by
  refine jc_of ?_
  refine jg_aload_n dX12_hands_0 rfl ?_
  refine jn_iconst (k := 0) dX12_hands_1 (by decide) ?_
  refine rs_put (x := (nI (0))) (i' := va_up (s.1) 0 (nI (0))) fl_X12_3 dX12_hands_2 hr (by decide) (rfl) rfl rfl ?_
  refine jg_aload_n dX12_hands_5 rfl ?_
  refine jg_iload_n dX12_hands_6 rfl ?_
  refine jn_iconst (k := 0) dX12_hands_7 (by decide) ?_
  refine jn_bipush (k := 20) dX12_hands_8 (by decide) ?_
  by_cases c_1 : (nI (0)) ≤ (p) ∧ (p) ≤ (nI (20))
  · skip
    refine rs_callS (As := [.int (p), .int (nI (0)), .int (nI (20))]) ks_X12_49 dX12_hands_10 rfl (by decide) (Nat.le_of_ble_eq_true rfl) rfl (by decide) (Nat.le_of_ble_eq_true rfl) (r_in_t (p) (nI (0)) (nI (20)) c_1) ?_
    refine jn_if_eq (x := 1) (tgt := 26) dX12_hands_13 (by decide) (by omega) (fun q9 => absurd q9 (by decide)) (fun _ => ?_)
    refine jg_iload_n dX12_hands_16 rfl ?_
    refine jn_iconst (k := 0) dX12_hands_17 (by decide) ?_
    refine jn_bipush (k := 100) dX12_hands_18 (by decide) ?_
    by_cases c_2 : (nI (0)) ≤ (v) ∧ (v) ≤ (nI (100))
    · skip
      refine rs_callS (As := [.int (v), .int (nI (0)), .int (nI (100))]) ks_X12_49 dX12_hands_20 rfl (by decide) (Nat.le_of_ble_eq_true rfl) rfl (by decide) (Nat.le_of_ble_eq_true rfl) (r_in_t (v) (nI (0)) (nI (100)) c_2) ?_
      refine jn_if_ne (x := 1) (tgt := 30) dX12_hands_23 (by decide) (by omega) (fun _ => ?_) (fun q9 => absurd q9 (by decide))
      refine jn_iconst (k := 0) dX12_hands_30 (by decide) ?_
      refine jn_iconst (k := 1) dX12_hands_31 (by decide) ?_
      refine rs_call (As := [.int (nI (0)), .int (nI (1))]) kv_X12_69 dX12_hands_32 hr rfl rfl (by decide) (Nat.le_of_ble_eq_true rfl) rfl (by decide) (Nat.le_of_ble_eq_true rfl) (r_thr0 hr (va_up (s.1) 0 (nI (0)), s.2.1, s.2.2) 1) ?_
      refine jn_if_eq (x := 0) (tgt := 39) dX12_hands_35 (by decide) (by omega) (fun _ => ?_) (fun q9 => absurd q9 (by decide))
      refine jg_aload_n dX12_hands_39 rfl ?_
      refine rs_ga fl_X12_13 dX12_hands_40 hr rfl ?_
      refine jn_sipush (k := 1080) dX12_hands_43 (by decide) ?_
      refine jg_iload_n dX12_hands_46 rfl ?_
      refine rs_sw (i := 1080) (x := (p)) dX12_hands_47 hr (by omega) ?_
      refine jg_aload_n dX12_hands_48 rfl ?_
      refine rs_ga fl_X12_13 dX12_hands_49 hr rfl ?_
      refine jn_sipush (k := 1081) dX12_hands_52 (by decide) ?_
      refine jg_iload_n dX12_hands_55 rfl ?_
      refine rs_sw (i := 1081) (x := (v)) dX12_hands_56 hr (by omega) ?_
      exact jg_return dX12_hands_57 rfl ⟨by simp only [o_r_hands, if_pos c_1, if_pos c_2], by simp only [o_r_hands, if_pos c_1, if_pos c_2]⟩
    · skip
      refine rs_callS (As := [.int (v), .int (nI (0)), .int (nI (100))]) ks_X12_49 dX12_hands_20 rfl (by decide) (Nat.le_of_ble_eq_true rfl) rfl (by decide) (Nat.le_of_ble_eq_true rfl) (r_in_f (v) (nI (0)) (nI (100)) c_2) ?_
      refine jn_if_ne (x := 0) (tgt := 30) dX12_hands_23 (by decide) (by omega) (fun q9 => absurd q9 (by decide)) (fun _ => ?_)
      refine jn_iconst (k := 1) dX12_hands_26 (by decide) ?_
      refine jg_goto (tgt := 31) dX12_hands_27 (by decide) ?_
      refine jn_iconst (k := 1) dX12_hands_31 (by decide) ?_
      refine rs_call (As := [.int (nI (1)), .int (nI (1))]) kv_X12_69 dX12_hands_32 hr rfl rfl (by decide) (Nat.le_of_ble_eq_true rfl) rfl (by decide) (Nat.le_of_ble_eq_true rfl) (r_thr1 hr (va_up (s.1) 0 (nI (0)), s.2.1, s.2.2) 1) ?_
      refine jn_if_eq (x := 1) (tgt := 39) dX12_hands_35 (by decide) (by omega) (fun q9 => absurd q9 (by decide)) (fun _ => ?_)
      exact jg_return dX12_hands_38 rfl ⟨by simp only [o_r_hands, if_pos c_1, if_neg c_2], by simp only [o_r_hands, if_pos c_1, if_neg c_2]⟩
  · skip
    refine rs_callS (As := [.int (p), .int (nI (0)), .int (nI (20))]) ks_X12_49 dX12_hands_10 rfl (by decide) (Nat.le_of_ble_eq_true rfl) rfl (by decide) (Nat.le_of_ble_eq_true rfl) (r_in_f (p) (nI (0)) (nI (20)) c_1) ?_
    refine jn_if_eq (x := 0) (tgt := 26) dX12_hands_13 (by decide) (by omega) (fun _ => ?_) (fun q9 => absurd q9 (by decide))
    refine jn_iconst (k := 1) dX12_hands_26 (by decide) ?_
    refine jg_goto (tgt := 31) dX12_hands_27 (by decide) ?_
    refine jn_iconst (k := 1) dX12_hands_31 (by decide) ?_
    refine rs_call (As := [.int (nI (1)), .int (nI (1))]) kv_X12_69 dX12_hands_32 hr rfl rfl (by decide) (Nat.le_of_ble_eq_true rfl) rfl (by decide) (Nat.le_of_ble_eq_true rfl) (r_thr1 hr (va_up (s.1) 0 (nI (0)), s.2.1, s.2.2) 1) ?_
    refine jn_if_eq (x := 1) (tgt := 39) dX12_hands_35 (by decide) (by omega) (fun q9 => absurd q9 (by decide)) (fun _ => ?_)
    exact jg_return dX12_hands_38 rfl ⟨by simp only [o_r_hands, if_neg c_1], by simp only [o_r_hands, if_neg c_1]⟩
theorem dX12_payer_0 : decode cX12_payer 0 = .ok (.aload_n 0, 1) := by decide +kernel
theorem dX12_payer_1 : decode cX12_payer 1 = .ok (.iconst 0, 1) := by decide +kernel
theorem dX12_payer_2 : decode cX12_payer 2 = .ok (.putfield 3, 3) := by decide +kernel
theorem dX12_payer_5 : decode cX12_payer 5 = .ok (.aload_n 0, 1) := by decide +kernel
theorem dX12_payer_6 : decode cX12_payer 6 = .ok (.aload_n 0, 1) := by decide +kernel
theorem dX12_payer_7 : decode cX12_payer 7 = .ok (.getfield 13, 3) := by decide +kernel
theorem dX12_payer_10 : decode cX12_payer 10 = .ok (.sipush 1090, 3) := by decide +kernel
theorem dX12_payer_13 : decode cX12_payer 13 = .ok (.iaload, 1) := by decide +kernel
theorem dX12_payer_14 : decode cX12_payer 14 = .ok (.bipush 30, 2) := by decide +kernel
theorem dX12_payer_16 : decode cX12_payer 16 = .ok (.if_icmp .ne 7, 3) := by decide +kernel
theorem dX12_payer_19 : decode cX12_payer 19 = .ok (.iconst 1, 1) := by decide +kernel
theorem dX12_payer_20 : decode cX12_payer 20 = .ok (.goto 4, 3) := by decide +kernel
theorem dX12_payer_23 : decode cX12_payer 23 = .ok (.iconst 0, 1) := by decide +kernel
theorem dX12_payer_24 : decode cX12_payer 24 = .ok (.iconst 1, 1) := by decide +kernel
theorem dX12_payer_25 : decode cX12_payer 25 = .ok (.invokevirtual 69, 3) := by decide +kernel
theorem dX12_payer_28 : decode cX12_payer 28 = .ok (.ifCond .eq 5, 3) := by decide +kernel
theorem dX12_payer_31 : decode cX12_payer 31 = .ok (.iconst 0, 1) := by decide +kernel
theorem dX12_payer_32 : decode cX12_payer 32 = .ok (.ireturn, 1) := by decide +kernel
theorem dX12_payer_33 : decode cX12_payer 33 = .ok (.aload_n 0, 1) := by decide +kernel
theorem dX12_payer_34 : decode cX12_payer 34 = .ok (.getfield 13, 3) := by decide +kernel
theorem dX12_payer_37 : decode cX12_payer 37 = .ok (.sipush 1090, 3) := by decide +kernel
theorem dX12_payer_40 : decode cX12_payer 40 = .ok (.dup2, 1) := by decide +kernel
theorem dX12_payer_41 : decode cX12_payer 41 = .ok (.iaload, 1) := by decide +kernel
theorem dX12_payer_42 : decode cX12_payer 42 = .ok (.iconst 1, 1) := by decide +kernel
theorem dX12_payer_43 : decode cX12_payer 43 = .ok (.iadd, 1) := by decide +kernel
theorem dX12_payer_44 : decode cX12_payer 44 = .ok (.iastore, 1) := by decide +kernel
theorem dX12_payer_45 : decode cX12_payer 45 = .ok (.aload_n 0, 1) := by decide +kernel
theorem dX12_payer_46 : decode cX12_payer 46 = .ok (.getfield 13, 3) := by decide +kernel
theorem dX12_payer_49 : decode cX12_payer 49 = .ok (.sipush 1090, 3) := by decide +kernel
theorem dX12_payer_52 : decode cX12_payer 52 = .ok (.iaload, 1) := by decide +kernel
theorem dX12_payer_53 : decode cX12_payer 53 = .ok (.iconst 1, 1) := by decide +kernel
theorem dX12_payer_54 : decode cX12_payer 54 = .ok (.isub, 1) := by decide +kernel
theorem dX12_payer_55 : decode cX12_payer 55 = .ok (.ireturn, 1) := by decide +kernel
def o_r_payer (s : rs_S)  : Option Value × rs_S := (if wn s.2.1 1090 = 30 then (some (.int (nI (0))), (va_up (va_up (s.1) 0 (nI (0))) 0 (nI 1), s.2.1, s.2.2)) else (some (.int (nI ((wn s.2.1 1090 + 1) - (1)))), (va_up (s.1) 0 (nI (0)), upd (s.2.1) (1090) (nI (wn s.2.1 1090 + 1)), s.2.2)))
set_option maxHeartbeats 2000000 in
theorem r_payer {Γ : jg_G} {g : Nat → jg_C} {n r : Nat} (hr : r + 11 ≤ n) (s : rs_S)  (hc : wb s.2.1 1090 30) : jc Γ mX12_payer 1 0 0 [some (.ref (r))] (rs_h g r s, n) (.inl (o_r_payer s ).1) (rs_h g r (o_r_payer s ).2, n) := by
  refine jc_of ?_
  have hc_2 := hc.2
  refine jg_aload_n dX12_payer_0 rfl ?_
  refine jn_iconst (k := 0) dX12_payer_1 (by decide) ?_
  refine rs_put (x := (nI (0))) (i' := va_up (s.1) 0 (nI (0))) fl_X12_3 dX12_payer_2 hr (by decide) (rfl) rfl rfl ?_
  refine jg_aload_n dX12_payer_5 rfl ?_
  refine jg_aload_n dX12_payer_6 rfl ?_
  refine rs_ga fl_X12_13 dX12_payer_7 hr rfl ?_
  refine jn_sipush (k := 1090) dX12_payer_10 (by decide) ?_
  refine rs_lwN (i := 1090) (x := (nI (wn s.2.1 1090))) (hc.1) dX12_payer_13 hr (by omega) ?_
  refine jn_bipush (k := 30) dX12_payer_14 (by decide) ?_
  refine jn_icmp_ne (x := wn s.2.1 1090) (y := 30) (tgt := 23) dX12_payer_16 (by decide) (by omega) (by omega) (fun c_1 => ?_) (fun c_1 => ?_)
  · skip
    refine jn_iconst (k := 0) dX12_payer_23 (by decide) ?_
    refine jn_iconst (k := 1) dX12_payer_24 (by decide) ?_
    refine rs_call (As := [.int (nI (0)), .int (nI (1))]) kv_X12_69 dX12_payer_25 hr rfl rfl (by decide) (Nat.le_of_ble_eq_true rfl) rfl (by decide) (Nat.le_of_ble_eq_true rfl) (r_thr0 hr (va_up (s.1) 0 (nI (0)), s.2.1, s.2.2) 1) ?_
    refine jn_if_eq (x := 0) (tgt := 33) dX12_payer_28 (by decide) (by omega) (fun _ => ?_) (fun q9 => absurd q9 (by decide))
    refine jg_aload_n dX12_payer_33 rfl ?_
    refine rs_ga fl_X12_13 dX12_payer_34 hr rfl ?_
    refine jn_sipush (k := 1090) dX12_payer_37 (by decide) ?_
    refine jg_dup2 dX12_payer_40 rfl rfl ?_
    refine rs_lwN (i := 1090) (x := (nI (wn s.2.1 1090))) (hc.1) dX12_payer_41 hr (by omega) ?_
    refine jn_iconst (k := 1) dX12_payer_42 (by decide) ?_
    refine jn_iadd (x := wn s.2.1 1090) (y := 1) dX12_payer_43  ?_
    refine rs_sw (i := 1090) (x := (nI (wn s.2.1 1090 + 1))) dX12_payer_44 hr (by omega) ?_
    refine jg_aload_n dX12_payer_45 rfl ?_
    refine rs_ga fl_X12_13 dX12_payer_46 hr rfl ?_
    refine jn_sipush (k := 1090) dX12_payer_49 (by decide) ?_
    refine rs_lwN (i := 1090) (x := (nI (wn s.2.1 1090 + 1))) (by simp [upd]) dX12_payer_52 hr (by omega) ?_
    refine jn_iconst (k := 1) dX12_payer_53 (by decide) ?_
    refine jn_isub (x := wn s.2.1 1090 + 1) (y := 1) dX12_payer_54 (by omega) ?_
    exact jg_ireturn dX12_payer_55 rfl ⟨by simp only [o_r_payer, if_neg c_1], by simp only [o_r_payer, if_neg c_1]⟩
  · skip
    refine jn_iconst (k := 1) dX12_payer_19 (by decide) ?_
    refine jg_goto (tgt := 24) dX12_payer_20 (by decide) ?_
    refine jn_iconst (k := 1) dX12_payer_24 (by decide) ?_
    refine rs_call (As := [.int (nI (1)), .int (nI (1))]) kv_X12_69 dX12_payer_25 hr rfl rfl (by decide) (Nat.le_of_ble_eq_true rfl) rfl (by decide) (Nat.le_of_ble_eq_true rfl) (r_thr1 hr (va_up (s.1) 0 (nI (0)), s.2.1, s.2.2) 1) ?_
    refine jn_if_eq (x := 1) (tgt := 33) dX12_payer_28 (by decide) (by omega) (fun q9 => absurd q9 (by decide)) (fun _ => ?_)
    refine jn_iconst (k := 0) dX12_payer_31 (by decide) ?_
    exact jg_ireturn dX12_payer_32 rfl ⟨by simp only [o_r_payer, if_pos c_1], by simp only [o_r_payer, if_pos c_1]⟩
theorem dX12_added_0 : decode cX12_added 0 = .ok (.ldc2_w 53, 3) := by decide +kernel
theorem dX12_added_3 : decode cX12_added 3 = .ok (.iload_n 0, 1) := by decide +kernel
theorem dX12_added_4 : decode cX12_added 4 = .ok (.i2l, 1) := by decide +kernel
theorem dX12_added_5 : decode cX12_added 5 = .ok (.lload_n 1, 1) := by decide +kernel
theorem dX12_added_6 : decode cX12_added 6 = .ok (.ladd, 1) := by decide +kernel
theorem dX12_added_7 : decode cX12_added 7 = .ok (.invokestatic 55, 3) := by decide +kernel
theorem dX12_added_10 : decode cX12_added 10 = .ok (.l2i, 1) := by decide +kernel
theorem dX12_added_11 : decode cX12_added 11 = .ok (.ireturn, 1) := by decide +kernel
theorem r_added {Γ : jg_G} {h : jg_H} (a : Int32) (b : Int64)  : jc Γ mX12_added 1 0 0 [some (.int (a)), some (.long (b)), none] h (.inl (some (.int ((if (((a).toInt64) + (b)) < 2000000000 then (((a).toInt64) + (b)) else 2000000000).toInt32)))) h := by
  refine jc_of ?_
  refine jg_ldc2 kk_X12_53 dX12_added_0 ?_
  refine jg_iload_n dX12_added_3 rfl ?_
  refine jg_i2l dX12_added_4 ?_
  refine jg_lload_n dX12_added_5 rfl ?_
  refine jg_ladd dX12_added_6 ?_
  refine jg_mminl (x := 2000000000) (y := (((a).toInt64) + (b))) km_X12_55 jw_minl.1 jw_minl.2 dX12_added_7 (by decide) (Nat.le_of_ble_eq_true rfl) ?_
  refine jg_l2i dX12_added_10 ?_
  exact jg_ireturn dX12_added_11 rfl ⟨rfl, rfl⟩
/-- with a cap -/
def ad (a : Int32) (b : Int64) : Int32 := (if (((a).toInt64) + (b)) < 2000000000 then (((a).toInt64) + (b)) else 2000000000).toInt32
theorem dX12_cash_0 : decode cX12_cash 0 = .ok (.aload_n 0, 1) := by decide +kernel
theorem dX12_cash_1 : decode cX12_cash 1 = .ok (.iconst 0, 1) := by decide +kernel
theorem dX12_cash_2 : decode cX12_cash 2 = .ok (.putfield 3, 3) := by decide +kernel
theorem dX12_cash_5 : decode cX12_cash 5 = .ok (.aload_n 0, 1) := by decide +kernel
theorem dX12_cash_6 : decode cX12_cash 6 = .ok (.iload_n 1, 1) := by decide +kernel
theorem dX12_cash_7 : decode cX12_cash 7 = .ok (.iconst 0, 1) := by decide +kernel
theorem dX12_cash_8 : decode cX12_cash 8 = .ok (.ldc 110, 2) := by decide +kernel
theorem dX12_cash_10 : decode cX12_cash 10 = .ok (.invokestatic 49, 3) := by decide +kernel
theorem dX12_cash_13 : decode cX12_cash 13 = .ok (.ifCond .ne 7, 3) := by decide +kernel
theorem dX12_cash_16 : decode cX12_cash 16 = .ok (.iconst 1, 1) := by decide +kernel
theorem dX12_cash_17 : decode cX12_cash 17 = .ok (.goto 4, 3) := by decide +kernel
theorem dX12_cash_20 : decode cX12_cash 20 = .ok (.iconst 0, 1) := by decide +kernel
theorem dX12_cash_21 : decode cX12_cash 21 = .ok (.iconst 1, 1) := by decide +kernel
theorem dX12_cash_22 : decode cX12_cash 22 = .ok (.invokevirtual 69, 3) := by decide +kernel
theorem dX12_cash_25 : decode cX12_cash 25 = .ok (.ifCond .eq 5, 3) := by decide +kernel
theorem dX12_cash_28 : decode cX12_cash 28 = .ok (.iconst 0, 1) := by decide +kernel
theorem dX12_cash_29 : decode cX12_cash 29 = .ok (.ireturn, 1) := by decide +kernel
theorem dX12_cash_30 : decode cX12_cash 30 = .ok (.aload_n 0, 1) := by decide +kernel
theorem dX12_cash_31 : decode cX12_cash 31 = .ok (.getfield 13, 3) := by decide +kernel
theorem dX12_cash_34 : decode cX12_cash 34 = .ok (.sipush 2652, 3) := by decide +kernel
theorem dX12_cash_37 : decode cX12_cash 37 = .ok (.aload_n 0, 1) := by decide +kernel
theorem dX12_cash_38 : decode cX12_cash 38 = .ok (.getfield 13, 3) := by decide +kernel
theorem dX12_cash_41 : decode cX12_cash 41 = .ok (.sipush 2652, 3) := by decide +kernel
theorem dX12_cash_44 : decode cX12_cash 44 = .ok (.iaload, 1) := by decide +kernel
theorem dX12_cash_45 : decode cX12_cash 45 = .ok (.iload_n 1, 1) := by decide +kernel
theorem dX12_cash_46 : decode cX12_cash 46 = .ok (.i2l, 1) := by decide +kernel
theorem dX12_cash_47 : decode cX12_cash 47 = .ok (.invokestatic 173, 3) := by decide +kernel
theorem dX12_cash_50 : decode cX12_cash 50 = .ok (.iastore, 1) := by decide +kernel
theorem dX12_cash_51 : decode cX12_cash 51 = .ok (.aload_n 0, 1) := by decide +kernel
theorem dX12_cash_52 : decode cX12_cash 52 = .ok (.getfield 13, 3) := by decide +kernel
theorem dX12_cash_55 : decode cX12_cash 55 = .ok (.sipush 2652, 3) := by decide +kernel
theorem dX12_cash_58 : decode cX12_cash 58 = .ok (.iaload, 1) := by decide +kernel
theorem dX12_cash_59 : decode cX12_cash 59 = .ok (.ireturn, 1) := by decide +kernel
def o_r_cash (s : rs_S) (v : Int32) : Option Value × rs_S := (if (nI (0)) ≤ (v) ∧ (v) ≤ (nI (1000000)) then (some (.int ((upd (s.2.1) (2652) (ad ((s.2.1) (2652)) ((v).toInt64))) (2652))), (va_up (s.1) 0 (nI (0)), upd (s.2.1) (2652) (ad ((s.2.1) (2652)) ((v).toInt64)), s.2.2)) else (some (.int (nI (0))), (va_up (va_up (s.1) 0 (nI (0))) 0 (nI 1), s.2.1, s.2.2)))
set_option maxHeartbeats 2000000 in
theorem r_cash {Γ : jg_G} {g : Nat → jg_C} {n r : Nat} (hr : r + 11 ≤ n) (s : rs_S) (v : Int32)  : jc Γ mX12_cash 2 0 0 [some (.ref (r)), some (.int (v))] (rs_h g r s, n) (.inl (o_r_cash s v).1) (rs_h g r (o_r_cash s v).2, n) := by
  refine jc_of ?_
  refine jg_aload_n dX12_cash_0 rfl ?_
  refine jn_iconst (k := 0) dX12_cash_1 (by decide) ?_
  refine rs_put (x := (nI (0))) (i' := va_up (s.1) 0 (nI (0))) fl_X12_3 dX12_cash_2 hr (by decide) (rfl) rfl rfl ?_
  refine jg_aload_n dX12_cash_5 rfl ?_
  refine jg_iload_n dX12_cash_6 rfl ?_
  refine jn_iconst (k := 0) dX12_cash_7 (by decide) ?_
  refine jg_ldc kk_X12_110 dX12_cash_8 ?_
  rw [show (1000000 : Int32) = nI 1000000 from rfl]
  by_cases c_1 : (nI (0)) ≤ (v) ∧ (v) ≤ (nI (1000000))
  · skip
    refine rs_callS (As := [.int (v), .int (nI (0)), .int (nI (1000000))]) ks_X12_49 dX12_cash_10 rfl (by decide) (Nat.le_of_ble_eq_true rfl) rfl (by decide) (Nat.le_of_ble_eq_true rfl) (r_in_t (v) (nI (0)) (nI (1000000)) c_1) ?_
    refine jn_if_ne (x := 1) (tgt := 20) dX12_cash_13 (by decide) (by omega) (fun _ => ?_) (fun q9 => absurd q9 (by decide))
    refine jn_iconst (k := 0) dX12_cash_20 (by decide) ?_
    refine jn_iconst (k := 1) dX12_cash_21 (by decide) ?_
    refine rs_call (As := [.int (nI (0)), .int (nI (1))]) kv_X12_69 dX12_cash_22 hr rfl rfl (by decide) (Nat.le_of_ble_eq_true rfl) rfl (by decide) (Nat.le_of_ble_eq_true rfl) (r_thr0 hr (va_up (s.1) 0 (nI (0)), s.2.1, s.2.2) 1) ?_
    refine jn_if_eq (x := 0) (tgt := 30) dX12_cash_25 (by decide) (by omega) (fun _ => ?_) (fun q9 => absurd q9 (by decide))
    refine jg_aload_n dX12_cash_30 rfl ?_
    refine rs_ga fl_X12_13 dX12_cash_31 hr rfl ?_
    refine jn_sipush (k := 2652) dX12_cash_34 (by decide) ?_
    refine jg_aload_n dX12_cash_37 rfl ?_
    refine rs_ga fl_X12_13 dX12_cash_38 hr rfl ?_
    refine jn_sipush (k := 2652) dX12_cash_41 (by decide) ?_
    refine rs_lw (i := 2652) dX12_cash_44 hr (by omega) ?_
    refine jg_iload_n dX12_cash_45 rfl ?_
    refine jg_i2l dX12_cash_46 ?_
    refine rs_callS (As := [.int ((s.2.1) (2652)), .long ((v).toInt64)]) ks_X12_173 dX12_cash_47 rfl (by decide) (Nat.le_of_ble_eq_true rfl) rfl (by decide) (Nat.le_of_ble_eq_true rfl) (r_added ((s.2.1) (2652)) ((v).toInt64)) ?_
    refine rs_sw (i := 2652) (x := (ad ((s.2.1) (2652)) ((v).toInt64))) dX12_cash_50 hr (by omega) ?_
    refine jg_aload_n dX12_cash_51 rfl ?_
    refine rs_ga fl_X12_13 dX12_cash_52 hr rfl ?_
    refine jn_sipush (k := 2652) dX12_cash_55 (by decide) ?_
    refine rs_lw (i := 2652) dX12_cash_58 hr (by omega) ?_
    exact jg_ireturn dX12_cash_59 rfl ⟨by simp only [o_r_cash, if_pos c_1], by simp only [o_r_cash, if_pos c_1]⟩
  · skip
    refine rs_callS (As := [.int (v), .int (nI (0)), .int (nI (1000000))]) ks_X12_49 dX12_cash_10 rfl (by decide) (Nat.le_of_ble_eq_true rfl) rfl (by decide) (Nat.le_of_ble_eq_true rfl) (r_in_f (v) (nI (0)) (nI (1000000)) c_1) ?_
    refine jn_if_ne (x := 0) (tgt := 20) dX12_cash_13 (by decide) (by omega) (fun q9 => absurd q9 (by decide)) (fun _ => ?_)
    refine jn_iconst (k := 1) dX12_cash_16 (by decide) ?_
    refine jg_goto (tgt := 21) dX12_cash_17 (by decide) ?_
    refine jn_iconst (k := 1) dX12_cash_21 (by decide) ?_
    refine rs_call (As := [.int (nI (1)), .int (nI (1))]) kv_X12_69 dX12_cash_22 hr rfl rfl (by decide) (Nat.le_of_ble_eq_true rfl) rfl (by decide) (Nat.le_of_ble_eq_true rfl) (r_thr1 hr (va_up (s.1) 0 (nI (0)), s.2.1, s.2.2) 1) ?_
    refine jn_if_eq (x := 1) (tgt := 30) dX12_cash_25 (by decide) (by omega) (fun q9 => absurd q9 (by decide)) (fun _ => ?_)
    refine jn_iconst (k := 0) dX12_cash_28 (by decide) ?_
    exact jg_ireturn dX12_cash_29 rfl ⟨by simp only [o_r_cash, if_neg c_1], by simp only [o_r_cash, if_neg c_1]⟩
theorem dX12_dredger_0 : decode cX12_dredger 0 = .ok (.aload_n 0, 1) := by decide +kernel
theorem dX12_dredger_1 : decode cX12_dredger 1 = .ok (.iconst 0, 1) := by decide +kernel
theorem dX12_dredger_2 : decode cX12_dredger 2 = .ok (.putfield 3, 3) := by decide +kernel
theorem dX12_dredger_5 : decode cX12_dredger 5 = .ok (.aload_n 0, 1) := by decide +kernel
theorem dX12_dredger_6 : decode cX12_dredger 6 = .ok (.iload_n 1, 1) := by decide +kernel
theorem dX12_dredger_7 : decode cX12_dredger 7 = .ok (.iconst 1, 1) := by decide +kernel
theorem dX12_dredger_8 : decode cX12_dredger 8 = .ok (.sipush 500, 3) := by decide +kernel
theorem dX12_dredger_11 : decode cX12_dredger 11 = .ok (.invokestatic 49, 3) := by decide +kernel
theorem dX12_dredger_14 : decode cX12_dredger 14 = .ok (.ifCond .ne 7, 3) := by decide +kernel
theorem dX12_dredger_17 : decode cX12_dredger 17 = .ok (.iconst 1, 1) := by decide +kernel
theorem dX12_dredger_18 : decode cX12_dredger 18 = .ok (.goto 4, 3) := by decide +kernel
theorem dX12_dredger_21 : decode cX12_dredger 21 = .ok (.iconst 0, 1) := by decide +kernel
theorem dX12_dredger_22 : decode cX12_dredger 22 = .ok (.iconst 1, 1) := by decide +kernel
theorem dX12_dredger_23 : decode cX12_dredger 23 = .ok (.invokevirtual 69, 3) := by decide +kernel
theorem dX12_dredger_26 : decode cX12_dredger 26 = .ok (.ifCond .ne 29, 3) := by decide +kernel
theorem dX12_dredger_29 : decode cX12_dredger 29 = .ok (.aload_n 0, 1) := by decide +kernel
theorem dX12_dredger_30 : decode cX12_dredger 30 = .ok (.aload_n 0, 1) := by decide +kernel
theorem dX12_dredger_31 : decode cX12_dredger 31 = .ok (.getfield 13, 3) := by decide +kernel
theorem dX12_dredger_34 : decode cX12_dredger 34 = .ok (.sipush 179, 3) := by decide +kernel
theorem dX12_dredger_37 : decode cX12_dredger 37 = .ok (.iaload, 1) := by decide +kernel
theorem dX12_dredger_38 : decode cX12_dredger 38 = .ok (.bipush 6, 2) := by decide +kernel
theorem dX12_dredger_40 : decode cX12_dredger 40 = .ok (.if_icmp .ne 7, 3) := by decide +kernel
theorem dX12_dredger_43 : decode cX12_dredger 43 = .ok (.iconst 1, 1) := by decide +kernel
theorem dX12_dredger_44 : decode cX12_dredger 44 = .ok (.goto 4, 3) := by decide +kernel
theorem dX12_dredger_47 : decode cX12_dredger 47 = .ok (.iconst 0, 1) := by decide +kernel
theorem dX12_dredger_48 : decode cX12_dredger 48 = .ok (.iconst 2, 1) := by decide +kernel
theorem dX12_dredger_49 : decode cX12_dredger 49 = .ok (.invokevirtual 69, 3) := by decide +kernel
theorem dX12_dredger_52 : decode cX12_dredger 52 = .ok (.ifCond .eq 5, 3) := by decide +kernel
theorem dX12_dredger_55 : decode cX12_dredger 55 = .ok (.iconst 0, 1) := by decide +kernel
theorem dX12_dredger_56 : decode cX12_dredger 56 = .ok (.ireturn, 1) := by decide +kernel
theorem dX12_dredger_57 : decode cX12_dredger 57 = .ok (.aload_n 0, 1) := by decide +kernel
theorem dX12_dredger_58 : decode cX12_dredger 58 = .ok (.getfield 13, 3) := by decide +kernel
theorem dX12_dredger_61 : decode cX12_dredger 61 = .ok (.sipush 179, 3) := by decide +kernel
theorem dX12_dredger_64 : decode cX12_dredger 64 = .ok (.iaload, 1) := by decide +kernel
theorem dX12_dredger_65 : decode cX12_dredger 65 = .ok (.istore_n 2, 1) := by decide +kernel
theorem dX12_dredger_66 : decode cX12_dredger 66 = .ok (.aload_n 0, 1) := by decide +kernel
theorem dX12_dredger_67 : decode cX12_dredger 67 = .ok (.getfield 13, 3) := by decide +kernel
theorem dX12_dredger_70 : decode cX12_dredger 70 = .ok (.sipush 180, 3) := by decide +kernel
theorem dX12_dredger_73 : decode cX12_dredger 73 = .ok (.iconst 3, 1) := by decide +kernel
theorem dX12_dredger_74 : decode cX12_dredger 74 = .ok (.iload_n 2, 1) := by decide +kernel
theorem dX12_dredger_75 : decode cX12_dredger 75 = .ok (.imul, 1) := by decide +kernel
theorem dX12_dredger_76 : decode cX12_dredger 76 = .ok (.iadd, 1) := by decide +kernel
theorem dX12_dredger_77 : decode cX12_dredger 77 = .ok (.iload_n 1, 1) := by decide +kernel
theorem dX12_dredger_78 : decode cX12_dredger 78 = .ok (.iastore, 1) := by decide +kernel
theorem dX12_dredger_79 : decode cX12_dredger 79 = .ok (.aload_n 0, 1) := by decide +kernel
theorem dX12_dredger_80 : decode cX12_dredger 80 = .ok (.getfield 13, 3) := by decide +kernel
theorem dX12_dredger_83 : decode cX12_dredger 83 = .ok (.sipush 180, 3) := by decide +kernel
theorem dX12_dredger_86 : decode cX12_dredger 86 = .ok (.iconst 3, 1) := by decide +kernel
theorem dX12_dredger_87 : decode cX12_dredger 87 = .ok (.iload_n 2, 1) := by decide +kernel
theorem dX12_dredger_88 : decode cX12_dredger 88 = .ok (.imul, 1) := by decide +kernel
theorem dX12_dredger_89 : decode cX12_dredger 89 = .ok (.iadd, 1) := by decide +kernel
theorem dX12_dredger_90 : decode cX12_dredger 90 = .ok (.iconst 1, 1) := by decide +kernel
theorem dX12_dredger_91 : decode cX12_dredger 91 = .ok (.iadd, 1) := by decide +kernel
theorem dX12_dredger_92 : decode cX12_dredger 92 = .ok (.iconst (-1), 1) := by decide +kernel
theorem dX12_dredger_93 : decode cX12_dredger 93 = .ok (.iastore, 1) := by decide +kernel
theorem dX12_dredger_94 : decode cX12_dredger 94 = .ok (.aload_n 0, 1) := by decide +kernel
theorem dX12_dredger_95 : decode cX12_dredger 95 = .ok (.getfield 13, 3) := by decide +kernel
theorem dX12_dredger_98 : decode cX12_dredger 98 = .ok (.sipush 180, 3) := by decide +kernel
theorem dX12_dredger_101 : decode cX12_dredger 101 = .ok (.iconst 3, 1) := by decide +kernel
theorem dX12_dredger_102 : decode cX12_dredger 102 = .ok (.iload_n 2, 1) := by decide +kernel
theorem dX12_dredger_103 : decode cX12_dredger 103 = .ok (.imul, 1) := by decide +kernel
theorem dX12_dredger_104 : decode cX12_dredger 104 = .ok (.iadd, 1) := by decide +kernel
theorem dX12_dredger_105 : decode cX12_dredger 105 = .ok (.iconst 2, 1) := by decide +kernel
theorem dX12_dredger_106 : decode cX12_dredger 106 = .ok (.iadd, 1) := by decide +kernel
theorem dX12_dredger_107 : decode cX12_dredger 107 = .ok (.iconst (-1), 1) := by decide +kernel
theorem dX12_dredger_108 : decode cX12_dredger 108 = .ok (.iastore, 1) := by decide +kernel
theorem dX12_dredger_109 : decode cX12_dredger 109 = .ok (.aload_n 0, 1) := by decide +kernel
theorem dX12_dredger_110 : decode cX12_dredger 110 = .ok (.getfield 13, 3) := by decide +kernel
theorem dX12_dredger_113 : decode cX12_dredger 113 = .ok (.sipush 179, 3) := by decide +kernel
theorem dX12_dredger_116 : decode cX12_dredger 116 = .ok (.dup2, 1) := by decide +kernel
theorem dX12_dredger_117 : decode cX12_dredger 117 = .ok (.iaload, 1) := by decide +kernel
theorem dX12_dredger_118 : decode cX12_dredger 118 = .ok (.iconst 1, 1) := by decide +kernel
theorem dX12_dredger_119 : decode cX12_dredger 119 = .ok (.iadd, 1) := by decide +kernel
theorem dX12_dredger_120 : decode cX12_dredger 120 = .ok (.iastore, 1) := by decide +kernel
theorem dX12_dredger_121 : decode cX12_dredger 121 = .ok (.iload_n 2, 1) := by decide +kernel
theorem dX12_dredger_122 : decode cX12_dredger 122 = .ok (.ireturn, 1) := by decide +kernel
def o_r_dredger (s : rs_S) (v : Int32) : Option Value × rs_S := (if (nI (1)) ≤ (v) ∧ (v) ≤ (nI (500)) then (if wn s.2.1 179 = 6 then (some (.int (nI (0))), (va_up (va_up (s.1) 0 (nI (0))) 0 (nI 2), s.2.1, s.2.2)) else (some (.int (nI (wn s.2.1 179))), (va_up (s.1) 0 (nI (0)), upd (upd (upd (upd (s.2.1) (180 + (3) * (wn s.2.1 179)) (v)) (180 + (3) * (wn s.2.1 179) + 1) (-1)) (180 + (3) * (wn s.2.1 179) + 2) (-1)) (179) (nI (wn s.2.1 179 + 1)), s.2.2))) else (some (.int (nI (0))), (va_up (va_up (s.1) 0 (nI (0))) 0 (nI 1), s.2.1, s.2.2)))
set_option maxHeartbeats 2000000 in
theorem r_dredger {Γ : jg_G} {g : Nat → jg_C} {n r : Nat} (hr : r + 11 ≤ n) (s : rs_S) (v : Int32) (hc : wb s.2.1 179 6) : jc Γ mX12_dredger 2 0 0 [some (.ref (r)), some (.int (v)), none] (rs_h g r s, n) (.inl (o_r_dredger s v).1) (rs_h g r (o_r_dredger s v).2, n) := by
  refine jc_of ?_
  have hc_2 := hc.2
  refine jg_aload_n dX12_dredger_0 rfl ?_
  refine jn_iconst (k := 0) dX12_dredger_1 (by decide) ?_
  refine rs_put (x := (nI (0))) (i' := va_up (s.1) 0 (nI (0))) fl_X12_3 dX12_dredger_2 hr (by decide) (rfl) rfl rfl ?_
  refine jg_aload_n dX12_dredger_5 rfl ?_
  refine jg_iload_n dX12_dredger_6 rfl ?_
  refine jn_iconst (k := 1) dX12_dredger_7 (by decide) ?_
  refine jn_sipush (k := 500) dX12_dredger_8 (by decide) ?_
  by_cases c_1 : (nI (1)) ≤ (v) ∧ (v) ≤ (nI (500))
  · skip
    refine rs_callS (As := [.int (v), .int (nI (1)), .int (nI (500))]) ks_X12_49 dX12_dredger_11 rfl (by decide) (Nat.le_of_ble_eq_true rfl) rfl (by decide) (Nat.le_of_ble_eq_true rfl) (r_in_t (v) (nI (1)) (nI (500)) c_1) ?_
    refine jn_if_ne (x := 1) (tgt := 21) dX12_dredger_14 (by decide) (by omega) (fun _ => ?_) (fun q9 => absurd q9 (by decide))
    refine jn_iconst (k := 0) dX12_dredger_21 (by decide) ?_
    refine jn_iconst (k := 1) dX12_dredger_22 (by decide) ?_
    refine rs_call (As := [.int (nI (0)), .int (nI (1))]) kv_X12_69 dX12_dredger_23 hr rfl rfl (by decide) (Nat.le_of_ble_eq_true rfl) rfl (by decide) (Nat.le_of_ble_eq_true rfl) (r_thr0 hr (va_up (s.1) 0 (nI (0)), s.2.1, s.2.2) 1) ?_
    refine jn_if_ne (x := 0) (tgt := 55) dX12_dredger_26 (by decide) (by omega) (fun q9 => absurd q9 (by decide)) (fun _ => ?_)
    refine jg_aload_n dX12_dredger_29 rfl ?_
    refine jg_aload_n dX12_dredger_30 rfl ?_
    refine rs_ga fl_X12_13 dX12_dredger_31 hr rfl ?_
    refine jn_sipush (k := 179) dX12_dredger_34 (by decide) ?_
    refine rs_lwN (i := 179) (x := (nI (wn s.2.1 179))) (hc.1) dX12_dredger_37 hr (by omega) ?_
    refine jn_bipush (k := 6) dX12_dredger_38 (by decide) ?_
    refine jn_icmp_ne (x := wn s.2.1 179) (y := 6) (tgt := 47) dX12_dredger_40 (by decide) (by omega) (by omega) (fun c_2 => ?_) (fun c_2 => ?_)
    · skip
      refine jn_iconst (k := 0) dX12_dredger_47 (by decide) ?_
      refine jn_iconst (k := 2) dX12_dredger_48 (by decide) ?_
      refine rs_call (As := [.int (nI (0)), .int (nI (2))]) kv_X12_69 dX12_dredger_49 hr rfl rfl (by decide) (Nat.le_of_ble_eq_true rfl) rfl (by decide) (Nat.le_of_ble_eq_true rfl) (r_thr0 hr (va_up (s.1) 0 (nI (0)), s.2.1, s.2.2) 2) ?_
      refine jn_if_eq (x := 0) (tgt := 57) dX12_dredger_52 (by decide) (by omega) (fun _ => ?_) (fun q9 => absurd q9 (by decide))
      refine jg_aload_n dX12_dredger_57 rfl ?_
      refine rs_ga fl_X12_13 dX12_dredger_58 hr rfl ?_
      refine jn_sipush (k := 179) dX12_dredger_61 (by decide) ?_
      refine rs_lwN (i := 179) (x := (nI (wn s.2.1 179))) (hc.1) dX12_dredger_64 hr (by omega) ?_
      refine jg_istore_n (L' := [some (.ref (r)), some (.int (v)), some (.int (nI (wn s.2.1 179)))]) dX12_dredger_65 (by decide) rfl ?_
      refine jg_aload_n dX12_dredger_66 rfl ?_
      refine rs_ga fl_X12_13 dX12_dredger_67 hr rfl ?_
      refine jn_sipush (k := 180) dX12_dredger_70 (by decide) ?_
      refine jn_iconst (k := 3) dX12_dredger_73 (by decide) ?_
      refine jg_iload_n dX12_dredger_74 rfl ?_
      refine jn_imul (x := 3) (y := wn s.2.1 179) dX12_dredger_75  ?_
      refine jn_iadd (x := 180) (y := (3) * (wn s.2.1 179)) dX12_dredger_76  ?_
      refine jg_iload_n dX12_dredger_77 rfl ?_
      refine rs_sw (i := 180 + (3) * (wn s.2.1 179)) (x := (v)) dX12_dredger_78 hr (by omega) ?_
      refine jg_aload_n dX12_dredger_79 rfl ?_
      refine rs_ga fl_X12_13 dX12_dredger_80 hr rfl ?_
      refine jn_sipush (k := 180) dX12_dredger_83 (by decide) ?_
      refine jn_iconst (k := 3) dX12_dredger_86 (by decide) ?_
      refine jg_iload_n dX12_dredger_87 rfl ?_
      refine jn_imul (x := 3) (y := wn s.2.1 179) dX12_dredger_88  ?_
      refine jn_iadd (x := 180) (y := (3) * (wn s.2.1 179)) dX12_dredger_89  ?_
      refine jn_iconst (k := 1) dX12_dredger_90 (by decide) ?_
      refine jn_iadd (x := 180 + (3) * (wn s.2.1 179)) (y := 1) dX12_dredger_91  ?_
      refine jg_iconst (v := -1) dX12_dredger_92 (by decide) ?_
      refine rs_sw (i := 180 + (3) * (wn s.2.1 179) + 1) (x := (-1)) dX12_dredger_93 hr (by omega) ?_
      refine jg_aload_n dX12_dredger_94 rfl ?_
      refine rs_ga fl_X12_13 dX12_dredger_95 hr rfl ?_
      refine jn_sipush (k := 180) dX12_dredger_98 (by decide) ?_
      refine jn_iconst (k := 3) dX12_dredger_101 (by decide) ?_
      refine jg_iload_n dX12_dredger_102 rfl ?_
      refine jn_imul (x := 3) (y := wn s.2.1 179) dX12_dredger_103  ?_
      refine jn_iadd (x := 180) (y := (3) * (wn s.2.1 179)) dX12_dredger_104  ?_
      refine jn_iconst (k := 2) dX12_dredger_105 (by decide) ?_
      refine jn_iadd (x := 180 + (3) * (wn s.2.1 179)) (y := 2) dX12_dredger_106  ?_
      refine jg_iconst (v := -1) dX12_dredger_107 (by decide) ?_
      refine rs_sw (i := 180 + (3) * (wn s.2.1 179) + 2) (x := (-1)) dX12_dredger_108 hr (by omega) ?_
      refine jg_aload_n dX12_dredger_109 rfl ?_
      refine rs_ga fl_X12_13 dX12_dredger_110 hr rfl ?_
      refine jn_sipush (k := 179) dX12_dredger_113 (by decide) ?_
      refine jg_dup2 dX12_dredger_116 rfl rfl ?_
      refine rs_lwN (i := 179) (x := (nI (wn s.2.1 179))) (by simp only [upd]; (repeat rw [if_neg (by omega)]); exact hc.1) dX12_dredger_117 hr (by omega) ?_
      refine jn_iconst (k := 1) dX12_dredger_118 (by decide) ?_
      refine jn_iadd (x := wn s.2.1 179) (y := 1) dX12_dredger_119  ?_
      refine rs_sw (i := 179) (x := (nI (wn s.2.1 179 + 1))) dX12_dredger_120 hr (by omega) ?_
      refine jg_iload_n dX12_dredger_121 rfl ?_
      exact jg_ireturn dX12_dredger_122 rfl ⟨by simp only [o_r_dredger, if_pos c_1, if_neg c_2], by simp only [o_r_dredger, if_pos c_1, if_neg c_2]⟩
    · skip
      refine jn_iconst (k := 1) dX12_dredger_43 (by decide) ?_
      refine jg_goto (tgt := 48) dX12_dredger_44 (by decide) ?_
      refine jn_iconst (k := 2) dX12_dredger_48 (by decide) ?_
      refine rs_call (As := [.int (nI (1)), .int (nI (2))]) kv_X12_69 dX12_dredger_49 hr rfl rfl (by decide) (Nat.le_of_ble_eq_true rfl) rfl (by decide) (Nat.le_of_ble_eq_true rfl) (r_thr1 hr (va_up (s.1) 0 (nI (0)), s.2.1, s.2.2) 2) ?_
      refine jn_if_eq (x := 1) (tgt := 57) dX12_dredger_52 (by decide) (by omega) (fun q9 => absurd q9 (by decide)) (fun _ => ?_)
      refine jn_iconst (k := 0) dX12_dredger_55 (by decide) ?_
      exact jg_ireturn dX12_dredger_56 rfl ⟨by simp only [o_r_dredger, if_pos c_1, if_pos c_2], by simp only [o_r_dredger, if_pos c_1, if_pos c_2]⟩
  · skip
    refine rs_callS (As := [.int (v), .int (nI (1)), .int (nI (500))]) ks_X12_49 dX12_dredger_11 rfl (by decide) (Nat.le_of_ble_eq_true rfl) rfl (by decide) (Nat.le_of_ble_eq_true rfl) (r_in_f (v) (nI (1)) (nI (500)) c_1) ?_
    refine jn_if_ne (x := 0) (tgt := 21) dX12_dredger_14 (by decide) (by omega) (fun q9 => absurd q9 (by decide)) (fun _ => ?_)
    refine jn_iconst (k := 1) dX12_dredger_17 (by decide) ?_
    refine jg_goto (tgt := 22) dX12_dredger_18 (by decide) ?_
    refine jn_iconst (k := 1) dX12_dredger_22 (by decide) ?_
    refine rs_call (As := [.int (nI (1)), .int (nI (1))]) kv_X12_69 dX12_dredger_23 hr rfl rfl (by decide) (Nat.le_of_ble_eq_true rfl) rfl (by decide) (Nat.le_of_ble_eq_true rfl) (r_thr1 hr (va_up (s.1) 0 (nI (0)), s.2.1, s.2.2) 1) ?_
    refine jn_if_ne (x := 1) (tgt := 55) dX12_dredger_26 (by decide) (by omega) (fun _ => ?_) (fun q9 => absurd q9 (by decide))
    refine jn_iconst (k := 0) dX12_dredger_55 (by decide) ?_
    exact jg_ireturn dX12_dredger_56 rfl ⟨by simp only [o_r_dredger, if_neg c_1], by simp only [o_r_dredger, if_neg c_1]⟩
theorem dX12_run_0 : decode cX12_run 0 = .ok (.aload_n 0, 1) := by decide +kernel
theorem dX12_run_1 : decode cX12_run 1 = .ok (.iconst 0, 1) := by decide +kernel
theorem dX12_run_2 : decode cX12_run 2 = .ok (.putfield 3, 3) := by decide +kernel
theorem dX12_run_5 : decode cX12_run 5 = .ok (.aload_n 0, 1) := by decide +kernel
theorem dX12_run_6 : decode cX12_run 6 = .ok (.iload_n 1, 1) := by decide +kernel
theorem dX12_run_7 : decode cX12_run 7 = .ok (.aload_n 0, 1) := by decide +kernel
theorem dX12_run_8 : decode cX12_run 8 = .ok (.invokevirtual 77, 3) := by decide +kernel
theorem dX12_run_11 : decode cX12_run 11 = .ok (.sipush 1250, 3) := by decide +kernel
theorem dX12_run_14 : decode cX12_run 14 = .ok (.invokestatic 49, 3) := by decide +kernel
theorem dX12_run_17 : decode cX12_run 17 = .ok (.ifCond .eq 14, 3) := by decide +kernel
theorem dX12_run_20 : decode cX12_run 20 = .ok (.iload_n 2, 1) := by decide +kernel
theorem dX12_run_21 : decode cX12_run 21 = .ok (.iconst 0, 1) := by decide +kernel
theorem dX12_run_22 : decode cX12_run 22 = .ok (.sipush 2000, 3) := by decide +kernel
theorem dX12_run_25 : decode cX12_run 25 = .ok (.invokestatic 49, 3) := by decide +kernel
theorem dX12_run_28 : decode cX12_run 28 = .ok (.ifCond .ne 7, 3) := by decide +kernel
theorem dX12_run_31 : decode cX12_run 31 = .ok (.iconst 1, 1) := by decide +kernel
theorem dX12_run_32 : decode cX12_run 32 = .ok (.goto 4, 3) := by decide +kernel
theorem dX12_run_35 : decode cX12_run 35 = .ok (.iconst 0, 1) := by decide +kernel
theorem dX12_run_36 : decode cX12_run 36 = .ok (.iconst 1, 1) := by decide +kernel
theorem dX12_run_37 : decode cX12_run 37 = .ok (.invokevirtual 69, 3) := by decide +kernel
theorem dX12_run_40 : decode cX12_run 40 = .ok (.ifCond .eq 5, 3) := by decide +kernel
theorem dX12_run_43 : decode cX12_run 43 = .ok (.iconst 0, 1) := by decide +kernel
theorem dX12_run_44 : decode cX12_run 44 = .ok (.ireturn, 1) := by decide +kernel
theorem dX12_run_45 : decode cX12_run 45 = .ok (.aload_n 0, 1) := by decide +kernel
theorem dX12_run_46 : decode cX12_run 46 = .ok (.getfield 13, 3) := by decide +kernel
theorem dX12_run_49 : decode cX12_run 49 = .ok (.bipush 98, 2) := by decide +kernel
theorem dX12_run_51 : decode cX12_run 51 = .ok (.iaload, 1) := by decide +kernel
theorem dX12_run_52 : decode cX12_run 52 = .ok (.istore_n 3, 1) := by decide +kernel
theorem dX12_run_53 : decode cX12_run 53 = .ok (.iload_n 3, 1) := by decide +kernel
theorem dX12_run_54 : decode cX12_run 54 = .ok (.bipush 40, 2) := by decide +kernel
theorem dX12_run_56 : decode cX12_run 56 = .ok (.if_icmp .ne 5, 3) := by decide +kernel
theorem dX12_run_59 : decode cX12_run 59 = .ok (.iconst (-1), 1) := by decide +kernel
theorem dX12_run_60 : decode cX12_run 60 = .ok (.ireturn, 1) := by decide +kernel
theorem dX12_run_61 : decode cX12_run 61 = .ok (.aload_n 0, 1) := by decide +kernel
theorem dX12_run_62 : decode cX12_run 62 = .ok (.getfield 13, 3) := by decide +kernel
theorem dX12_run_65 : decode cX12_run 65 = .ok (.bipush 99, 2) := by decide +kernel
theorem dX12_run_67 : decode cX12_run 67 = .ok (.iconst 2, 1) := by decide +kernel
theorem dX12_run_68 : decode cX12_run 68 = .ok (.iload_n 3, 1) := by decide +kernel
theorem dX12_run_69 : decode cX12_run 69 = .ok (.imul, 1) := by decide +kernel
theorem dX12_run_70 : decode cX12_run 70 = .ok (.iadd, 1) := by decide +kernel
theorem dX12_run_71 : decode cX12_run 71 = .ok (.iload_n 1, 1) := by decide +kernel
theorem dX12_run_72 : decode cX12_run 72 = .ok (.iastore, 1) := by decide +kernel
theorem dX12_run_73 : decode cX12_run 73 = .ok (.aload_n 0, 1) := by decide +kernel
theorem dX12_run_74 : decode cX12_run 74 = .ok (.getfield 13, 3) := by decide +kernel
theorem dX12_run_77 : decode cX12_run 77 = .ok (.bipush 99, 2) := by decide +kernel
theorem dX12_run_79 : decode cX12_run 79 = .ok (.iconst 2, 1) := by decide +kernel
theorem dX12_run_80 : decode cX12_run 80 = .ok (.iload_n 3, 1) := by decide +kernel
theorem dX12_run_81 : decode cX12_run 81 = .ok (.imul, 1) := by decide +kernel
theorem dX12_run_82 : decode cX12_run 82 = .ok (.iadd, 1) := by decide +kernel
theorem dX12_run_83 : decode cX12_run 83 = .ok (.iconst 1, 1) := by decide +kernel
theorem dX12_run_84 : decode cX12_run 84 = .ok (.iadd, 1) := by decide +kernel
theorem dX12_run_85 : decode cX12_run 85 = .ok (.iload_n 2, 1) := by decide +kernel
theorem dX12_run_86 : decode cX12_run 86 = .ok (.iastore, 1) := by decide +kernel
theorem dX12_run_87 : decode cX12_run 87 = .ok (.aload_n 0, 1) := by decide +kernel
theorem dX12_run_88 : decode cX12_run 88 = .ok (.getfield 13, 3) := by decide +kernel
theorem dX12_run_91 : decode cX12_run 91 = .ok (.bipush 98, 2) := by decide +kernel
theorem dX12_run_93 : decode cX12_run 93 = .ok (.dup2, 1) := by decide +kernel
theorem dX12_run_94 : decode cX12_run 94 = .ok (.iaload, 1) := by decide +kernel
theorem dX12_run_95 : decode cX12_run 95 = .ok (.iconst 1, 1) := by decide +kernel
theorem dX12_run_96 : decode cX12_run 96 = .ok (.iadd, 1) := by decide +kernel
theorem dX12_run_97 : decode cX12_run 97 = .ok (.iastore, 1) := by decide +kernel
theorem dX12_run_98 : decode cX12_run 98 = .ok (.iload_n 3, 1) := by decide +kernel
theorem dX12_run_99 : decode cX12_run 99 = .ok (.iconst 1, 1) := by decide +kernel
theorem dX12_run_100 : decode cX12_run 100 = .ok (.iadd, 1) := by decide +kernel
theorem dX12_run_101 : decode cX12_run 101 = .ok (.ireturn, 1) := by decide +kernel
def o_r_run (s : rs_S) (p v : Int32) : Option Value × rs_S := (if (nI ((wn s.2.1 0) / 24)) ≤ (p) ∧ (p) ≤ (nI (1250)) then (if (nI (0)) ≤ (v) ∧ (v) ≤ (nI (2000)) then (if wn s.2.1 98 = 40 then (some (.int (-1)), (va_up (s.1) 0 (nI (0)), s.2.1, s.2.2)) else (some (.int (nI (wn s.2.1 98 + 1))), (va_up (s.1) 0 (nI (0)), upd (upd (upd (s.2.1) (99 + (2) * (wn s.2.1 98)) (p)) (99 + (2) * (wn s.2.1 98) + 1) (v)) (98) (nI (wn s.2.1 98 + 1)), s.2.2))) else (some (.int (nI (0))), (va_up (va_up (s.1) 0 (nI (0))) 0 (nI 1), s.2.1, s.2.2))) else (some (.int (nI (0))), (va_up (va_up (s.1) 0 (nI (0))) 0 (nI 1), s.2.1, s.2.2)))
set_option maxHeartbeats 2000000 in
theorem r_run {Γ : jg_G} {g : Nat → jg_C} {n r : Nat} (hr : r + 11 ≤ n) (s : rs_S) (p v : Int32) (hh : wb s.2.1 0 30000) (hc : wb s.2.1 98 40) : jc Γ mX12_run 2 0 0 [some (.ref (r)), some (.int (p)), some (.int (v)), none] (rs_h g r s, n) (.inl (o_r_run s p v).1) (rs_h g r (o_r_run s p v).2, n) := by
  refine jc_of ?_
  have hh_2 := hh.2
  have hc_2 := hc.2
  refine jg_aload_n dX12_run_0 rfl ?_
  refine jn_iconst (k := 0) dX12_run_1 (by decide) ?_
  refine rs_put (x := (nI (0))) (i' := va_up (s.1) 0 (nI (0))) fl_X12_3 dX12_run_2 hr (by decide) (rfl) rfl rfl ?_
  refine jg_aload_n dX12_run_5 rfl ?_
  refine jg_iload_n dX12_run_6 rfl ?_
  refine jg_aload_n dX12_run_7 rfl ?_
  refine rs_call (As := []) kv_X12_77 dX12_run_8 hr rfl rfl (by decide) (Nat.le_of_ble_eq_true rfl) rfl (by decide) (Nat.le_of_ble_eq_true rfl) (r_today hr (va_up (s.1) 0 (nI (0)), s.2.1, s.2.2) (wn s.2.1 0) (by first | exact hh.1 | (simp only [upd]; (repeat rw [if_neg (by omega)]); exact hh.1)) (by omega)) ?_
  refine jn_sipush (k := 1250) dX12_run_11 (by decide) ?_
  by_cases c_1 : (nI ((wn s.2.1 0) / 24)) ≤ (p) ∧ (p) ≤ (nI (1250))
  · skip
    refine rs_callS (As := [.int (p), .int (nI ((wn s.2.1 0) / 24)), .int (nI (1250))]) ks_X12_49 dX12_run_14 rfl (by decide) (Nat.le_of_ble_eq_true rfl) rfl (by decide) (Nat.le_of_ble_eq_true rfl) (r_in_t (p) (nI ((wn s.2.1 0) / 24)) (nI (1250)) c_1) ?_
    refine jn_if_eq (x := 1) (tgt := 31) dX12_run_17 (by decide) (by omega) (fun q9 => absurd q9 (by decide)) (fun _ => ?_)
    refine jg_iload_n dX12_run_20 rfl ?_
    refine jn_iconst (k := 0) dX12_run_21 (by decide) ?_
    refine jn_sipush (k := 2000) dX12_run_22 (by decide) ?_
    by_cases c_2 : (nI (0)) ≤ (v) ∧ (v) ≤ (nI (2000))
    · skip
      refine rs_callS (As := [.int (v), .int (nI (0)), .int (nI (2000))]) ks_X12_49 dX12_run_25 rfl (by decide) (Nat.le_of_ble_eq_true rfl) rfl (by decide) (Nat.le_of_ble_eq_true rfl) (r_in_t (v) (nI (0)) (nI (2000)) c_2) ?_
      refine jn_if_ne (x := 1) (tgt := 35) dX12_run_28 (by decide) (by omega) (fun _ => ?_) (fun q9 => absurd q9 (by decide))
      refine jn_iconst (k := 0) dX12_run_35 (by decide) ?_
      refine jn_iconst (k := 1) dX12_run_36 (by decide) ?_
      refine rs_call (As := [.int (nI (0)), .int (nI (1))]) kv_X12_69 dX12_run_37 hr rfl rfl (by decide) (Nat.le_of_ble_eq_true rfl) rfl (by decide) (Nat.le_of_ble_eq_true rfl) (r_thr0 hr (va_up (s.1) 0 (nI (0)), s.2.1, s.2.2) 1) ?_
      refine jn_if_eq (x := 0) (tgt := 45) dX12_run_40 (by decide) (by omega) (fun _ => ?_) (fun q9 => absurd q9 (by decide))
      refine jg_aload_n dX12_run_45 rfl ?_
      refine rs_ga fl_X12_13 dX12_run_46 hr rfl ?_
      refine jn_bipush (k := 98) dX12_run_49 (by decide) ?_
      refine rs_lwN (i := 98) (x := (nI (wn s.2.1 98))) (hc.1) dX12_run_51 hr (by omega) ?_
      refine jg_istore_n (L' := [some (.ref (r)), some (.int (p)), some (.int (v)), some (.int (nI (wn s.2.1 98)))]) dX12_run_52 (by decide) rfl ?_
      refine jg_iload_n dX12_run_53 rfl ?_
      refine jn_bipush (k := 40) dX12_run_54 (by decide) ?_
      refine jn_icmp_ne (x := wn s.2.1 98) (y := 40) (tgt := 61) dX12_run_56 (by decide) (by omega) (by omega) (fun c_3 => ?_) (fun c_3 => ?_)
      · skip
        refine jg_aload_n dX12_run_61 rfl ?_
        refine rs_ga fl_X12_13 dX12_run_62 hr rfl ?_
        refine jn_bipush (k := 99) dX12_run_65 (by decide) ?_
        refine jn_iconst (k := 2) dX12_run_67 (by decide) ?_
        refine jg_iload_n dX12_run_68 rfl ?_
        refine jn_imul (x := 2) (y := wn s.2.1 98) dX12_run_69  ?_
        refine jn_iadd (x := 99) (y := (2) * (wn s.2.1 98)) dX12_run_70  ?_
        refine jg_iload_n dX12_run_71 rfl ?_
        refine rs_sw (i := 99 + (2) * (wn s.2.1 98)) (x := (p)) dX12_run_72 hr (by omega) ?_
        refine jg_aload_n dX12_run_73 rfl ?_
        refine rs_ga fl_X12_13 dX12_run_74 hr rfl ?_
        refine jn_bipush (k := 99) dX12_run_77 (by decide) ?_
        refine jn_iconst (k := 2) dX12_run_79 (by decide) ?_
        refine jg_iload_n dX12_run_80 rfl ?_
        refine jn_imul (x := 2) (y := wn s.2.1 98) dX12_run_81  ?_
        refine jn_iadd (x := 99) (y := (2) * (wn s.2.1 98)) dX12_run_82  ?_
        refine jn_iconst (k := 1) dX12_run_83 (by decide) ?_
        refine jn_iadd (x := 99 + (2) * (wn s.2.1 98)) (y := 1) dX12_run_84  ?_
        refine jg_iload_n dX12_run_85 rfl ?_
        refine rs_sw (i := 99 + (2) * (wn s.2.1 98) + 1) (x := (v)) dX12_run_86 hr (by omega) ?_
        refine jg_aload_n dX12_run_87 rfl ?_
        refine rs_ga fl_X12_13 dX12_run_88 hr rfl ?_
        refine jn_bipush (k := 98) dX12_run_91 (by decide) ?_
        refine jg_dup2 dX12_run_93 rfl rfl ?_
        refine rs_lwN (i := 98) (x := (nI (wn s.2.1 98))) (by simp only [upd]; (repeat rw [if_neg (by omega)]); exact hc.1) dX12_run_94 hr (by omega) ?_
        refine jn_iconst (k := 1) dX12_run_95 (by decide) ?_
        refine jn_iadd (x := wn s.2.1 98) (y := 1) dX12_run_96  ?_
        refine rs_sw (i := 98) (x := (nI (wn s.2.1 98 + 1))) dX12_run_97 hr (by omega) ?_
        refine jg_iload_n dX12_run_98 rfl ?_
        refine jn_iconst (k := 1) dX12_run_99 (by decide) ?_
        refine jn_iadd (x := wn s.2.1 98) (y := 1) dX12_run_100  ?_
        exact jg_ireturn dX12_run_101 rfl ⟨by simp only [o_r_run, if_pos c_1, if_pos c_2, if_neg c_3], by simp only [o_r_run, if_pos c_1, if_pos c_2, if_neg c_3]⟩
      · skip
        refine jg_iconst (v := -1) dX12_run_59 (by decide) ?_
        exact jg_ireturn dX12_run_60 rfl ⟨by simp only [o_r_run, if_pos c_1, if_pos c_2, if_pos c_3], by simp only [o_r_run, if_pos c_1, if_pos c_2, if_pos c_3]⟩
    · skip
      refine rs_callS (As := [.int (v), .int (nI (0)), .int (nI (2000))]) ks_X12_49 dX12_run_25 rfl (by decide) (Nat.le_of_ble_eq_true rfl) rfl (by decide) (Nat.le_of_ble_eq_true rfl) (r_in_f (v) (nI (0)) (nI (2000)) c_2) ?_
      refine jn_if_ne (x := 0) (tgt := 35) dX12_run_28 (by decide) (by omega) (fun q9 => absurd q9 (by decide)) (fun _ => ?_)
      refine jn_iconst (k := 1) dX12_run_31 (by decide) ?_
      refine jg_goto (tgt := 36) dX12_run_32 (by decide) ?_
      refine jn_iconst (k := 1) dX12_run_36 (by decide) ?_
      refine rs_call (As := [.int (nI (1)), .int (nI (1))]) kv_X12_69 dX12_run_37 hr rfl rfl (by decide) (Nat.le_of_ble_eq_true rfl) rfl (by decide) (Nat.le_of_ble_eq_true rfl) (r_thr1 hr (va_up (s.1) 0 (nI (0)), s.2.1, s.2.2) 1) ?_
      refine jn_if_eq (x := 1) (tgt := 45) dX12_run_40 (by decide) (by omega) (fun q9 => absurd q9 (by decide)) (fun _ => ?_)
      refine jn_iconst (k := 0) dX12_run_43 (by decide) ?_
      exact jg_ireturn dX12_run_44 rfl ⟨by simp only [o_r_run, if_pos c_1, if_neg c_2], by simp only [o_r_run, if_pos c_1, if_neg c_2]⟩
  · skip
    refine rs_callS (As := [.int (p), .int (nI ((wn s.2.1 0) / 24)), .int (nI (1250))]) ks_X12_49 dX12_run_14 rfl (by decide) (Nat.le_of_ble_eq_true rfl) rfl (by decide) (Nat.le_of_ble_eq_true rfl) (r_in_f (p) (nI ((wn s.2.1 0) / 24)) (nI (1250)) c_1) ?_
    refine jn_if_eq (x := 0) (tgt := 31) dX12_run_17 (by decide) (by omega) (fun _ => ?_) (fun q9 => absurd q9 (by decide))
    refine jn_iconst (k := 1) dX12_run_31 (by decide) ?_
    refine jg_goto (tgt := 36) dX12_run_32 (by decide) ?_
    refine jn_iconst (k := 1) dX12_run_36 (by decide) ?_
    refine rs_call (As := [.int (nI (1)), .int (nI (1))]) kv_X12_69 dX12_run_37 hr rfl rfl (by decide) (Nat.le_of_ble_eq_true rfl) rfl (by decide) (Nat.le_of_ble_eq_true rfl) (r_thr1 hr (va_up (s.1) 0 (nI (0)), s.2.1, s.2.2) 1) ?_
    refine jn_if_eq (x := 1) (tgt := 45) dX12_run_40 (by decide) (by omega) (fun q9 => absurd q9 (by decide)) (fun _ => ?_)
    refine jn_iconst (k := 0) dX12_run_43 (by decide) ?_
    exact jg_ireturn dX12_run_44 rfl ⟨by simp only [o_r_run, if_neg c_1], by simp only [o_r_run, if_neg c_1]⟩
theorem dX12_station_0 : decode cX12_station 0 = .ok (.aload_n 0, 1) := by decide +kernel
theorem dX12_station_1 : decode cX12_station 1 = .ok (.iconst 0, 1) := by decide +kernel
theorem dX12_station_2 : decode cX12_station 2 = .ok (.putfield 3, 3) := by decide +kernel
theorem dX12_station_5 : decode cX12_station 5 = .ok (.aload_n 0, 1) := by decide +kernel
theorem dX12_station_6 : decode cX12_station 6 = .ok (.iload_n 1, 1) := by decide +kernel
theorem dX12_station_7 : decode cX12_station 7 = .ok (.iconst 0, 1) := by decide +kernel
theorem dX12_station_8 : decode cX12_station 8 = .ok (.aload_n 0, 1) := by decide +kernel
theorem dX12_station_9 : decode cX12_station 9 = .ok (.getfield 13, 3) := by decide +kernel
theorem dX12_station_12 : decode cX12_station 12 = .ok (.sipush 179, 3) := by decide +kernel
theorem dX12_station_15 : decode cX12_station 15 = .ok (.iaload, 1) := by decide +kernel
theorem dX12_station_16 : decode cX12_station 16 = .ok (.iconst 1, 1) := by decide +kernel
theorem dX12_station_17 : decode cX12_station 17 = .ok (.isub, 1) := by decide +kernel
theorem dX12_station_18 : decode cX12_station 18 = .ok (.invokestatic 49, 3) := by decide +kernel
theorem dX12_station_21 : decode cX12_station 21 = .ok (.ifCond .eq 27, 3) := by decide +kernel
theorem dX12_station_24 : decode cX12_station 24 = .ok (.iload_n 2, 1) := by decide +kernel
theorem dX12_station_25 : decode cX12_station 25 = .ok (.iconst (-1), 1) := by decide +kernel
theorem dX12_station_26 : decode cX12_station 26 = .ok (.if_icmp .eq 10, 3) := by decide +kernel
theorem dX12_station_29 : decode cX12_station 29 = .ok (.iload_n 2, 1) := by decide +kernel
theorem dX12_station_30 : decode cX12_station 30 = .ok (.invokestatic 65, 3) := by decide +kernel
theorem dX12_station_33 : decode cX12_station 33 = .ok (.ifCond .ne 15, 3) := by decide +kernel
theorem dX12_station_36 : decode cX12_station 36 = .ok (.iload_n 3, 1) := by decide +kernel
theorem dX12_station_37 : decode cX12_station 37 = .ok (.iconst (-1), 1) := by decide +kernel
theorem dX12_station_38 : decode cX12_station 38 = .ok (.if_icmp .eq 14, 3) := by decide +kernel
theorem dX12_station_41 : decode cX12_station 41 = .ok (.iload_n 3, 1) := by decide +kernel
theorem dX12_station_42 : decode cX12_station 42 = .ok (.invokestatic 65, 3) := by decide +kernel
theorem dX12_station_45 : decode cX12_station 45 = .ok (.ifCond .eq 7, 3) := by decide +kernel
theorem dX12_station_48 : decode cX12_station 48 = .ok (.iconst 1, 1) := by decide +kernel
theorem dX12_station_49 : decode cX12_station 49 = .ok (.goto 4, 3) := by decide +kernel
theorem dX12_station_52 : decode cX12_station 52 = .ok (.iconst 0, 1) := by decide +kernel
theorem dX12_station_53 : decode cX12_station 53 = .ok (.iconst 1, 1) := by decide +kernel
theorem dX12_station_54 : decode cX12_station 54 = .ok (.invokevirtual 69, 3) := by decide +kernel
theorem dX12_station_57 : decode cX12_station 57 = .ok (.ifCond .eq 5, 3) := by decide +kernel
theorem dX12_station_60 : decode cX12_station 60 = .ok (.iconst 0, 1) := by decide +kernel
theorem dX12_station_61 : decode cX12_station 61 = .ok (.ireturn, 1) := by decide +kernel
theorem dX12_station_62 : decode cX12_station 62 = .ok (.sipush 180, 3) := by decide +kernel
theorem dX12_station_65 : decode cX12_station 65 = .ok (.iconst 3, 1) := by decide +kernel
theorem dX12_station_66 : decode cX12_station 66 = .ok (.iload_n 1, 1) := by decide +kernel
theorem dX12_station_67 : decode cX12_station 67 = .ok (.imul, 1) := by decide +kernel
theorem dX12_station_68 : decode cX12_station 68 = .ok (.iadd, 1) := by decide +kernel
theorem dX12_station_69 : decode cX12_station 69 = .ok (.istore 4, 2) := by decide +kernel
theorem dX12_station_71 : decode cX12_station 71 = .ok (.aload_n 0, 1) := by decide +kernel
theorem dX12_station_72 : decode cX12_station 72 = .ok (.getfield 13, 3) := by decide +kernel
theorem dX12_station_75 : decode cX12_station 75 = .ok (.iload 4, 2) := by decide +kernel
theorem dX12_station_77 : decode cX12_station 77 = .ok (.iconst 1, 1) := by decide +kernel
theorem dX12_station_78 : decode cX12_station 78 = .ok (.iadd, 1) := by decide +kernel
theorem dX12_station_79 : decode cX12_station 79 = .ok (.iaload, 1) := by decide +kernel
theorem dX12_station_80 : decode cX12_station 80 = .ok (.iload_n 2, 1) := by decide +kernel
theorem dX12_station_81 : decode cX12_station 81 = .ok (.if_icmp .ne 16, 3) := by decide +kernel
theorem dX12_station_84 : decode cX12_station 84 = .ok (.aload_n 0, 1) := by decide +kernel
theorem dX12_station_85 : decode cX12_station 85 = .ok (.getfield 13, 3) := by decide +kernel
theorem dX12_station_88 : decode cX12_station 88 = .ok (.iload 4, 2) := by decide +kernel
theorem dX12_station_90 : decode cX12_station 90 = .ok (.iconst 2, 1) := by decide +kernel
theorem dX12_station_91 : decode cX12_station 91 = .ok (.iadd, 1) := by decide +kernel
theorem dX12_station_92 : decode cX12_station 92 = .ok (.iaload, 1) := by decide +kernel
theorem dX12_station_93 : decode cX12_station 93 = .ok (.iload_n 3, 1) := by decide +kernel
theorem dX12_station_94 : decode cX12_station 94 = .ok (.if_icmp .eq 7, 3) := by decide +kernel
theorem dX12_station_97 : decode cX12_station 97 = .ok (.iconst 1, 1) := by decide +kernel
theorem dX12_station_98 : decode cX12_station 98 = .ok (.goto 4, 3) := by decide +kernel
theorem dX12_station_101 : decode cX12_station 101 = .ok (.iconst 0, 1) := by decide +kernel
theorem dX12_station_102 : decode cX12_station 102 = .ok (.istore 5, 2) := by decide +kernel
theorem dX12_station_104 : decode cX12_station 104 = .ok (.aload_n 0, 1) := by decide +kernel
theorem dX12_station_105 : decode cX12_station 105 = .ok (.getfield 13, 3) := by decide +kernel
theorem dX12_station_108 : decode cX12_station 108 = .ok (.iload 4, 2) := by decide +kernel
theorem dX12_station_110 : decode cX12_station 110 = .ok (.iconst 1, 1) := by decide +kernel
theorem dX12_station_111 : decode cX12_station 111 = .ok (.iadd, 1) := by decide +kernel
theorem dX12_station_112 : decode cX12_station 112 = .ok (.iload_n 2, 1) := by decide +kernel
theorem dX12_station_113 : decode cX12_station 113 = .ok (.iastore, 1) := by decide +kernel
theorem dX12_station_114 : decode cX12_station 114 = .ok (.aload_n 0, 1) := by decide +kernel
theorem dX12_station_115 : decode cX12_station 115 = .ok (.getfield 13, 3) := by decide +kernel
theorem dX12_station_118 : decode cX12_station 118 = .ok (.iload 4, 2) := by decide +kernel
theorem dX12_station_120 : decode cX12_station 120 = .ok (.iconst 2, 1) := by decide +kernel
theorem dX12_station_121 : decode cX12_station 121 = .ok (.iadd, 1) := by decide +kernel
theorem dX12_station_122 : decode cX12_station 122 = .ok (.iload_n 3, 1) := by decide +kernel
theorem dX12_station_123 : decode cX12_station 123 = .ok (.iastore, 1) := by decide +kernel
theorem dX12_station_124 : decode cX12_station 124 = .ok (.iload 5, 2) := by decide +kernel
theorem dX12_station_126 : decode cX12_station 126 = .ok (.ireturn, 1) := by decide +kernel
def o_r_station (s : rs_S) (p c l : Int32) : Option Value × rs_S := (if (nI (0)) ≤ (p) ∧ (p) ≤ (((nI (wn s.2.1 179)) - (nI (1)))) then (if (c) = (-1) then (if (l) = (-1) then (if ((s.2.1) (180 + (3) * (p.toNatClampNeg) + 1)) = (c) then (if ((s.2.1) (180 + (3) * (p.toNatClampNeg) + 2)) = (l) then (some (.int (nI (0))), (va_up (s.1) 0 (nI (0)), upd (upd (s.2.1) (180 + (3) * (p.toNatClampNeg) + 1) (c)) (180 + (3) * (p.toNatClampNeg) + 2) (l), s.2.2)) else (some (.int (nI (1))), (va_up (s.1) 0 (nI (0)), upd (upd (s.2.1) (180 + (3) * (p.toNatClampNeg) + 1) (c)) (180 + (3) * (p.toNatClampNeg) + 2) (l), s.2.2))) else (some (.int (nI (1))), (va_up (s.1) 0 (nI (0)), upd (upd (s.2.1) (180 + (3) * (p.toNatClampNeg) + 1) (c)) (180 + (3) * (p.toNatClampNeg) + 2) (l), s.2.2))) else (if nI 0 ≤ (l) ∧ (l) ≤ nI 23 then (if ((s.2.1) (180 + (3) * (p.toNatClampNeg) + 1)) = (c) then (if ((s.2.1) (180 + (3) * (p.toNatClampNeg) + 2)) = (l) then (some (.int (nI (0))), (va_up (s.1) 0 (nI (0)), upd (upd (s.2.1) (180 + (3) * (p.toNatClampNeg) + 1) (c)) (180 + (3) * (p.toNatClampNeg) + 2) (l), s.2.2)) else (some (.int (nI (1))), (va_up (s.1) 0 (nI (0)), upd (upd (s.2.1) (180 + (3) * (p.toNatClampNeg) + 1) (c)) (180 + (3) * (p.toNatClampNeg) + 2) (l), s.2.2))) else (some (.int (nI (1))), (va_up (s.1) 0 (nI (0)), upd (upd (s.2.1) (180 + (3) * (p.toNatClampNeg) + 1) (c)) (180 + (3) * (p.toNatClampNeg) + 2) (l), s.2.2))) else (some (.int (nI (0))), (va_up (va_up (s.1) 0 (nI (0))) 0 (nI 1), s.2.1, s.2.2)))) else (if nI 0 ≤ (c) ∧ (c) ≤ nI 23 then (if (l) = (-1) then (if ((s.2.1) (180 + (3) * (p.toNatClampNeg) + 1)) = (c) then (if ((s.2.1) (180 + (3) * (p.toNatClampNeg) + 2)) = (l) then (some (.int (nI (0))), (va_up (s.1) 0 (nI (0)), upd (upd (s.2.1) (180 + (3) * (p.toNatClampNeg) + 1) (c)) (180 + (3) * (p.toNatClampNeg) + 2) (l), s.2.2)) else (some (.int (nI (1))), (va_up (s.1) 0 (nI (0)), upd (upd (s.2.1) (180 + (3) * (p.toNatClampNeg) + 1) (c)) (180 + (3) * (p.toNatClampNeg) + 2) (l), s.2.2))) else (some (.int (nI (1))), (va_up (s.1) 0 (nI (0)), upd (upd (s.2.1) (180 + (3) * (p.toNatClampNeg) + 1) (c)) (180 + (3) * (p.toNatClampNeg) + 2) (l), s.2.2))) else (if nI 0 ≤ (l) ∧ (l) ≤ nI 23 then (if ((s.2.1) (180 + (3) * (p.toNatClampNeg) + 1)) = (c) then (if ((s.2.1) (180 + (3) * (p.toNatClampNeg) + 2)) = (l) then (some (.int (nI (0))), (va_up (s.1) 0 (nI (0)), upd (upd (s.2.1) (180 + (3) * (p.toNatClampNeg) + 1) (c)) (180 + (3) * (p.toNatClampNeg) + 2) (l), s.2.2)) else (some (.int (nI (1))), (va_up (s.1) 0 (nI (0)), upd (upd (s.2.1) (180 + (3) * (p.toNatClampNeg) + 1) (c)) (180 + (3) * (p.toNatClampNeg) + 2) (l), s.2.2))) else (some (.int (nI (1))), (va_up (s.1) 0 (nI (0)), upd (upd (s.2.1) (180 + (3) * (p.toNatClampNeg) + 1) (c)) (180 + (3) * (p.toNatClampNeg) + 2) (l), s.2.2))) else (some (.int (nI (0))), (va_up (va_up (s.1) 0 (nI (0))) 0 (nI 1), s.2.1, s.2.2)))) else (some (.int (nI (0))), (va_up (va_up (s.1) 0 (nI (0))) 0 (nI 1), s.2.1, s.2.2)))) else (some (.int (nI (0))), (va_up (va_up (s.1) 0 (nI (0))) 0 (nI 1), s.2.1, s.2.2)))
set_option maxHeartbeats 2000000 in
theorem r_station {Γ : jg_G} {g : Nat → jg_C} {n r : Nat} (hr : r + 11 ≤ n) (s : rs_S) (p c l : Int32) (hc : wb s.2.1 179 6) : jc Γ mX12_station 3 0 0 [some (.ref (r)), some (.int (p)), some (.int (c)), some (.int (l)), none, none] (rs_h g r s, n) (.inl (o_r_station s p c l).1) (rs_h g r (o_r_station s p c l).2, n) := by
  refine jc_of ?_
  have hc_2 := hc.2
  refine jg_aload_n dX12_station_0 rfl ?_
  refine jn_iconst (k := 0) dX12_station_1 (by decide) ?_
  refine rs_put (x := (nI (0))) (i' := va_up (s.1) 0 (nI (0))) fl_X12_3 dX12_station_2 hr (by decide) (rfl) rfl rfl ?_
  refine jg_aload_n dX12_station_5 rfl ?_
  refine jg_iload_n dX12_station_6 rfl ?_
  refine jn_iconst (k := 0) dX12_station_7 (by decide) ?_
  refine jg_aload_n dX12_station_8 rfl ?_
  refine rs_ga fl_X12_13 dX12_station_9 hr rfl ?_
  refine jn_sipush (k := 179) dX12_station_12 (by decide) ?_
  refine rs_lwN (i := 179) (x := (nI (wn s.2.1 179))) (hc.1) dX12_station_15 hr (by omega) ?_
  refine jn_iconst (k := 1) dX12_station_16 (by decide) ?_
  refine jg_isub (x := (nI (wn s.2.1 179))) (y := (nI (1))) dX12_station_17  ?_
  by_cases c_1 : (nI (0)) ≤ (p) ∧ (p) ≤ (((nI (wn s.2.1 179)) - (nI (1))))
  · skip
    refine rs_callS (As := [.int (p), .int (nI (0)), .int (((nI (wn s.2.1 179)) - (nI (1))))]) ks_X12_49 dX12_station_18 rfl (by decide) (Nat.le_of_ble_eq_true rfl) rfl (by decide) (Nat.le_of_ble_eq_true rfl) (r_in_t (p) (nI (0)) (((nI (wn s.2.1 179)) - (nI (1)))) c_1) ?_
    refine jn_if_eq (x := 1) (tgt := 48) dX12_station_21 (by decide) (by omega) (fun q9 => absurd q9 (by decide)) (fun _ => ?_)
    refine jg_iload_n dX12_station_24 rfl ?_
    refine jg_iconst (v := -1) dX12_station_25 (by decide) ?_
    refine jg_icmp_eq (x := (c)) (y := (-1)) (tgt := 36) dX12_station_26 (by decide) (fun c_2 => ?_) (fun c_2 => ?_)
    · skip
      refine jg_iload_n dX12_station_36 rfl ?_
      refine jg_iconst (v := -1) dX12_station_37 (by decide) ?_
      refine jg_icmp_eq (x := (l)) (y := (-1)) (tgt := 52) dX12_station_38 (by decide) (fun c_3 => ?_) (fun c_3 => ?_)
      · skip
        refine jn_iconst (k := 0) dX12_station_52 (by decide) ?_
        refine jn_iconst (k := 1) dX12_station_53 (by decide) ?_
        refine rs_call (As := [.int (nI (0)), .int (nI (1))]) kv_X12_69 dX12_station_54 hr rfl rfl (by decide) (Nat.le_of_ble_eq_true rfl) rfl (by decide) (Nat.le_of_ble_eq_true rfl) (r_thr0 hr (va_up (s.1) 0 (nI (0)), s.2.1, s.2.2) 1) ?_
        refine jn_if_eq (x := 0) (tgt := 62) dX12_station_57 (by decide) (by omega) (fun _ => ?_) (fun q9 => absurd q9 (by decide))
        obtain ⟨k_p, hk_p, rfl⟩ := in_natL c_1.1 c_1.2 hc.1 hc.2
        refine jn_sipush (k := 180) dX12_station_62 (by decide) ?_
        refine jn_iconst (k := 3) dX12_station_65 (by decide) ?_
        refine jg_iload_n dX12_station_66 rfl ?_
        refine jn_imul (x := 3) (y := k_p) dX12_station_67  ?_
        refine jn_iadd (x := 180) (y := (3) * (k_p)) dX12_station_68  ?_
        refine jg_istore (L' := [some (.ref (r)), some (.int (nI (k_p))), some (.int (c)), some (.int (l)), some (.int (nI (180 + (3) * (k_p)))), none]) dX12_station_69 (by decide) rfl ?_
        refine jg_aload_n dX12_station_71 rfl ?_
        refine rs_ga fl_X12_13 dX12_station_72 hr rfl ?_
        refine jg_iload dX12_station_75 rfl ?_
        refine jn_iconst (k := 1) dX12_station_77 (by decide) ?_
        refine jn_iadd (x := 180 + (3) * (k_p)) (y := 1) dX12_station_78  ?_
        refine rs_lw (i := 180 + (3) * (k_p) + 1) dX12_station_79 hr (by omega) ?_
        refine jg_iload_n dX12_station_80 rfl ?_
        refine jg_icmp_ne (x := ((s.2.1) (180 + (3) * (k_p) + 1))) (y := (c)) (tgt := 97) dX12_station_81 (by decide) (fun c_4 => ?_) (fun c_4 => ?_)
        · skip
          refine jn_iconst (k := 1) dX12_station_97 (by decide) ?_
          refine jg_goto (tgt := 102) dX12_station_98 (by decide) ?_
          refine jg_istore (L' := [some (.ref (r)), some (.int (nI (k_p))), some (.int (c)), some (.int (l)), some (.int (nI (180 + (3) * (k_p)))), some (.int (nI (1)))]) dX12_station_102 (by decide) rfl ?_
          refine jg_aload_n dX12_station_104 rfl ?_
          refine rs_ga fl_X12_13 dX12_station_105 hr rfl ?_
          refine jg_iload dX12_station_108 rfl ?_
          refine jn_iconst (k := 1) dX12_station_110 (by decide) ?_
          refine jn_iadd (x := 180 + (3) * (k_p)) (y := 1) dX12_station_111  ?_
          refine jg_iload_n dX12_station_112 rfl ?_
          refine rs_sw (i := 180 + (3) * (k_p) + 1) (x := (c)) dX12_station_113 hr (by omega) ?_
          refine jg_aload_n dX12_station_114 rfl ?_
          refine rs_ga fl_X12_13 dX12_station_115 hr rfl ?_
          refine jg_iload dX12_station_118 rfl ?_
          refine jn_iconst (k := 2) dX12_station_120 (by decide) ?_
          refine jn_iadd (x := 180 + (3) * (k_p)) (y := 2) dX12_station_121  ?_
          refine jg_iload_n dX12_station_122 rfl ?_
          refine rs_sw (i := 180 + (3) * (k_p) + 2) (x := (l)) dX12_station_123 hr (by omega) ?_
          refine jg_iload dX12_station_124 rfl ?_
          exact jg_zreturn dX12_station_126 rfl (rfl) ⟨by simp only [o_r_station, if_pos c_1, if_pos c_2, if_pos c_3, if_neg c_4, nI_clamp (show k_p < 2 ^ 31 by omega)], by simp only [o_r_station, if_pos c_1, if_pos c_2, if_pos c_3, if_neg c_4, nI_clamp (show k_p < 2 ^ 31 by omega)]⟩
        · skip
          refine jg_aload_n dX12_station_84 rfl ?_
          refine rs_ga fl_X12_13 dX12_station_85 hr rfl ?_
          refine jg_iload dX12_station_88 rfl ?_
          refine jn_iconst (k := 2) dX12_station_90 (by decide) ?_
          refine jn_iadd (x := 180 + (3) * (k_p)) (y := 2) dX12_station_91  ?_
          refine rs_lw (i := 180 + (3) * (k_p) + 2) dX12_station_92 hr (by omega) ?_
          refine jg_iload_n dX12_station_93 rfl ?_
          refine jg_icmp_eq (x := ((s.2.1) (180 + (3) * (k_p) + 2))) (y := (l)) (tgt := 101) dX12_station_94 (by decide) (fun c_5 => ?_) (fun c_5 => ?_)
          · skip
            refine jn_iconst (k := 0) dX12_station_101 (by decide) ?_
            refine jg_istore (L' := [some (.ref (r)), some (.int (nI (k_p))), some (.int (c)), some (.int (l)), some (.int (nI (180 + (3) * (k_p)))), some (.int (nI (0)))]) dX12_station_102 (by decide) rfl ?_
            refine jg_aload_n dX12_station_104 rfl ?_
            refine rs_ga fl_X12_13 dX12_station_105 hr rfl ?_
            refine jg_iload dX12_station_108 rfl ?_
            refine jn_iconst (k := 1) dX12_station_110 (by decide) ?_
            refine jn_iadd (x := 180 + (3) * (k_p)) (y := 1) dX12_station_111  ?_
            refine jg_iload_n dX12_station_112 rfl ?_
            refine rs_sw (i := 180 + (3) * (k_p) + 1) (x := (c)) dX12_station_113 hr (by omega) ?_
            refine jg_aload_n dX12_station_114 rfl ?_
            refine rs_ga fl_X12_13 dX12_station_115 hr rfl ?_
            refine jg_iload dX12_station_118 rfl ?_
            refine jn_iconst (k := 2) dX12_station_120 (by decide) ?_
            refine jn_iadd (x := 180 + (3) * (k_p)) (y := 2) dX12_station_121  ?_
            refine jg_iload_n dX12_station_122 rfl ?_
            refine rs_sw (i := 180 + (3) * (k_p) + 2) (x := (l)) dX12_station_123 hr (by omega) ?_
            refine jg_iload dX12_station_124 rfl ?_
            exact jg_zreturn dX12_station_126 rfl (rfl) ⟨by simp only [o_r_station, if_pos c_1, if_pos c_2, if_pos c_3, if_pos c_4, if_pos c_5, nI_clamp (show k_p < 2 ^ 31 by omega)], by simp only [o_r_station, if_pos c_1, if_pos c_2, if_pos c_3, if_pos c_4, if_pos c_5, nI_clamp (show k_p < 2 ^ 31 by omega)]⟩
          · skip
            refine jn_iconst (k := 1) dX12_station_97 (by decide) ?_
            refine jg_goto (tgt := 102) dX12_station_98 (by decide) ?_
            refine jg_istore (L' := [some (.ref (r)), some (.int (nI (k_p))), some (.int (c)), some (.int (l)), some (.int (nI (180 + (3) * (k_p)))), some (.int (nI (1)))]) dX12_station_102 (by decide) rfl ?_
            refine jg_aload_n dX12_station_104 rfl ?_
            refine rs_ga fl_X12_13 dX12_station_105 hr rfl ?_
            refine jg_iload dX12_station_108 rfl ?_
            refine jn_iconst (k := 1) dX12_station_110 (by decide) ?_
            refine jn_iadd (x := 180 + (3) * (k_p)) (y := 1) dX12_station_111  ?_
            refine jg_iload_n dX12_station_112 rfl ?_
            refine rs_sw (i := 180 + (3) * (k_p) + 1) (x := (c)) dX12_station_113 hr (by omega) ?_
            refine jg_aload_n dX12_station_114 rfl ?_
            refine rs_ga fl_X12_13 dX12_station_115 hr rfl ?_
            refine jg_iload dX12_station_118 rfl ?_
            refine jn_iconst (k := 2) dX12_station_120 (by decide) ?_
            refine jn_iadd (x := 180 + (3) * (k_p)) (y := 2) dX12_station_121  ?_
            refine jg_iload_n dX12_station_122 rfl ?_
            refine rs_sw (i := 180 + (3) * (k_p) + 2) (x := (l)) dX12_station_123 hr (by omega) ?_
            refine jg_iload dX12_station_124 rfl ?_
            exact jg_zreturn dX12_station_126 rfl (rfl) ⟨by simp only [o_r_station, if_pos c_1, if_pos c_2, if_pos c_3, if_pos c_4, if_neg c_5, nI_clamp (show k_p < 2 ^ 31 by omega)], by simp only [o_r_station, if_pos c_1, if_pos c_2, if_pos c_3, if_pos c_4, if_neg c_5, nI_clamp (show k_p < 2 ^ 31 by omega)]⟩
      · skip
        refine jg_iload_n dX12_station_41 rfl ?_
        by_cases c_6 : nI 0 ≤ (l) ∧ (l) ≤ nI 23
        · skip
          refine rs_callS (As := [.int (l)]) ks_X12_65 dX12_station_42 rfl (by decide) (Nat.le_of_ble_eq_true rfl) rfl (by decide) (Nat.le_of_ble_eq_true rfl) (r_noCell_f (l) c_6) ?_
          refine jn_if_eq (x := 0) (tgt := 52) dX12_station_45 (by decide) (by omega) (fun _ => ?_) (fun q9 => absurd q9 (by decide))
          refine jn_iconst (k := 0) dX12_station_52 (by decide) ?_
          refine jn_iconst (k := 1) dX12_station_53 (by decide) ?_
          refine rs_call (As := [.int (nI (0)), .int (nI (1))]) kv_X12_69 dX12_station_54 hr rfl rfl (by decide) (Nat.le_of_ble_eq_true rfl) rfl (by decide) (Nat.le_of_ble_eq_true rfl) (r_thr0 hr (va_up (s.1) 0 (nI (0)), s.2.1, s.2.2) 1) ?_
          refine jn_if_eq (x := 0) (tgt := 62) dX12_station_57 (by decide) (by omega) (fun _ => ?_) (fun q9 => absurd q9 (by decide))
          obtain ⟨k_p, hk_p, rfl⟩ := in_natL c_1.1 c_1.2 hc.1 hc.2
          refine jn_sipush (k := 180) dX12_station_62 (by decide) ?_
          refine jn_iconst (k := 3) dX12_station_65 (by decide) ?_
          refine jg_iload_n dX12_station_66 rfl ?_
          refine jn_imul (x := 3) (y := k_p) dX12_station_67  ?_
          refine jn_iadd (x := 180) (y := (3) * (k_p)) dX12_station_68  ?_
          refine jg_istore (L' := [some (.ref (r)), some (.int (nI (k_p))), some (.int (c)), some (.int (l)), some (.int (nI (180 + (3) * (k_p)))), none]) dX12_station_69 (by decide) rfl ?_
          refine jg_aload_n dX12_station_71 rfl ?_
          refine rs_ga fl_X12_13 dX12_station_72 hr rfl ?_
          refine jg_iload dX12_station_75 rfl ?_
          refine jn_iconst (k := 1) dX12_station_77 (by decide) ?_
          refine jn_iadd (x := 180 + (3) * (k_p)) (y := 1) dX12_station_78  ?_
          refine rs_lw (i := 180 + (3) * (k_p) + 1) dX12_station_79 hr (by omega) ?_
          refine jg_iload_n dX12_station_80 rfl ?_
          refine jg_icmp_ne (x := ((s.2.1) (180 + (3) * (k_p) + 1))) (y := (c)) (tgt := 97) dX12_station_81 (by decide) (fun c_7 => ?_) (fun c_7 => ?_)
          · skip
            refine jn_iconst (k := 1) dX12_station_97 (by decide) ?_
            refine jg_goto (tgt := 102) dX12_station_98 (by decide) ?_
            refine jg_istore (L' := [some (.ref (r)), some (.int (nI (k_p))), some (.int (c)), some (.int (l)), some (.int (nI (180 + (3) * (k_p)))), some (.int (nI (1)))]) dX12_station_102 (by decide) rfl ?_
            refine jg_aload_n dX12_station_104 rfl ?_
            refine rs_ga fl_X12_13 dX12_station_105 hr rfl ?_
            refine jg_iload dX12_station_108 rfl ?_
            refine jn_iconst (k := 1) dX12_station_110 (by decide) ?_
            refine jn_iadd (x := 180 + (3) * (k_p)) (y := 1) dX12_station_111  ?_
            refine jg_iload_n dX12_station_112 rfl ?_
            refine rs_sw (i := 180 + (3) * (k_p) + 1) (x := (c)) dX12_station_113 hr (by omega) ?_
            refine jg_aload_n dX12_station_114 rfl ?_
            refine rs_ga fl_X12_13 dX12_station_115 hr rfl ?_
            refine jg_iload dX12_station_118 rfl ?_
            refine jn_iconst (k := 2) dX12_station_120 (by decide) ?_
            refine jn_iadd (x := 180 + (3) * (k_p)) (y := 2) dX12_station_121  ?_
            refine jg_iload_n dX12_station_122 rfl ?_
            refine rs_sw (i := 180 + (3) * (k_p) + 2) (x := (l)) dX12_station_123 hr (by omega) ?_
            refine jg_iload dX12_station_124 rfl ?_
            exact jg_zreturn dX12_station_126 rfl (rfl) ⟨by simp only [o_r_station, if_pos c_1, if_pos c_2, if_neg c_3, if_pos c_6, if_neg c_7, nI_clamp (show k_p < 2 ^ 31 by omega)], by simp only [o_r_station, if_pos c_1, if_pos c_2, if_neg c_3, if_pos c_6, if_neg c_7, nI_clamp (show k_p < 2 ^ 31 by omega)]⟩
          · skip
            refine jg_aload_n dX12_station_84 rfl ?_
            refine rs_ga fl_X12_13 dX12_station_85 hr rfl ?_
            refine jg_iload dX12_station_88 rfl ?_
            refine jn_iconst (k := 2) dX12_station_90 (by decide) ?_
            refine jn_iadd (x := 180 + (3) * (k_p)) (y := 2) dX12_station_91  ?_
            refine rs_lw (i := 180 + (3) * (k_p) + 2) dX12_station_92 hr (by omega) ?_
            refine jg_iload_n dX12_station_93 rfl ?_
            refine jg_icmp_eq (x := ((s.2.1) (180 + (3) * (k_p) + 2))) (y := (l)) (tgt := 101) dX12_station_94 (by decide) (fun c_8 => ?_) (fun c_8 => ?_)
            · skip
              refine jn_iconst (k := 0) dX12_station_101 (by decide) ?_
              refine jg_istore (L' := [some (.ref (r)), some (.int (nI (k_p))), some (.int (c)), some (.int (l)), some (.int (nI (180 + (3) * (k_p)))), some (.int (nI (0)))]) dX12_station_102 (by decide) rfl ?_
              refine jg_aload_n dX12_station_104 rfl ?_
              refine rs_ga fl_X12_13 dX12_station_105 hr rfl ?_
              refine jg_iload dX12_station_108 rfl ?_
              refine jn_iconst (k := 1) dX12_station_110 (by decide) ?_
              refine jn_iadd (x := 180 + (3) * (k_p)) (y := 1) dX12_station_111  ?_
              refine jg_iload_n dX12_station_112 rfl ?_
              refine rs_sw (i := 180 + (3) * (k_p) + 1) (x := (c)) dX12_station_113 hr (by omega) ?_
              refine jg_aload_n dX12_station_114 rfl ?_
              refine rs_ga fl_X12_13 dX12_station_115 hr rfl ?_
              refine jg_iload dX12_station_118 rfl ?_
              refine jn_iconst (k := 2) dX12_station_120 (by decide) ?_
              refine jn_iadd (x := 180 + (3) * (k_p)) (y := 2) dX12_station_121  ?_
              refine jg_iload_n dX12_station_122 rfl ?_
              refine rs_sw (i := 180 + (3) * (k_p) + 2) (x := (l)) dX12_station_123 hr (by omega) ?_
              refine jg_iload dX12_station_124 rfl ?_
              exact jg_zreturn dX12_station_126 rfl (rfl) ⟨by simp only [o_r_station, if_pos c_1, if_pos c_2, if_neg c_3, if_pos c_6, if_pos c_7, if_pos c_8, nI_clamp (show k_p < 2 ^ 31 by omega)], by simp only [o_r_station, if_pos c_1, if_pos c_2, if_neg c_3, if_pos c_6, if_pos c_7, if_pos c_8, nI_clamp (show k_p < 2 ^ 31 by omega)]⟩
            · skip
              refine jn_iconst (k := 1) dX12_station_97 (by decide) ?_
              refine jg_goto (tgt := 102) dX12_station_98 (by decide) ?_
              refine jg_istore (L' := [some (.ref (r)), some (.int (nI (k_p))), some (.int (c)), some (.int (l)), some (.int (nI (180 + (3) * (k_p)))), some (.int (nI (1)))]) dX12_station_102 (by decide) rfl ?_
              refine jg_aload_n dX12_station_104 rfl ?_
              refine rs_ga fl_X12_13 dX12_station_105 hr rfl ?_
              refine jg_iload dX12_station_108 rfl ?_
              refine jn_iconst (k := 1) dX12_station_110 (by decide) ?_
              refine jn_iadd (x := 180 + (3) * (k_p)) (y := 1) dX12_station_111  ?_
              refine jg_iload_n dX12_station_112 rfl ?_
              refine rs_sw (i := 180 + (3) * (k_p) + 1) (x := (c)) dX12_station_113 hr (by omega) ?_
              refine jg_aload_n dX12_station_114 rfl ?_
              refine rs_ga fl_X12_13 dX12_station_115 hr rfl ?_
              refine jg_iload dX12_station_118 rfl ?_
              refine jn_iconst (k := 2) dX12_station_120 (by decide) ?_
              refine jn_iadd (x := 180 + (3) * (k_p)) (y := 2) dX12_station_121  ?_
              refine jg_iload_n dX12_station_122 rfl ?_
              refine rs_sw (i := 180 + (3) * (k_p) + 2) (x := (l)) dX12_station_123 hr (by omega) ?_
              refine jg_iload dX12_station_124 rfl ?_
              exact jg_zreturn dX12_station_126 rfl (rfl) ⟨by simp only [o_r_station, if_pos c_1, if_pos c_2, if_neg c_3, if_pos c_6, if_pos c_7, if_neg c_8, nI_clamp (show k_p < 2 ^ 31 by omega)], by simp only [o_r_station, if_pos c_1, if_pos c_2, if_neg c_3, if_pos c_6, if_pos c_7, if_neg c_8, nI_clamp (show k_p < 2 ^ 31 by omega)]⟩
        · skip
          refine rs_callS (As := [.int (l)]) ks_X12_65 dX12_station_42 rfl (by decide) (Nat.le_of_ble_eq_true rfl) rfl (by decide) (Nat.le_of_ble_eq_true rfl) (r_noCell_t (l) c_6) ?_
          refine jn_if_eq (x := 1) (tgt := 52) dX12_station_45 (by decide) (by omega) (fun q9 => absurd q9 (by decide)) (fun _ => ?_)
          refine jn_iconst (k := 1) dX12_station_48 (by decide) ?_
          refine jg_goto (tgt := 53) dX12_station_49 (by decide) ?_
          refine jn_iconst (k := 1) dX12_station_53 (by decide) ?_
          refine rs_call (As := [.int (nI (1)), .int (nI (1))]) kv_X12_69 dX12_station_54 hr rfl rfl (by decide) (Nat.le_of_ble_eq_true rfl) rfl (by decide) (Nat.le_of_ble_eq_true rfl) (r_thr1 hr (va_up (s.1) 0 (nI (0)), s.2.1, s.2.2) 1) ?_
          refine jn_if_eq (x := 1) (tgt := 62) dX12_station_57 (by decide) (by omega) (fun q9 => absurd q9 (by decide)) (fun _ => ?_)
          refine jn_iconst (k := 0) dX12_station_60 (by decide) ?_
          exact jg_zreturn dX12_station_61 rfl (rfl) ⟨by simp only [o_r_station, if_pos c_1, if_pos c_2, if_neg c_3, if_neg c_6], by simp only [o_r_station, if_pos c_1, if_pos c_2, if_neg c_3, if_neg c_6]⟩
    · skip
      refine jg_iload_n dX12_station_29 rfl ?_
      by_cases c_9 : nI 0 ≤ (c) ∧ (c) ≤ nI 23
      · skip
        refine rs_callS (As := [.int (c)]) ks_X12_65 dX12_station_30 rfl (by decide) (Nat.le_of_ble_eq_true rfl) rfl (by decide) (Nat.le_of_ble_eq_true rfl) (r_noCell_f (c) c_9) ?_
        refine jn_if_ne (x := 0) (tgt := 48) dX12_station_33 (by decide) (by omega) (fun q9 => absurd q9 (by decide)) (fun _ => ?_)
        refine jg_iload_n dX12_station_36 rfl ?_
        refine jg_iconst (v := -1) dX12_station_37 (by decide) ?_
        refine jg_icmp_eq (x := (l)) (y := (-1)) (tgt := 52) dX12_station_38 (by decide) (fun c_10 => ?_) (fun c_10 => ?_)
        · skip
          refine jn_iconst (k := 0) dX12_station_52 (by decide) ?_
          refine jn_iconst (k := 1) dX12_station_53 (by decide) ?_
          refine rs_call (As := [.int (nI (0)), .int (nI (1))]) kv_X12_69 dX12_station_54 hr rfl rfl (by decide) (Nat.le_of_ble_eq_true rfl) rfl (by decide) (Nat.le_of_ble_eq_true rfl) (r_thr0 hr (va_up (s.1) 0 (nI (0)), s.2.1, s.2.2) 1) ?_
          refine jn_if_eq (x := 0) (tgt := 62) dX12_station_57 (by decide) (by omega) (fun _ => ?_) (fun q9 => absurd q9 (by decide))
          obtain ⟨k_p, hk_p, rfl⟩ := in_natL c_1.1 c_1.2 hc.1 hc.2
          refine jn_sipush (k := 180) dX12_station_62 (by decide) ?_
          refine jn_iconst (k := 3) dX12_station_65 (by decide) ?_
          refine jg_iload_n dX12_station_66 rfl ?_
          refine jn_imul (x := 3) (y := k_p) dX12_station_67  ?_
          refine jn_iadd (x := 180) (y := (3) * (k_p)) dX12_station_68  ?_
          refine jg_istore (L' := [some (.ref (r)), some (.int (nI (k_p))), some (.int (c)), some (.int (l)), some (.int (nI (180 + (3) * (k_p)))), none]) dX12_station_69 (by decide) rfl ?_
          refine jg_aload_n dX12_station_71 rfl ?_
          refine rs_ga fl_X12_13 dX12_station_72 hr rfl ?_
          refine jg_iload dX12_station_75 rfl ?_
          refine jn_iconst (k := 1) dX12_station_77 (by decide) ?_
          refine jn_iadd (x := 180 + (3) * (k_p)) (y := 1) dX12_station_78  ?_
          refine rs_lw (i := 180 + (3) * (k_p) + 1) dX12_station_79 hr (by omega) ?_
          refine jg_iload_n dX12_station_80 rfl ?_
          refine jg_icmp_ne (x := ((s.2.1) (180 + (3) * (k_p) + 1))) (y := (c)) (tgt := 97) dX12_station_81 (by decide) (fun c_11 => ?_) (fun c_11 => ?_)
          · skip
            refine jn_iconst (k := 1) dX12_station_97 (by decide) ?_
            refine jg_goto (tgt := 102) dX12_station_98 (by decide) ?_
            refine jg_istore (L' := [some (.ref (r)), some (.int (nI (k_p))), some (.int (c)), some (.int (l)), some (.int (nI (180 + (3) * (k_p)))), some (.int (nI (1)))]) dX12_station_102 (by decide) rfl ?_
            refine jg_aload_n dX12_station_104 rfl ?_
            refine rs_ga fl_X12_13 dX12_station_105 hr rfl ?_
            refine jg_iload dX12_station_108 rfl ?_
            refine jn_iconst (k := 1) dX12_station_110 (by decide) ?_
            refine jn_iadd (x := 180 + (3) * (k_p)) (y := 1) dX12_station_111  ?_
            refine jg_iload_n dX12_station_112 rfl ?_
            refine rs_sw (i := 180 + (3) * (k_p) + 1) (x := (c)) dX12_station_113 hr (by omega) ?_
            refine jg_aload_n dX12_station_114 rfl ?_
            refine rs_ga fl_X12_13 dX12_station_115 hr rfl ?_
            refine jg_iload dX12_station_118 rfl ?_
            refine jn_iconst (k := 2) dX12_station_120 (by decide) ?_
            refine jn_iadd (x := 180 + (3) * (k_p)) (y := 2) dX12_station_121  ?_
            refine jg_iload_n dX12_station_122 rfl ?_
            refine rs_sw (i := 180 + (3) * (k_p) + 2) (x := (l)) dX12_station_123 hr (by omega) ?_
            refine jg_iload dX12_station_124 rfl ?_
            exact jg_zreturn dX12_station_126 rfl (rfl) ⟨by simp only [o_r_station, if_pos c_1, if_neg c_2, if_pos c_9, if_pos c_10, if_neg c_11, nI_clamp (show k_p < 2 ^ 31 by omega)], by simp only [o_r_station, if_pos c_1, if_neg c_2, if_pos c_9, if_pos c_10, if_neg c_11, nI_clamp (show k_p < 2 ^ 31 by omega)]⟩
          · skip
            refine jg_aload_n dX12_station_84 rfl ?_
            refine rs_ga fl_X12_13 dX12_station_85 hr rfl ?_
            refine jg_iload dX12_station_88 rfl ?_
            refine jn_iconst (k := 2) dX12_station_90 (by decide) ?_
            refine jn_iadd (x := 180 + (3) * (k_p)) (y := 2) dX12_station_91  ?_
            refine rs_lw (i := 180 + (3) * (k_p) + 2) dX12_station_92 hr (by omega) ?_
            refine jg_iload_n dX12_station_93 rfl ?_
            refine jg_icmp_eq (x := ((s.2.1) (180 + (3) * (k_p) + 2))) (y := (l)) (tgt := 101) dX12_station_94 (by decide) (fun c_12 => ?_) (fun c_12 => ?_)
            · skip
              refine jn_iconst (k := 0) dX12_station_101 (by decide) ?_
              refine jg_istore (L' := [some (.ref (r)), some (.int (nI (k_p))), some (.int (c)), some (.int (l)), some (.int (nI (180 + (3) * (k_p)))), some (.int (nI (0)))]) dX12_station_102 (by decide) rfl ?_
              refine jg_aload_n dX12_station_104 rfl ?_
              refine rs_ga fl_X12_13 dX12_station_105 hr rfl ?_
              refine jg_iload dX12_station_108 rfl ?_
              refine jn_iconst (k := 1) dX12_station_110 (by decide) ?_
              refine jn_iadd (x := 180 + (3) * (k_p)) (y := 1) dX12_station_111  ?_
              refine jg_iload_n dX12_station_112 rfl ?_
              refine rs_sw (i := 180 + (3) * (k_p) + 1) (x := (c)) dX12_station_113 hr (by omega) ?_
              refine jg_aload_n dX12_station_114 rfl ?_
              refine rs_ga fl_X12_13 dX12_station_115 hr rfl ?_
              refine jg_iload dX12_station_118 rfl ?_
              refine jn_iconst (k := 2) dX12_station_120 (by decide) ?_
              refine jn_iadd (x := 180 + (3) * (k_p)) (y := 2) dX12_station_121  ?_
              refine jg_iload_n dX12_station_122 rfl ?_
              refine rs_sw (i := 180 + (3) * (k_p) + 2) (x := (l)) dX12_station_123 hr (by omega) ?_
              refine jg_iload dX12_station_124 rfl ?_
              exact jg_zreturn dX12_station_126 rfl (rfl) ⟨by simp only [o_r_station, if_pos c_1, if_neg c_2, if_pos c_9, if_pos c_10, if_pos c_11, if_pos c_12, nI_clamp (show k_p < 2 ^ 31 by omega)], by simp only [o_r_station, if_pos c_1, if_neg c_2, if_pos c_9, if_pos c_10, if_pos c_11, if_pos c_12, nI_clamp (show k_p < 2 ^ 31 by omega)]⟩
            · skip
              refine jn_iconst (k := 1) dX12_station_97 (by decide) ?_
              refine jg_goto (tgt := 102) dX12_station_98 (by decide) ?_
              refine jg_istore (L' := [some (.ref (r)), some (.int (nI (k_p))), some (.int (c)), some (.int (l)), some (.int (nI (180 + (3) * (k_p)))), some (.int (nI (1)))]) dX12_station_102 (by decide) rfl ?_
              refine jg_aload_n dX12_station_104 rfl ?_
              refine rs_ga fl_X12_13 dX12_station_105 hr rfl ?_
              refine jg_iload dX12_station_108 rfl ?_
              refine jn_iconst (k := 1) dX12_station_110 (by decide) ?_
              refine jn_iadd (x := 180 + (3) * (k_p)) (y := 1) dX12_station_111  ?_
              refine jg_iload_n dX12_station_112 rfl ?_
              refine rs_sw (i := 180 + (3) * (k_p) + 1) (x := (c)) dX12_station_113 hr (by omega) ?_
              refine jg_aload_n dX12_station_114 rfl ?_
              refine rs_ga fl_X12_13 dX12_station_115 hr rfl ?_
              refine jg_iload dX12_station_118 rfl ?_
              refine jn_iconst (k := 2) dX12_station_120 (by decide) ?_
              refine jn_iadd (x := 180 + (3) * (k_p)) (y := 2) dX12_station_121  ?_
              refine jg_iload_n dX12_station_122 rfl ?_
              refine rs_sw (i := 180 + (3) * (k_p) + 2) (x := (l)) dX12_station_123 hr (by omega) ?_
              refine jg_iload dX12_station_124 rfl ?_
              exact jg_zreturn dX12_station_126 rfl (rfl) ⟨by simp only [o_r_station, if_pos c_1, if_neg c_2, if_pos c_9, if_pos c_10, if_pos c_11, if_neg c_12, nI_clamp (show k_p < 2 ^ 31 by omega)], by simp only [o_r_station, if_pos c_1, if_neg c_2, if_pos c_9, if_pos c_10, if_pos c_11, if_neg c_12, nI_clamp (show k_p < 2 ^ 31 by omega)]⟩
        · skip
          refine jg_iload_n dX12_station_41 rfl ?_
          by_cases c_13 : nI 0 ≤ (l) ∧ (l) ≤ nI 23
          · skip
            refine rs_callS (As := [.int (l)]) ks_X12_65 dX12_station_42 rfl (by decide) (Nat.le_of_ble_eq_true rfl) rfl (by decide) (Nat.le_of_ble_eq_true rfl) (r_noCell_f (l) c_13) ?_
            refine jn_if_eq (x := 0) (tgt := 52) dX12_station_45 (by decide) (by omega) (fun _ => ?_) (fun q9 => absurd q9 (by decide))
            refine jn_iconst (k := 0) dX12_station_52 (by decide) ?_
            refine jn_iconst (k := 1) dX12_station_53 (by decide) ?_
            refine rs_call (As := [.int (nI (0)), .int (nI (1))]) kv_X12_69 dX12_station_54 hr rfl rfl (by decide) (Nat.le_of_ble_eq_true rfl) rfl (by decide) (Nat.le_of_ble_eq_true rfl) (r_thr0 hr (va_up (s.1) 0 (nI (0)), s.2.1, s.2.2) 1) ?_
            refine jn_if_eq (x := 0) (tgt := 62) dX12_station_57 (by decide) (by omega) (fun _ => ?_) (fun q9 => absurd q9 (by decide))
            obtain ⟨k_p, hk_p, rfl⟩ := in_natL c_1.1 c_1.2 hc.1 hc.2
            refine jn_sipush (k := 180) dX12_station_62 (by decide) ?_
            refine jn_iconst (k := 3) dX12_station_65 (by decide) ?_
            refine jg_iload_n dX12_station_66 rfl ?_
            refine jn_imul (x := 3) (y := k_p) dX12_station_67  ?_
            refine jn_iadd (x := 180) (y := (3) * (k_p)) dX12_station_68  ?_
            refine jg_istore (L' := [some (.ref (r)), some (.int (nI (k_p))), some (.int (c)), some (.int (l)), some (.int (nI (180 + (3) * (k_p)))), none]) dX12_station_69 (by decide) rfl ?_
            refine jg_aload_n dX12_station_71 rfl ?_
            refine rs_ga fl_X12_13 dX12_station_72 hr rfl ?_
            refine jg_iload dX12_station_75 rfl ?_
            refine jn_iconst (k := 1) dX12_station_77 (by decide) ?_
            refine jn_iadd (x := 180 + (3) * (k_p)) (y := 1) dX12_station_78  ?_
            refine rs_lw (i := 180 + (3) * (k_p) + 1) dX12_station_79 hr (by omega) ?_
            refine jg_iload_n dX12_station_80 rfl ?_
            refine jg_icmp_ne (x := ((s.2.1) (180 + (3) * (k_p) + 1))) (y := (c)) (tgt := 97) dX12_station_81 (by decide) (fun c_14 => ?_) (fun c_14 => ?_)
            · skip
              refine jn_iconst (k := 1) dX12_station_97 (by decide) ?_
              refine jg_goto (tgt := 102) dX12_station_98 (by decide) ?_
              refine jg_istore (L' := [some (.ref (r)), some (.int (nI (k_p))), some (.int (c)), some (.int (l)), some (.int (nI (180 + (3) * (k_p)))), some (.int (nI (1)))]) dX12_station_102 (by decide) rfl ?_
              refine jg_aload_n dX12_station_104 rfl ?_
              refine rs_ga fl_X12_13 dX12_station_105 hr rfl ?_
              refine jg_iload dX12_station_108 rfl ?_
              refine jn_iconst (k := 1) dX12_station_110 (by decide) ?_
              refine jn_iadd (x := 180 + (3) * (k_p)) (y := 1) dX12_station_111  ?_
              refine jg_iload_n dX12_station_112 rfl ?_
              refine rs_sw (i := 180 + (3) * (k_p) + 1) (x := (c)) dX12_station_113 hr (by omega) ?_
              refine jg_aload_n dX12_station_114 rfl ?_
              refine rs_ga fl_X12_13 dX12_station_115 hr rfl ?_
              refine jg_iload dX12_station_118 rfl ?_
              refine jn_iconst (k := 2) dX12_station_120 (by decide) ?_
              refine jn_iadd (x := 180 + (3) * (k_p)) (y := 2) dX12_station_121  ?_
              refine jg_iload_n dX12_station_122 rfl ?_
              refine rs_sw (i := 180 + (3) * (k_p) + 2) (x := (l)) dX12_station_123 hr (by omega) ?_
              refine jg_iload dX12_station_124 rfl ?_
              exact jg_zreturn dX12_station_126 rfl (rfl) ⟨by simp only [o_r_station, if_pos c_1, if_neg c_2, if_pos c_9, if_neg c_10, if_pos c_13, if_neg c_14, nI_clamp (show k_p < 2 ^ 31 by omega)], by simp only [o_r_station, if_pos c_1, if_neg c_2, if_pos c_9, if_neg c_10, if_pos c_13, if_neg c_14, nI_clamp (show k_p < 2 ^ 31 by omega)]⟩
            · skip
              refine jg_aload_n dX12_station_84 rfl ?_
              refine rs_ga fl_X12_13 dX12_station_85 hr rfl ?_
              refine jg_iload dX12_station_88 rfl ?_
              refine jn_iconst (k := 2) dX12_station_90 (by decide) ?_
              refine jn_iadd (x := 180 + (3) * (k_p)) (y := 2) dX12_station_91  ?_
              refine rs_lw (i := 180 + (3) * (k_p) + 2) dX12_station_92 hr (by omega) ?_
              refine jg_iload_n dX12_station_93 rfl ?_
              refine jg_icmp_eq (x := ((s.2.1) (180 + (3) * (k_p) + 2))) (y := (l)) (tgt := 101) dX12_station_94 (by decide) (fun c_15 => ?_) (fun c_15 => ?_)
              · skip
                refine jn_iconst (k := 0) dX12_station_101 (by decide) ?_
                refine jg_istore (L' := [some (.ref (r)), some (.int (nI (k_p))), some (.int (c)), some (.int (l)), some (.int (nI (180 + (3) * (k_p)))), some (.int (nI (0)))]) dX12_station_102 (by decide) rfl ?_
                refine jg_aload_n dX12_station_104 rfl ?_
                refine rs_ga fl_X12_13 dX12_station_105 hr rfl ?_
                refine jg_iload dX12_station_108 rfl ?_
                refine jn_iconst (k := 1) dX12_station_110 (by decide) ?_
                refine jn_iadd (x := 180 + (3) * (k_p)) (y := 1) dX12_station_111  ?_
                refine jg_iload_n dX12_station_112 rfl ?_
                refine rs_sw (i := 180 + (3) * (k_p) + 1) (x := (c)) dX12_station_113 hr (by omega) ?_
                refine jg_aload_n dX12_station_114 rfl ?_
                refine rs_ga fl_X12_13 dX12_station_115 hr rfl ?_
                refine jg_iload dX12_station_118 rfl ?_
                refine jn_iconst (k := 2) dX12_station_120 (by decide) ?_
                refine jn_iadd (x := 180 + (3) * (k_p)) (y := 2) dX12_station_121  ?_
                refine jg_iload_n dX12_station_122 rfl ?_
                refine rs_sw (i := 180 + (3) * (k_p) + 2) (x := (l)) dX12_station_123 hr (by omega) ?_
                refine jg_iload dX12_station_124 rfl ?_
                exact jg_zreturn dX12_station_126 rfl (rfl) ⟨by simp only [o_r_station, if_pos c_1, if_neg c_2, if_pos c_9, if_neg c_10, if_pos c_13, if_pos c_14, if_pos c_15, nI_clamp (show k_p < 2 ^ 31 by omega)], by simp only [o_r_station, if_pos c_1, if_neg c_2, if_pos c_9, if_neg c_10, if_pos c_13, if_pos c_14, if_pos c_15, nI_clamp (show k_p < 2 ^ 31 by omega)]⟩
              · skip
                refine jn_iconst (k := 1) dX12_station_97 (by decide) ?_
                refine jg_goto (tgt := 102) dX12_station_98 (by decide) ?_
                refine jg_istore (L' := [some (.ref (r)), some (.int (nI (k_p))), some (.int (c)), some (.int (l)), some (.int (nI (180 + (3) * (k_p)))), some (.int (nI (1)))]) dX12_station_102 (by decide) rfl ?_
                refine jg_aload_n dX12_station_104 rfl ?_
                refine rs_ga fl_X12_13 dX12_station_105 hr rfl ?_
                refine jg_iload dX12_station_108 rfl ?_
                refine jn_iconst (k := 1) dX12_station_110 (by decide) ?_
                refine jn_iadd (x := 180 + (3) * (k_p)) (y := 1) dX12_station_111  ?_
                refine jg_iload_n dX12_station_112 rfl ?_
                refine rs_sw (i := 180 + (3) * (k_p) + 1) (x := (c)) dX12_station_113 hr (by omega) ?_
                refine jg_aload_n dX12_station_114 rfl ?_
                refine rs_ga fl_X12_13 dX12_station_115 hr rfl ?_
                refine jg_iload dX12_station_118 rfl ?_
                refine jn_iconst (k := 2) dX12_station_120 (by decide) ?_
                refine jn_iadd (x := 180 + (3) * (k_p)) (y := 2) dX12_station_121  ?_
                refine jg_iload_n dX12_station_122 rfl ?_
                refine rs_sw (i := 180 + (3) * (k_p) + 2) (x := (l)) dX12_station_123 hr (by omega) ?_
                refine jg_iload dX12_station_124 rfl ?_
                exact jg_zreturn dX12_station_126 rfl (rfl) ⟨by simp only [o_r_station, if_pos c_1, if_neg c_2, if_pos c_9, if_neg c_10, if_pos c_13, if_pos c_14, if_neg c_15, nI_clamp (show k_p < 2 ^ 31 by omega)], by simp only [o_r_station, if_pos c_1, if_neg c_2, if_pos c_9, if_neg c_10, if_pos c_13, if_pos c_14, if_neg c_15, nI_clamp (show k_p < 2 ^ 31 by omega)]⟩
          · skip
            refine rs_callS (As := [.int (l)]) ks_X12_65 dX12_station_42 rfl (by decide) (Nat.le_of_ble_eq_true rfl) rfl (by decide) (Nat.le_of_ble_eq_true rfl) (r_noCell_t (l) c_13) ?_
            refine jn_if_eq (x := 1) (tgt := 52) dX12_station_45 (by decide) (by omega) (fun q9 => absurd q9 (by decide)) (fun _ => ?_)
            refine jn_iconst (k := 1) dX12_station_48 (by decide) ?_
            refine jg_goto (tgt := 53) dX12_station_49 (by decide) ?_
            refine jn_iconst (k := 1) dX12_station_53 (by decide) ?_
            refine rs_call (As := [.int (nI (1)), .int (nI (1))]) kv_X12_69 dX12_station_54 hr rfl rfl (by decide) (Nat.le_of_ble_eq_true rfl) rfl (by decide) (Nat.le_of_ble_eq_true rfl) (r_thr1 hr (va_up (s.1) 0 (nI (0)), s.2.1, s.2.2) 1) ?_
            refine jn_if_eq (x := 1) (tgt := 62) dX12_station_57 (by decide) (by omega) (fun q9 => absurd q9 (by decide)) (fun _ => ?_)
            refine jn_iconst (k := 0) dX12_station_60 (by decide) ?_
            exact jg_zreturn dX12_station_61 rfl (rfl) ⟨by simp only [o_r_station, if_pos c_1, if_neg c_2, if_pos c_9, if_neg c_10, if_neg c_13], by simp only [o_r_station, if_pos c_1, if_neg c_2, if_pos c_9, if_neg c_10, if_neg c_13]⟩
      · skip
        refine rs_callS (As := [.int (c)]) ks_X12_65 dX12_station_30 rfl (by decide) (Nat.le_of_ble_eq_true rfl) rfl (by decide) (Nat.le_of_ble_eq_true rfl) (r_noCell_t (c) c_9) ?_
        refine jn_if_ne (x := 1) (tgt := 48) dX12_station_33 (by decide) (by omega) (fun _ => ?_) (fun q9 => absurd q9 (by decide))
        refine jn_iconst (k := 1) dX12_station_48 (by decide) ?_
        refine jg_goto (tgt := 53) dX12_station_49 (by decide) ?_
        refine jn_iconst (k := 1) dX12_station_53 (by decide) ?_
        refine rs_call (As := [.int (nI (1)), .int (nI (1))]) kv_X12_69 dX12_station_54 hr rfl rfl (by decide) (Nat.le_of_ble_eq_true rfl) rfl (by decide) (Nat.le_of_ble_eq_true rfl) (r_thr1 hr (va_up (s.1) 0 (nI (0)), s.2.1, s.2.2) 1) ?_
        refine jn_if_eq (x := 1) (tgt := 62) dX12_station_57 (by decide) (by omega) (fun q9 => absurd q9 (by decide)) (fun _ => ?_)
        refine jn_iconst (k := 0) dX12_station_60 (by decide) ?_
        exact jg_zreturn dX12_station_61 rfl (rfl) ⟨by simp only [o_r_station, if_pos c_1, if_neg c_2, if_neg c_9], by simp only [o_r_station, if_pos c_1, if_neg c_2, if_neg c_9]⟩
  · skip
    refine rs_callS (As := [.int (p), .int (nI (0)), .int (((nI (wn s.2.1 179)) - (nI (1))))]) ks_X12_49 dX12_station_18 rfl (by decide) (Nat.le_of_ble_eq_true rfl) rfl (by decide) (Nat.le_of_ble_eq_true rfl) (r_in_f (p) (nI (0)) (((nI (wn s.2.1 179)) - (nI (1)))) c_1) ?_
    refine jn_if_eq (x := 0) (tgt := 48) dX12_station_21 (by decide) (by omega) (fun _ => ?_) (fun q9 => absurd q9 (by decide))
    refine jn_iconst (k := 1) dX12_station_48 (by decide) ?_
    refine jg_goto (tgt := 53) dX12_station_49 (by decide) ?_
    refine jn_iconst (k := 1) dX12_station_53 (by decide) ?_
    refine rs_call (As := [.int (nI (1)), .int (nI (1))]) kv_X12_69 dX12_station_54 hr rfl rfl (by decide) (Nat.le_of_ble_eq_true rfl) rfl (by decide) (Nat.le_of_ble_eq_true rfl) (r_thr1 hr (va_up (s.1) 0 (nI (0)), s.2.1, s.2.2) 1) ?_
    refine jn_if_eq (x := 1) (tgt := 62) dX12_station_57 (by decide) (by omega) (fun q9 => absurd q9 (by decide)) (fun _ => ?_)
    refine jn_iconst (k := 0) dX12_station_60 (by decide) ?_
    exact jg_zreturn dX12_station_61 rfl (rfl) ⟨by simp only [o_r_station, if_neg c_1], by simp only [o_r_station, if_neg c_1]⟩
theorem dX12_sound_0 : decode cX12_sound 0 = .ok (.aload_n 0, 1) := by decide +kernel
theorem dX12_sound_1 : decode cX12_sound 1 = .ok (.iconst 0, 1) := by decide +kernel
theorem dX12_sound_2 : decode cX12_sound 2 = .ok (.putfield 3, 3) := by decide +kernel
theorem dX12_sound_5 : decode cX12_sound 5 = .ok (.aload_n 0, 1) := by decide +kernel
theorem dX12_sound_6 : decode cX12_sound 6 = .ok (.iload_n 1, 1) := by decide +kernel
theorem dX12_sound_7 : decode cX12_sound 7 = .ok (.invokestatic 65, 3) := by decide +kernel
theorem dX12_sound_10 : decode cX12_sound 10 = .ok (.iconst 1, 1) := by decide +kernel
theorem dX12_sound_11 : decode cX12_sound 11 = .ok (.invokevirtual 69, 3) := by decide +kernel
theorem dX12_sound_14 : decode cX12_sound 14 = .ok (.ifCond .ne 39, 3) := by decide +kernel
theorem dX12_sound_17 : decode cX12_sound 17 = .ok (.aload_n 0, 1) := by decide +kernel
theorem dX12_sound_18 : decode cX12_sound 18 = .ok (.iload_n 2, 1) := by decide +kernel
theorem dX12_sound_19 : decode cX12_sound 19 = .ok (.iconst 0, 1) := by decide +kernel
theorem dX12_sound_20 : decode cX12_sound 20 = .ok (.aload_n 0, 1) := by decide +kernel
theorem dX12_sound_21 : decode cX12_sound 21 = .ok (.invokevirtual 77, 3) := by decide +kernel
theorem dX12_sound_24 : decode cX12_sound 24 = .ok (.invokestatic 49, 3) := by decide +kernel
theorem dX12_sound_27 : decode cX12_sound 27 = .ok (.ifCond .eq 14, 3) := by decide +kernel
theorem dX12_sound_30 : decode cX12_sound 30 = .ok (.iload_n 3, 1) := by decide +kernel
theorem dX12_sound_31 : decode cX12_sound 31 = .ok (.iconst 0, 1) := by decide +kernel
theorem dX12_sound_32 : decode cX12_sound 32 = .ok (.sipush 250, 3) := by decide +kernel
theorem dX12_sound_35 : decode cX12_sound 35 = .ok (.invokestatic 49, 3) := by decide +kernel
theorem dX12_sound_38 : decode cX12_sound 38 = .ok (.ifCond .ne 7, 3) := by decide +kernel
theorem dX12_sound_41 : decode cX12_sound 41 = .ok (.iconst 1, 1) := by decide +kernel
theorem dX12_sound_42 : decode cX12_sound 42 = .ok (.goto 4, 3) := by decide +kernel
theorem dX12_sound_45 : decode cX12_sound 45 = .ok (.iconst 0, 1) := by decide +kernel
theorem dX12_sound_46 : decode cX12_sound 46 = .ok (.iconst 2, 1) := by decide +kernel
theorem dX12_sound_47 : decode cX12_sound 47 = .ok (.invokevirtual 69, 3) := by decide +kernel
theorem dX12_sound_50 : decode cX12_sound 50 = .ok (.ifCond .eq 5, 3) := by decide +kernel
theorem dX12_sound_53 : decode cX12_sound 53 = .ok (.iconst 0, 1) := by decide +kernel
theorem dX12_sound_54 : decode cX12_sound 54 = .ok (.ireturn, 1) := by decide +kernel
theorem dX12_sound_55 : decode cX12_sound 55 = .ok (.aload_n 0, 1) := by decide +kernel
theorem dX12_sound_56 : decode cX12_sound 56 = .ok (.getfield 13, 3) := by decide +kernel
theorem dX12_sound_59 : decode cX12_sound 59 = .ok (.sipush 198, 3) := by decide +kernel
theorem dX12_sound_62 : decode cX12_sound 62 = .ok (.iaload, 1) := by decide +kernel
theorem dX12_sound_63 : decode cX12_sound 63 = .ok (.istore 4, 2) := by decide +kernel
theorem dX12_sound_65 : decode cX12_sound 65 = .ok (.iload 4, 2) := by decide +kernel
theorem dX12_sound_67 : decode cX12_sound 67 = .ok (.sipush 200, 3) := by decide +kernel
theorem dX12_sound_70 : decode cX12_sound 70 = .ok (.if_icmp .ne 5, 3) := by decide +kernel
theorem dX12_sound_73 : decode cX12_sound 73 = .ok (.iconst (-1), 1) := by decide +kernel
theorem dX12_sound_74 : decode cX12_sound 74 = .ok (.ireturn, 1) := by decide +kernel
theorem dX12_sound_75 : decode cX12_sound 75 = .ok (.aload_n 0, 1) := by decide +kernel
theorem dX12_sound_76 : decode cX12_sound 76 = .ok (.getfield 13, 3) := by decide +kernel
theorem dX12_sound_79 : decode cX12_sound 79 = .ok (.sipush 199, 3) := by decide +kernel
theorem dX12_sound_82 : decode cX12_sound 82 = .ok (.iconst 4, 1) := by decide +kernel
theorem dX12_sound_83 : decode cX12_sound 83 = .ok (.iload 4, 2) := by decide +kernel
theorem dX12_sound_85 : decode cX12_sound 85 = .ok (.imul, 1) := by decide +kernel
theorem dX12_sound_86 : decode cX12_sound 86 = .ok (.iadd, 1) := by decide +kernel
theorem dX12_sound_87 : decode cX12_sound 87 = .ok (.iload_n 1, 1) := by decide +kernel
theorem dX12_sound_88 : decode cX12_sound 88 = .ok (.iastore, 1) := by decide +kernel
theorem dX12_sound_89 : decode cX12_sound 89 = .ok (.aload_n 0, 1) := by decide +kernel
theorem dX12_sound_90 : decode cX12_sound 90 = .ok (.getfield 13, 3) := by decide +kernel
theorem dX12_sound_93 : decode cX12_sound 93 = .ok (.sipush 199, 3) := by decide +kernel
theorem dX12_sound_96 : decode cX12_sound 96 = .ok (.iconst 4, 1) := by decide +kernel
theorem dX12_sound_97 : decode cX12_sound 97 = .ok (.iload 4, 2) := by decide +kernel
theorem dX12_sound_99 : decode cX12_sound 99 = .ok (.imul, 1) := by decide +kernel
theorem dX12_sound_100 : decode cX12_sound 100 = .ok (.iadd, 1) := by decide +kernel
theorem dX12_sound_101 : decode cX12_sound 101 = .ok (.iconst 1, 1) := by decide +kernel
theorem dX12_sound_102 : decode cX12_sound 102 = .ok (.iadd, 1) := by decide +kernel
theorem dX12_sound_103 : decode cX12_sound 103 = .ok (.iload_n 2, 1) := by decide +kernel
theorem dX12_sound_104 : decode cX12_sound 104 = .ok (.iastore, 1) := by decide +kernel
theorem dX12_sound_105 : decode cX12_sound 105 = .ok (.aload_n 0, 1) := by decide +kernel
theorem dX12_sound_106 : decode cX12_sound 106 = .ok (.getfield 13, 3) := by decide +kernel
theorem dX12_sound_109 : decode cX12_sound 109 = .ok (.sipush 199, 3) := by decide +kernel
theorem dX12_sound_112 : decode cX12_sound 112 = .ok (.iconst 4, 1) := by decide +kernel
theorem dX12_sound_113 : decode cX12_sound 113 = .ok (.iload 4, 2) := by decide +kernel
theorem dX12_sound_115 : decode cX12_sound 115 = .ok (.imul, 1) := by decide +kernel
theorem dX12_sound_116 : decode cX12_sound 116 = .ok (.iadd, 1) := by decide +kernel
theorem dX12_sound_117 : decode cX12_sound 117 = .ok (.iconst 2, 1) := by decide +kernel
theorem dX12_sound_118 : decode cX12_sound 118 = .ok (.iadd, 1) := by decide +kernel
theorem dX12_sound_119 : decode cX12_sound 119 = .ok (.iload_n 3, 1) := by decide +kernel
theorem dX12_sound_120 : decode cX12_sound 120 = .ok (.iastore, 1) := by decide +kernel
theorem dX12_sound_121 : decode cX12_sound 121 = .ok (.aload_n 0, 1) := by decide +kernel
theorem dX12_sound_122 : decode cX12_sound 122 = .ok (.getfield 13, 3) := by decide +kernel
theorem dX12_sound_125 : decode cX12_sound 125 = .ok (.sipush 199, 3) := by decide +kernel
theorem dX12_sound_128 : decode cX12_sound 128 = .ok (.iconst 4, 1) := by decide +kernel
theorem dX12_sound_129 : decode cX12_sound 129 = .ok (.iload 4, 2) := by decide +kernel
theorem dX12_sound_131 : decode cX12_sound 131 = .ok (.imul, 1) := by decide +kernel
theorem dX12_sound_132 : decode cX12_sound 132 = .ok (.iadd, 1) := by decide +kernel
theorem dX12_sound_133 : decode cX12_sound 133 = .ok (.iconst 3, 1) := by decide +kernel
theorem dX12_sound_134 : decode cX12_sound 134 = .ok (.iadd, 1) := by decide +kernel
theorem dX12_sound_135 : decode cX12_sound 135 = .ok (.aload_n 0, 1) := by decide +kernel
theorem dX12_sound_136 : decode cX12_sound 136 = .ok (.invokevirtual 73, 3) := by decide +kernel
theorem dX12_sound_139 : decode cX12_sound 139 = .ok (.iastore, 1) := by decide +kernel
theorem dX12_sound_140 : decode cX12_sound 140 = .ok (.aload_n 0, 1) := by decide +kernel
theorem dX12_sound_141 : decode cX12_sound 141 = .ok (.getfield 13, 3) := by decide +kernel
theorem dX12_sound_144 : decode cX12_sound 144 = .ok (.sipush 198, 3) := by decide +kernel
theorem dX12_sound_147 : decode cX12_sound 147 = .ok (.dup2, 1) := by decide +kernel
theorem dX12_sound_148 : decode cX12_sound 148 = .ok (.iaload, 1) := by decide +kernel
theorem dX12_sound_149 : decode cX12_sound 149 = .ok (.iconst 1, 1) := by decide +kernel
theorem dX12_sound_150 : decode cX12_sound 150 = .ok (.iadd, 1) := by decide +kernel
theorem dX12_sound_151 : decode cX12_sound 151 = .ok (.iastore, 1) := by decide +kernel
theorem dX12_sound_152 : decode cX12_sound 152 = .ok (.iload 4, 2) := by decide +kernel
theorem dX12_sound_154 : decode cX12_sound 154 = .ok (.ireturn, 1) := by decide +kernel
def o_r_sound (s : rs_S) (c p v : Int32) : Option Value × rs_S := (if nI 0 ≤ (c) ∧ (c) ≤ nI 23 then (if (nI (0)) ≤ (p) ∧ (p) ≤ (nI ((wn s.2.1 0) / 24)) then (if (nI (0)) ≤ (v) ∧ (v) ≤ (nI (250)) then (if wn s.2.1 198 = 200 then (some (.int (-1)), (va_up (s.1) 0 (nI (0)), s.2.1, s.2.2)) else (some (.int (nI (wn s.2.1 198))), (va_up (s.1) 0 (nI (0)), upd (upd (upd (upd (upd (s.2.1) (199 + (4) * (wn s.2.1 198)) (c)) (199 + (4) * (wn s.2.1 198) + 1) (p)) (199 + (4) * (wn s.2.1 198) + 2) (v)) (199 + (4) * (wn s.2.1 198) + 3) (nI (wn s.2.1 0))) (198) (nI (wn s.2.1 198 + 1)), s.2.2))) else (some (.int (nI (0))), (va_up (va_up (s.1) 0 (nI (0))) 0 (nI 2), s.2.1, s.2.2))) else (some (.int (nI (0))), (va_up (va_up (s.1) 0 (nI (0))) 0 (nI 2), s.2.1, s.2.2))) else (some (.int (nI (0))), (va_up (va_up (s.1) 0 (nI (0))) 0 (nI 1), s.2.1, s.2.2)))
set_option maxHeartbeats 2000000 in
theorem r_sound {Γ : jg_G} {g : Nat → jg_C} {n r : Nat} (hr : r + 11 ≤ n) (s : rs_S) (c p v : Int32) (hh : wb s.2.1 0 30000) (hc : wb s.2.1 198 200) : jc Γ mX12_sound 3 0 0 [some (.ref (r)), some (.int (c)), some (.int (p)), some (.int (v)), none] (rs_h g r s, n) (.inl (o_r_sound s c p v).1) (rs_h g r (o_r_sound s c p v).2, n) := by
  refine jc_of ?_
  have hh_2 := hh.2
  have hc_2 := hc.2
  refine jg_aload_n dX12_sound_0 rfl ?_
  refine jn_iconst (k := 0) dX12_sound_1 (by decide) ?_
  refine rs_put (x := (nI (0))) (i' := va_up (s.1) 0 (nI (0))) fl_X12_3 dX12_sound_2 hr (by decide) (rfl) rfl rfl ?_
  refine jg_aload_n dX12_sound_5 rfl ?_
  refine jg_iload_n dX12_sound_6 rfl ?_
  by_cases c_1 : nI 0 ≤ (c) ∧ (c) ≤ nI 23
  · skip
    refine rs_callS (As := [.int (c)]) ks_X12_65 dX12_sound_7 rfl (by decide) (Nat.le_of_ble_eq_true rfl) rfl (by decide) (Nat.le_of_ble_eq_true rfl) (r_noCell_f (c) c_1) ?_
    refine jn_iconst (k := 1) dX12_sound_10 (by decide) ?_
    refine rs_call (As := [.int (nI (0)), .int (nI (1))]) kv_X12_69 dX12_sound_11 hr rfl rfl (by decide) (Nat.le_of_ble_eq_true rfl) rfl (by decide) (Nat.le_of_ble_eq_true rfl) (r_thr0 hr (va_up (s.1) 0 (nI (0)), s.2.1, s.2.2) 1) ?_
    refine jn_if_ne (x := 0) (tgt := 53) dX12_sound_14 (by decide) (by omega) (fun q9 => absurd q9 (by decide)) (fun _ => ?_)
    refine jg_aload_n dX12_sound_17 rfl ?_
    refine jg_iload_n dX12_sound_18 rfl ?_
    refine jn_iconst (k := 0) dX12_sound_19 (by decide) ?_
    refine jg_aload_n dX12_sound_20 rfl ?_
    refine rs_call (As := []) kv_X12_77 dX12_sound_21 hr rfl rfl (by decide) (Nat.le_of_ble_eq_true rfl) rfl (by decide) (Nat.le_of_ble_eq_true rfl) (r_today hr (va_up (s.1) 0 (nI (0)), s.2.1, s.2.2) (wn s.2.1 0) (by first | exact hh.1 | (simp only [upd]; (repeat rw [if_neg (by omega)]); exact hh.1)) (by omega)) ?_
    by_cases c_2 : (nI (0)) ≤ (p) ∧ (p) ≤ (nI ((wn s.2.1 0) / 24))
    · skip
      refine rs_callS (As := [.int (p), .int (nI (0)), .int (nI ((wn s.2.1 0) / 24))]) ks_X12_49 dX12_sound_24 rfl (by decide) (Nat.le_of_ble_eq_true rfl) rfl (by decide) (Nat.le_of_ble_eq_true rfl) (r_in_t (p) (nI (0)) (nI ((wn s.2.1 0) / 24)) c_2) ?_
      refine jn_if_eq (x := 1) (tgt := 41) dX12_sound_27 (by decide) (by omega) (fun q9 => absurd q9 (by decide)) (fun _ => ?_)
      refine jg_iload_n dX12_sound_30 rfl ?_
      refine jn_iconst (k := 0) dX12_sound_31 (by decide) ?_
      refine jn_sipush (k := 250) dX12_sound_32 (by decide) ?_
      by_cases c_3 : (nI (0)) ≤ (v) ∧ (v) ≤ (nI (250))
      · skip
        refine rs_callS (As := [.int (v), .int (nI (0)), .int (nI (250))]) ks_X12_49 dX12_sound_35 rfl (by decide) (Nat.le_of_ble_eq_true rfl) rfl (by decide) (Nat.le_of_ble_eq_true rfl) (r_in_t (v) (nI (0)) (nI (250)) c_3) ?_
        refine jn_if_ne (x := 1) (tgt := 45) dX12_sound_38 (by decide) (by omega) (fun _ => ?_) (fun q9 => absurd q9 (by decide))
        refine jn_iconst (k := 0) dX12_sound_45 (by decide) ?_
        refine jn_iconst (k := 2) dX12_sound_46 (by decide) ?_
        refine rs_call (As := [.int (nI (0)), .int (nI (2))]) kv_X12_69 dX12_sound_47 hr rfl rfl (by decide) (Nat.le_of_ble_eq_true rfl) rfl (by decide) (Nat.le_of_ble_eq_true rfl) (r_thr0 hr (va_up (s.1) 0 (nI (0)), s.2.1, s.2.2) 2) ?_
        refine jn_if_eq (x := 0) (tgt := 55) dX12_sound_50 (by decide) (by omega) (fun _ => ?_) (fun q9 => absurd q9 (by decide))
        refine jg_aload_n dX12_sound_55 rfl ?_
        refine rs_ga fl_X12_13 dX12_sound_56 hr rfl ?_
        refine jn_sipush (k := 198) dX12_sound_59 (by decide) ?_
        refine rs_lwN (i := 198) (x := (nI (wn s.2.1 198))) (hc.1) dX12_sound_62 hr (by omega) ?_
        refine jg_istore (L' := [some (.ref (r)), some (.int (c)), some (.int (p)), some (.int (v)), some (.int (nI (wn s.2.1 198)))]) dX12_sound_63 (by decide) rfl ?_
        refine jg_iload dX12_sound_65 rfl ?_
        refine jn_sipush (k := 200) dX12_sound_67 (by decide) ?_
        refine jn_icmp_ne (x := wn s.2.1 198) (y := 200) (tgt := 75) dX12_sound_70 (by decide) (by omega) (by omega) (fun c_4 => ?_) (fun c_4 => ?_)
        · skip
          refine jg_aload_n dX12_sound_75 rfl ?_
          refine rs_ga fl_X12_13 dX12_sound_76 hr rfl ?_
          refine jn_sipush (k := 199) dX12_sound_79 (by decide) ?_
          refine jn_iconst (k := 4) dX12_sound_82 (by decide) ?_
          refine jg_iload dX12_sound_83 rfl ?_
          refine jn_imul (x := 4) (y := wn s.2.1 198) dX12_sound_85  ?_
          refine jn_iadd (x := 199) (y := (4) * (wn s.2.1 198)) dX12_sound_86  ?_
          refine jg_iload_n dX12_sound_87 rfl ?_
          refine rs_sw (i := 199 + (4) * (wn s.2.1 198)) (x := (c)) dX12_sound_88 hr (by omega) ?_
          refine jg_aload_n dX12_sound_89 rfl ?_
          refine rs_ga fl_X12_13 dX12_sound_90 hr rfl ?_
          refine jn_sipush (k := 199) dX12_sound_93 (by decide) ?_
          refine jn_iconst (k := 4) dX12_sound_96 (by decide) ?_
          refine jg_iload dX12_sound_97 rfl ?_
          refine jn_imul (x := 4) (y := wn s.2.1 198) dX12_sound_99  ?_
          refine jn_iadd (x := 199) (y := (4) * (wn s.2.1 198)) dX12_sound_100  ?_
          refine jn_iconst (k := 1) dX12_sound_101 (by decide) ?_
          refine jn_iadd (x := 199 + (4) * (wn s.2.1 198)) (y := 1) dX12_sound_102  ?_
          refine jg_iload_n dX12_sound_103 rfl ?_
          refine rs_sw (i := 199 + (4) * (wn s.2.1 198) + 1) (x := (p)) dX12_sound_104 hr (by omega) ?_
          refine jg_aload_n dX12_sound_105 rfl ?_
          refine rs_ga fl_X12_13 dX12_sound_106 hr rfl ?_
          refine jn_sipush (k := 199) dX12_sound_109 (by decide) ?_
          refine jn_iconst (k := 4) dX12_sound_112 (by decide) ?_
          refine jg_iload dX12_sound_113 rfl ?_
          refine jn_imul (x := 4) (y := wn s.2.1 198) dX12_sound_115  ?_
          refine jn_iadd (x := 199) (y := (4) * (wn s.2.1 198)) dX12_sound_116  ?_
          refine jn_iconst (k := 2) dX12_sound_117 (by decide) ?_
          refine jn_iadd (x := 199 + (4) * (wn s.2.1 198)) (y := 2) dX12_sound_118  ?_
          refine jg_iload_n dX12_sound_119 rfl ?_
          refine rs_sw (i := 199 + (4) * (wn s.2.1 198) + 2) (x := (v)) dX12_sound_120 hr (by omega) ?_
          refine jg_aload_n dX12_sound_121 rfl ?_
          refine rs_ga fl_X12_13 dX12_sound_122 hr rfl ?_
          refine jn_sipush (k := 199) dX12_sound_125 (by decide) ?_
          refine jn_iconst (k := 4) dX12_sound_128 (by decide) ?_
          refine jg_iload dX12_sound_129 rfl ?_
          refine jn_imul (x := 4) (y := wn s.2.1 198) dX12_sound_131  ?_
          refine jn_iadd (x := 199) (y := (4) * (wn s.2.1 198)) dX12_sound_132  ?_
          refine jn_iconst (k := 3) dX12_sound_133 (by decide) ?_
          refine jn_iadd (x := 199 + (4) * (wn s.2.1 198)) (y := 3) dX12_sound_134  ?_
          refine jg_aload_n dX12_sound_135 rfl ?_
          refine rs_call (As := []) kv_X12_73 dX12_sound_136 hr rfl rfl (by decide) (Nat.le_of_ble_eq_true rfl) rfl (by decide) (Nat.le_of_ble_eq_true rfl) (r_hour hr (va_up (s.1) 0 (nI (0)), upd (upd (upd (s.2.1) (199 + (4) * (wn s.2.1 198)) (c)) (199 + (4) * (wn s.2.1 198) + 1) (p)) (199 + (4) * (wn s.2.1 198) + 2) (v), s.2.2) (nI (wn s.2.1 0)) (by first | exact hh.1 | (simp only [upd]; (repeat rw [if_neg (by omega)]); exact hh.1))) ?_
          refine rs_sw (i := 199 + (4) * (wn s.2.1 198) + 3) (x := (nI (wn s.2.1 0))) dX12_sound_139 hr (by omega) ?_
          refine jg_aload_n dX12_sound_140 rfl ?_
          refine rs_ga fl_X12_13 dX12_sound_141 hr rfl ?_
          refine jn_sipush (k := 198) dX12_sound_144 (by decide) ?_
          refine jg_dup2 dX12_sound_147 rfl rfl ?_
          refine rs_lwN (i := 198) (x := (nI (wn s.2.1 198))) (by simp only [upd]; (repeat rw [if_neg (by omega)]); exact hc.1) dX12_sound_148 hr (by omega) ?_
          refine jn_iconst (k := 1) dX12_sound_149 (by decide) ?_
          refine jn_iadd (x := wn s.2.1 198) (y := 1) dX12_sound_150  ?_
          refine rs_sw (i := 198) (x := (nI (wn s.2.1 198 + 1))) dX12_sound_151 hr (by omega) ?_
          refine jg_iload dX12_sound_152 rfl ?_
          exact jg_ireturn dX12_sound_154 rfl ⟨by simp only [o_r_sound, if_pos c_1, if_pos c_2, if_pos c_3, if_neg c_4], by simp only [o_r_sound, if_pos c_1, if_pos c_2, if_pos c_3, if_neg c_4]⟩
        · skip
          refine jg_iconst (v := -1) dX12_sound_73 (by decide) ?_
          exact jg_ireturn dX12_sound_74 rfl ⟨by simp only [o_r_sound, if_pos c_1, if_pos c_2, if_pos c_3, if_pos c_4], by simp only [o_r_sound, if_pos c_1, if_pos c_2, if_pos c_3, if_pos c_4]⟩
      · skip
        refine rs_callS (As := [.int (v), .int (nI (0)), .int (nI (250))]) ks_X12_49 dX12_sound_35 rfl (by decide) (Nat.le_of_ble_eq_true rfl) rfl (by decide) (Nat.le_of_ble_eq_true rfl) (r_in_f (v) (nI (0)) (nI (250)) c_3) ?_
        refine jn_if_ne (x := 0) (tgt := 45) dX12_sound_38 (by decide) (by omega) (fun q9 => absurd q9 (by decide)) (fun _ => ?_)
        refine jn_iconst (k := 1) dX12_sound_41 (by decide) ?_
        refine jg_goto (tgt := 46) dX12_sound_42 (by decide) ?_
        refine jn_iconst (k := 2) dX12_sound_46 (by decide) ?_
        refine rs_call (As := [.int (nI (1)), .int (nI (2))]) kv_X12_69 dX12_sound_47 hr rfl rfl (by decide) (Nat.le_of_ble_eq_true rfl) rfl (by decide) (Nat.le_of_ble_eq_true rfl) (r_thr1 hr (va_up (s.1) 0 (nI (0)), s.2.1, s.2.2) 2) ?_
        refine jn_if_eq (x := 1) (tgt := 55) dX12_sound_50 (by decide) (by omega) (fun q9 => absurd q9 (by decide)) (fun _ => ?_)
        refine jn_iconst (k := 0) dX12_sound_53 (by decide) ?_
        exact jg_ireturn dX12_sound_54 rfl ⟨by simp only [o_r_sound, if_pos c_1, if_pos c_2, if_neg c_3], by simp only [o_r_sound, if_pos c_1, if_pos c_2, if_neg c_3]⟩
    · skip
      refine rs_callS (As := [.int (p), .int (nI (0)), .int (nI ((wn s.2.1 0) / 24))]) ks_X12_49 dX12_sound_24 rfl (by decide) (Nat.le_of_ble_eq_true rfl) rfl (by decide) (Nat.le_of_ble_eq_true rfl) (r_in_f (p) (nI (0)) (nI ((wn s.2.1 0) / 24)) c_2) ?_
      refine jn_if_eq (x := 0) (tgt := 41) dX12_sound_27 (by decide) (by omega) (fun _ => ?_) (fun q9 => absurd q9 (by decide))
      refine jn_iconst (k := 1) dX12_sound_41 (by decide) ?_
      refine jg_goto (tgt := 46) dX12_sound_42 (by decide) ?_
      refine jn_iconst (k := 2) dX12_sound_46 (by decide) ?_
      refine rs_call (As := [.int (nI (1)), .int (nI (2))]) kv_X12_69 dX12_sound_47 hr rfl rfl (by decide) (Nat.le_of_ble_eq_true rfl) rfl (by decide) (Nat.le_of_ble_eq_true rfl) (r_thr1 hr (va_up (s.1) 0 (nI (0)), s.2.1, s.2.2) 2) ?_
      refine jn_if_eq (x := 1) (tgt := 55) dX12_sound_50 (by decide) (by omega) (fun q9 => absurd q9 (by decide)) (fun _ => ?_)
      refine jn_iconst (k := 0) dX12_sound_53 (by decide) ?_
      exact jg_ireturn dX12_sound_54 rfl ⟨by simp only [o_r_sound, if_pos c_1, if_neg c_2], by simp only [o_r_sound, if_pos c_1, if_neg c_2]⟩
  · skip
    refine rs_callS (As := [.int (c)]) ks_X12_65 dX12_sound_7 rfl (by decide) (Nat.le_of_ble_eq_true rfl) rfl (by decide) (Nat.le_of_ble_eq_true rfl) (r_noCell_t (c) c_1) ?_
    refine jn_iconst (k := 1) dX12_sound_10 (by decide) ?_
    refine rs_call (As := [.int (nI (1)), .int (nI (1))]) kv_X12_69 dX12_sound_11 hr rfl rfl (by decide) (Nat.le_of_ble_eq_true rfl) rfl (by decide) (Nat.le_of_ble_eq_true rfl) (r_thr1 hr (va_up (s.1) 0 (nI (0)), s.2.1, s.2.2) 1) ?_
    refine jn_if_ne (x := 1) (tgt := 53) dX12_sound_14 (by decide) (by omega) (fun _ => ?_) (fun q9 => absurd q9 (by decide))
    refine jn_iconst (k := 0) dX12_sound_53 (by decide) ?_
    exact jg_ireturn dX12_sound_54 rfl ⟨by simp only [o_r_sound, if_neg c_1], by simp only [o_r_sound, if_neg c_1]⟩
theorem dX12_berth_0 : decode cX12_berth 0 = .ok (.aload_n 0, 1) := by decide +kernel
theorem dX12_berth_1 : decode cX12_berth 1 = .ok (.iconst 0, 1) := by decide +kernel
theorem dX12_berth_2 : decode cX12_berth 2 = .ok (.putfield 3, 3) := by decide +kernel
theorem dX12_berth_5 : decode cX12_berth 5 = .ok (.aload_n 0, 1) := by decide +kernel
theorem dX12_berth_6 : decode cX12_berth 6 = .ok (.iload_n 1, 1) := by decide +kernel
theorem dX12_berth_7 : decode cX12_berth 7 = .ok (.invokestatic 65, 3) := by decide +kernel
theorem dX12_berth_10 : decode cX12_berth 10 = .ok (.iconst 1, 1) := by decide +kernel
theorem dX12_berth_11 : decode cX12_berth 11 = .ok (.invokevirtual 69, 3) := by decide +kernel
theorem dX12_berth_14 : decode cX12_berth 14 = .ok (.ifCond .ne 75, 3) := by decide +kernel
theorem dX12_berth_17 : decode cX12_berth 17 = .ok (.aload_n 0, 1) := by decide +kernel
theorem dX12_berth_18 : decode cX12_berth 18 = .ok (.iload_n 2, 1) := by decide +kernel
theorem dX12_berth_19 : decode cX12_berth 19 = .ok (.iconst 1, 1) := by decide +kernel
theorem dX12_berth_20 : decode cX12_berth 20 = .ok (.sipush 900, 3) := by decide +kernel
theorem dX12_berth_23 : decode cX12_berth 23 = .ok (.invokestatic 49, 3) := by decide +kernel
theorem dX12_berth_26 : decode cX12_berth 26 = .ok (.ifCond .eq 25, 3) := by decide +kernel
theorem dX12_berth_29 : decode cX12_berth 29 = .ok (.iload_n 3, 1) := by decide +kernel
theorem dX12_berth_30 : decode cX12_berth 30 = .ok (.iconst 1, 1) := by decide +kernel
theorem dX12_berth_31 : decode cX12_berth 31 = .ok (.sipush 500, 3) := by decide +kernel
theorem dX12_berth_34 : decode cX12_berth 34 = .ok (.invokestatic 49, 3) := by decide +kernel
theorem dX12_berth_37 : decode cX12_berth 37 = .ok (.ifCond .eq 14, 3) := by decide +kernel
theorem dX12_berth_40 : decode cX12_berth 40 = .ok (.iload 4, 2) := by decide +kernel
theorem dX12_berth_42 : decode cX12_berth 42 = .ok (.iconst 1, 1) := by decide +kernel
theorem dX12_berth_43 : decode cX12_berth 43 = .ok (.ldc 103, 2) := by decide +kernel
theorem dX12_berth_45 : decode cX12_berth 45 = .ok (.invokestatic 49, 3) := by decide +kernel
theorem dX12_berth_48 : decode cX12_berth 48 = .ok (.ifCond .ne 7, 3) := by decide +kernel
theorem dX12_berth_51 : decode cX12_berth 51 = .ok (.iconst 1, 1) := by decide +kernel
theorem dX12_berth_52 : decode cX12_berth 52 = .ok (.goto 4, 3) := by decide +kernel
theorem dX12_berth_55 : decode cX12_berth 55 = .ok (.iconst 0, 1) := by decide +kernel
theorem dX12_berth_56 : decode cX12_berth 56 = .ok (.iconst 2, 1) := by decide +kernel
theorem dX12_berth_57 : decode cX12_berth 57 = .ok (.invokevirtual 69, 3) := by decide +kernel
theorem dX12_berth_60 : decode cX12_berth 60 = .ok (.ifCond .ne 29, 3) := by decide +kernel
theorem dX12_berth_63 : decode cX12_berth 63 = .ok (.aload_n 0, 1) := by decide +kernel
theorem dX12_berth_64 : decode cX12_berth 64 = .ok (.aload_n 0, 1) := by decide +kernel
theorem dX12_berth_65 : decode cX12_berth 65 = .ok (.getfield 13, 3) := by decide +kernel
theorem dX12_berth_68 : decode cX12_berth 68 = .ok (.sipush 999, 3) := by decide +kernel
theorem dX12_berth_71 : decode cX12_berth 71 = .ok (.iaload, 1) := by decide +kernel
theorem dX12_berth_72 : decode cX12_berth 72 = .ok (.bipush 10, 2) := by decide +kernel
theorem dX12_berth_74 : decode cX12_berth 74 = .ok (.if_icmp .ne 7, 3) := by decide +kernel
theorem dX12_berth_77 : decode cX12_berth 77 = .ok (.iconst 1, 1) := by decide +kernel
theorem dX12_berth_78 : decode cX12_berth 78 = .ok (.goto 4, 3) := by decide +kernel
theorem dX12_berth_81 : decode cX12_berth 81 = .ok (.iconst 0, 1) := by decide +kernel
theorem dX12_berth_82 : decode cX12_berth 82 = .ok (.iconst 3, 1) := by decide +kernel
theorem dX12_berth_83 : decode cX12_berth 83 = .ok (.invokevirtual 69, 3) := by decide +kernel
theorem dX12_berth_86 : decode cX12_berth 86 = .ok (.ifCond .eq 5, 3) := by decide +kernel
theorem dX12_berth_89 : decode cX12_berth 89 = .ok (.iconst 0, 1) := by decide +kernel
theorem dX12_berth_90 : decode cX12_berth 90 = .ok (.ireturn, 1) := by decide +kernel
theorem dX12_berth_91 : decode cX12_berth 91 = .ok (.aload_n 0, 1) := by decide +kernel
theorem dX12_berth_92 : decode cX12_berth 92 = .ok (.getfield 13, 3) := by decide +kernel
theorem dX12_berth_95 : decode cX12_berth 95 = .ok (.sipush 999, 3) := by decide +kernel
theorem dX12_berth_98 : decode cX12_berth 98 = .ok (.iaload, 1) := by decide +kernel
theorem dX12_berth_99 : decode cX12_berth 99 = .ok (.istore 5, 2) := by decide +kernel
theorem dX12_berth_101 : decode cX12_berth 101 = .ok (.aload_n 0, 1) := by decide +kernel
theorem dX12_berth_102 : decode cX12_berth 102 = .ok (.getfield 13, 3) := by decide +kernel
theorem dX12_berth_105 : decode cX12_berth 105 = .ok (.sipush 999, 3) := by decide +kernel
theorem dX12_berth_108 : decode cX12_berth 108 = .ok (.dup2, 1) := by decide +kernel
theorem dX12_berth_109 : decode cX12_berth 109 = .ok (.iaload, 1) := by decide +kernel
theorem dX12_berth_110 : decode cX12_berth 110 = .ok (.iconst 1, 1) := by decide +kernel
theorem dX12_berth_111 : decode cX12_berth 111 = .ok (.iadd, 1) := by decide +kernel
theorem dX12_berth_112 : decode cX12_berth 112 = .ok (.iastore, 1) := by decide +kernel
theorem dX12_berth_113 : decode cX12_berth 113 = .ok (.aload_n 0, 1) := by decide +kernel
theorem dX12_berth_114 : decode cX12_berth 114 = .ok (.getfield 13, 3) := by decide +kernel
theorem dX12_berth_117 : decode cX12_berth 117 = .ok (.iload 5, 2) := by decide +kernel
theorem dX12_berth_119 : decode cX12_berth 119 = .ok (.iconst 0, 1) := by decide +kernel
theorem dX12_berth_120 : decode cX12_berth 120 = .ok (.invokestatic 100, 3) := by decide +kernel
theorem dX12_berth_123 : decode cX12_berth 123 = .ok (.iload_n 1, 1) := by decide +kernel
theorem dX12_berth_124 : decode cX12_berth 124 = .ok (.iastore, 1) := by decide +kernel
theorem dX12_berth_125 : decode cX12_berth 125 = .ok (.aload_n 0, 1) := by decide +kernel
theorem dX12_berth_126 : decode cX12_berth 126 = .ok (.getfield 13, 3) := by decide +kernel
theorem dX12_berth_129 : decode cX12_berth 129 = .ok (.iload 5, 2) := by decide +kernel
theorem dX12_berth_131 : decode cX12_berth 131 = .ok (.iconst 1, 1) := by decide +kernel
theorem dX12_berth_132 : decode cX12_berth 132 = .ok (.invokestatic 100, 3) := by decide +kernel
theorem dX12_berth_135 : decode cX12_berth 135 = .ok (.iload_n 2, 1) := by decide +kernel
theorem dX12_berth_136 : decode cX12_berth 136 = .ok (.iastore, 1) := by decide +kernel
theorem dX12_berth_137 : decode cX12_berth 137 = .ok (.aload_n 0, 1) := by decide +kernel
theorem dX12_berth_138 : decode cX12_berth 138 = .ok (.getfield 13, 3) := by decide +kernel
theorem dX12_berth_141 : decode cX12_berth 141 = .ok (.iload 5, 2) := by decide +kernel
theorem dX12_berth_143 : decode cX12_berth 143 = .ok (.iconst 2, 1) := by decide +kernel
theorem dX12_berth_144 : decode cX12_berth 144 = .ok (.invokestatic 100, 3) := by decide +kernel
theorem dX12_berth_147 : decode cX12_berth 147 = .ok (.iload_n 3, 1) := by decide +kernel
theorem dX12_berth_148 : decode cX12_berth 148 = .ok (.iastore, 1) := by decide +kernel
theorem dX12_berth_149 : decode cX12_berth 149 = .ok (.aload_n 0, 1) := by decide +kernel
theorem dX12_berth_150 : decode cX12_berth 150 = .ok (.getfield 13, 3) := by decide +kernel
theorem dX12_berth_153 : decode cX12_berth 153 = .ok (.iload 5, 2) := by decide +kernel
theorem dX12_berth_155 : decode cX12_berth 155 = .ok (.iconst 3, 1) := by decide +kernel
theorem dX12_berth_156 : decode cX12_berth 156 = .ok (.invokestatic 100, 3) := by decide +kernel
theorem dX12_berth_159 : decode cX12_berth 159 = .ok (.iload 4, 2) := by decide +kernel
theorem dX12_berth_161 : decode cX12_berth 161 = .ok (.iastore, 1) := by decide +kernel
theorem dX12_berth_162 : decode cX12_berth 162 = .ok (.aload_n 0, 1) := by decide +kernel
theorem dX12_berth_163 : decode cX12_berth 163 = .ok (.getfield 13, 3) := by decide +kernel
theorem dX12_berth_166 : decode cX12_berth 166 = .ok (.iload 5, 2) := by decide +kernel
theorem dX12_berth_168 : decode cX12_berth 168 = .ok (.bipush 6, 2) := by decide +kernel
theorem dX12_berth_170 : decode cX12_berth 170 = .ok (.invokestatic 100, 3) := by decide +kernel
theorem dX12_berth_173 : decode cX12_berth 173 = .ok (.iconst (-1), 1) := by decide +kernel
theorem dX12_berth_174 : decode cX12_berth 174 = .ok (.iastore, 1) := by decide +kernel
theorem dX12_berth_175 : decode cX12_berth 175 = .ok (.iload 5, 2) := by decide +kernel
theorem dX12_berth_177 : decode cX12_berth 177 = .ok (.ireturn, 1) := by decide +kernel
def o_r_berth (s : rs_S) (c p v l : Int32) : Option Value × rs_S := (if nI 0 ≤ (c) ∧ (c) ≤ nI 23 then (if (nI (1)) ≤ (p) ∧ (p) ≤ (nI (900)) then (if (nI (1)) ≤ (v) ∧ (v) ≤ (nI (500)) then (if (nI (1)) ≤ (l) ∧ (l) ≤ (nI (50000)) then (if wn s.2.1 999 = 10 then (some (.int (nI (0))), (va_up (va_up (s.1) 0 (nI (0))) 0 (nI 3), s.2.1, s.2.2)) else (some (.int (nI (wn s.2.1 999))), (va_up (s.1) 0 (nI (0)), upd (upd (upd (upd (upd (upd (s.2.1) (999) (nI (wn s.2.1 999 + 1))) (1000 + (8) * (wn s.2.1 999) + 0) (c)) (1000 + (8) * (wn s.2.1 999) + 1) (p)) (1000 + (8) * (wn s.2.1 999) + 2) (v)) (1000 + (8) * (wn s.2.1 999) + 3) (l)) (1000 + (8) * (wn s.2.1 999) + 6) (-1), s.2.2))) else (some (.int (nI (0))), (va_up (va_up (s.1) 0 (nI (0))) 0 (nI 2), s.2.1, s.2.2))) else (some (.int (nI (0))), (va_up (va_up (s.1) 0 (nI (0))) 0 (nI 2), s.2.1, s.2.2))) else (some (.int (nI (0))), (va_up (va_up (s.1) 0 (nI (0))) 0 (nI 2), s.2.1, s.2.2))) else (some (.int (nI (0))), (va_up (va_up (s.1) 0 (nI (0))) 0 (nI 1), s.2.1, s.2.2)))
set_option maxHeartbeats 2000000 in
theorem r_berth {Γ : jg_G} {g : Nat → jg_C} {n r : Nat} (hr : r + 11 ≤ n) (s : rs_S) (c p v l : Int32) (hc : wb s.2.1 999 10) : jc Γ mX12_berth 2 0 0 [some (.ref (r)), some (.int (c)), some (.int (p)), some (.int (v)), some (.int (l)), none] (rs_h g r s, n) (.inl (o_r_berth s c p v l).1) (rs_h g r (o_r_berth s c p v l).2, n) := by
  refine jc_of ?_
  have hc_2 := hc.2
  refine jg_aload_n dX12_berth_0 rfl ?_
  refine jn_iconst (k := 0) dX12_berth_1 (by decide) ?_
  refine rs_put (x := (nI (0))) (i' := va_up (s.1) 0 (nI (0))) fl_X12_3 dX12_berth_2 hr (by decide) (rfl) rfl rfl ?_
  refine jg_aload_n dX12_berth_5 rfl ?_
  refine jg_iload_n dX12_berth_6 rfl ?_
  by_cases c_1 : nI 0 ≤ (c) ∧ (c) ≤ nI 23
  · skip
    refine rs_callS (As := [.int (c)]) ks_X12_65 dX12_berth_7 rfl (by decide) (Nat.le_of_ble_eq_true rfl) rfl (by decide) (Nat.le_of_ble_eq_true rfl) (r_noCell_f (c) c_1) ?_
    refine jn_iconst (k := 1) dX12_berth_10 (by decide) ?_
    refine rs_call (As := [.int (nI (0)), .int (nI (1))]) kv_X12_69 dX12_berth_11 hr rfl rfl (by decide) (Nat.le_of_ble_eq_true rfl) rfl (by decide) (Nat.le_of_ble_eq_true rfl) (r_thr0 hr (va_up (s.1) 0 (nI (0)), s.2.1, s.2.2) 1) ?_
    refine jn_if_ne (x := 0) (tgt := 89) dX12_berth_14 (by decide) (by omega) (fun q9 => absurd q9 (by decide)) (fun _ => ?_)
    refine jg_aload_n dX12_berth_17 rfl ?_
    refine jg_iload_n dX12_berth_18 rfl ?_
    refine jn_iconst (k := 1) dX12_berth_19 (by decide) ?_
    refine jn_sipush (k := 900) dX12_berth_20 (by decide) ?_
    by_cases c_2 : (nI (1)) ≤ (p) ∧ (p) ≤ (nI (900))
    · skip
      refine rs_callS (As := [.int (p), .int (nI (1)), .int (nI (900))]) ks_X12_49 dX12_berth_23 rfl (by decide) (Nat.le_of_ble_eq_true rfl) rfl (by decide) (Nat.le_of_ble_eq_true rfl) (r_in_t (p) (nI (1)) (nI (900)) c_2) ?_
      refine jn_if_eq (x := 1) (tgt := 51) dX12_berth_26 (by decide) (by omega) (fun q9 => absurd q9 (by decide)) (fun _ => ?_)
      refine jg_iload_n dX12_berth_29 rfl ?_
      refine jn_iconst (k := 1) dX12_berth_30 (by decide) ?_
      refine jn_sipush (k := 500) dX12_berth_31 (by decide) ?_
      by_cases c_3 : (nI (1)) ≤ (v) ∧ (v) ≤ (nI (500))
      · skip
        refine rs_callS (As := [.int (v), .int (nI (1)), .int (nI (500))]) ks_X12_49 dX12_berth_34 rfl (by decide) (Nat.le_of_ble_eq_true rfl) rfl (by decide) (Nat.le_of_ble_eq_true rfl) (r_in_t (v) (nI (1)) (nI (500)) c_3) ?_
        refine jn_if_eq (x := 1) (tgt := 51) dX12_berth_37 (by decide) (by omega) (fun q9 => absurd q9 (by decide)) (fun _ => ?_)
        refine jg_iload dX12_berth_40 rfl ?_
        refine jn_iconst (k := 1) dX12_berth_42 (by decide) ?_
        refine jg_ldc kk_X12_103 dX12_berth_43 ?_
        rw [show (50000 : Int32) = nI 50000 from rfl]
        by_cases c_4 : (nI (1)) ≤ (l) ∧ (l) ≤ (nI (50000))
        · skip
          refine rs_callS (As := [.int (l), .int (nI (1)), .int (nI (50000))]) ks_X12_49 dX12_berth_45 rfl (by decide) (Nat.le_of_ble_eq_true rfl) rfl (by decide) (Nat.le_of_ble_eq_true rfl) (r_in_t (l) (nI (1)) (nI (50000)) c_4) ?_
          refine jn_if_ne (x := 1) (tgt := 55) dX12_berth_48 (by decide) (by omega) (fun _ => ?_) (fun q9 => absurd q9 (by decide))
          refine jn_iconst (k := 0) dX12_berth_55 (by decide) ?_
          refine jn_iconst (k := 2) dX12_berth_56 (by decide) ?_
          refine rs_call (As := [.int (nI (0)), .int (nI (2))]) kv_X12_69 dX12_berth_57 hr rfl rfl (by decide) (Nat.le_of_ble_eq_true rfl) rfl (by decide) (Nat.le_of_ble_eq_true rfl) (r_thr0 hr (va_up (s.1) 0 (nI (0)), s.2.1, s.2.2) 2) ?_
          refine jn_if_ne (x := 0) (tgt := 89) dX12_berth_60 (by decide) (by omega) (fun q9 => absurd q9 (by decide)) (fun _ => ?_)
          refine jg_aload_n dX12_berth_63 rfl ?_
          refine jg_aload_n dX12_berth_64 rfl ?_
          refine rs_ga fl_X12_13 dX12_berth_65 hr rfl ?_
          refine jn_sipush (k := 999) dX12_berth_68 (by decide) ?_
          refine rs_lwN (i := 999) (x := (nI (wn s.2.1 999))) (hc.1) dX12_berth_71 hr (by omega) ?_
          refine jn_bipush (k := 10) dX12_berth_72 (by decide) ?_
          refine jn_icmp_ne (x := wn s.2.1 999) (y := 10) (tgt := 81) dX12_berth_74 (by decide) (by omega) (by omega) (fun c_5 => ?_) (fun c_5 => ?_)
          · skip
            refine jn_iconst (k := 0) dX12_berth_81 (by decide) ?_
            refine jn_iconst (k := 3) dX12_berth_82 (by decide) ?_
            refine rs_call (As := [.int (nI (0)), .int (nI (3))]) kv_X12_69 dX12_berth_83 hr rfl rfl (by decide) (Nat.le_of_ble_eq_true rfl) rfl (by decide) (Nat.le_of_ble_eq_true rfl) (r_thr0 hr (va_up (s.1) 0 (nI (0)), s.2.1, s.2.2) 3) ?_
            refine jn_if_eq (x := 0) (tgt := 91) dX12_berth_86 (by decide) (by omega) (fun _ => ?_) (fun q9 => absurd q9 (by decide))
            refine jg_aload_n dX12_berth_91 rfl ?_
            refine rs_ga fl_X12_13 dX12_berth_92 hr rfl ?_
            refine jn_sipush (k := 999) dX12_berth_95 (by decide) ?_
            refine rs_lwN (i := 999) (x := (nI (wn s.2.1 999))) (hc.1) dX12_berth_98 hr (by omega) ?_
            refine jg_istore (L' := [some (.ref (r)), some (.int (c)), some (.int (p)), some (.int (v)), some (.int (l)), some (.int (nI (wn s.2.1 999)))]) dX12_berth_99 (by decide) rfl ?_
            refine jg_aload_n dX12_berth_101 rfl ?_
            refine rs_ga fl_X12_13 dX12_berth_102 hr rfl ?_
            refine jn_sipush (k := 999) dX12_berth_105 (by decide) ?_
            refine jg_dup2 dX12_berth_108 rfl rfl ?_
            refine rs_lwN (i := 999) (x := (nI (wn s.2.1 999))) (hc.1) dX12_berth_109 hr (by omega) ?_
            refine jn_iconst (k := 1) dX12_berth_110 (by decide) ?_
            refine jn_iadd (x := wn s.2.1 999) (y := 1) dX12_berth_111  ?_
            refine rs_sw (i := 999) (x := (nI (wn s.2.1 999 + 1))) dX12_berth_112 hr (by omega) ?_
            refine jg_aload_n dX12_berth_113 rfl ?_
            refine rs_ga fl_X12_13 dX12_berth_114 hr rfl ?_
            refine jg_iload dX12_berth_117 rfl ?_
            refine jn_iconst (k := 0) dX12_berth_119 (by decide) ?_
            refine rs_callS (As := [.int (nI (wn s.2.1 999)), .int (nI (0))]) ks_X12_100 dX12_berth_120 rfl (by decide) (Nat.le_of_ble_eq_true rfl) rfl (by decide) (Nat.le_of_ble_eq_true rfl) (r_berthAt (wn s.2.1 999) (0)) ?_
            refine jg_iload_n dX12_berth_123 rfl ?_
            refine rs_sw (i := 1000 + (8) * (wn s.2.1 999) + 0) (x := (c)) dX12_berth_124 hr (by omega) ?_
            refine jg_aload_n dX12_berth_125 rfl ?_
            refine rs_ga fl_X12_13 dX12_berth_126 hr rfl ?_
            refine jg_iload dX12_berth_129 rfl ?_
            refine jn_iconst (k := 1) dX12_berth_131 (by decide) ?_
            refine rs_callS (As := [.int (nI (wn s.2.1 999)), .int (nI (1))]) ks_X12_100 dX12_berth_132 rfl (by decide) (Nat.le_of_ble_eq_true rfl) rfl (by decide) (Nat.le_of_ble_eq_true rfl) (r_berthAt (wn s.2.1 999) (1)) ?_
            refine jg_iload_n dX12_berth_135 rfl ?_
            refine rs_sw (i := 1000 + (8) * (wn s.2.1 999) + 1) (x := (p)) dX12_berth_136 hr (by omega) ?_
            refine jg_aload_n dX12_berth_137 rfl ?_
            refine rs_ga fl_X12_13 dX12_berth_138 hr rfl ?_
            refine jg_iload dX12_berth_141 rfl ?_
            refine jn_iconst (k := 2) dX12_berth_143 (by decide) ?_
            refine rs_callS (As := [.int (nI (wn s.2.1 999)), .int (nI (2))]) ks_X12_100 dX12_berth_144 rfl (by decide) (Nat.le_of_ble_eq_true rfl) rfl (by decide) (Nat.le_of_ble_eq_true rfl) (r_berthAt (wn s.2.1 999) (2)) ?_
            refine jg_iload_n dX12_berth_147 rfl ?_
            refine rs_sw (i := 1000 + (8) * (wn s.2.1 999) + 2) (x := (v)) dX12_berth_148 hr (by omega) ?_
            refine jg_aload_n dX12_berth_149 rfl ?_
            refine rs_ga fl_X12_13 dX12_berth_150 hr rfl ?_
            refine jg_iload dX12_berth_153 rfl ?_
            refine jn_iconst (k := 3) dX12_berth_155 (by decide) ?_
            refine rs_callS (As := [.int (nI (wn s.2.1 999)), .int (nI (3))]) ks_X12_100 dX12_berth_156 rfl (by decide) (Nat.le_of_ble_eq_true rfl) rfl (by decide) (Nat.le_of_ble_eq_true rfl) (r_berthAt (wn s.2.1 999) (3)) ?_
            refine jg_iload dX12_berth_159 rfl ?_
            refine rs_sw (i := 1000 + (8) * (wn s.2.1 999) + 3) (x := (l)) dX12_berth_161 hr (by omega) ?_
            refine jg_aload_n dX12_berth_162 rfl ?_
            refine rs_ga fl_X12_13 dX12_berth_163 hr rfl ?_
            refine jg_iload dX12_berth_166 rfl ?_
            refine jn_bipush (k := 6) dX12_berth_168 (by decide) ?_
            refine rs_callS (As := [.int (nI (wn s.2.1 999)), .int (nI (6))]) ks_X12_100 dX12_berth_170 rfl (by decide) (Nat.le_of_ble_eq_true rfl) rfl (by decide) (Nat.le_of_ble_eq_true rfl) (r_berthAt (wn s.2.1 999) (6)) ?_
            refine jg_iconst (v := -1) dX12_berth_173 (by decide) ?_
            refine rs_sw (i := 1000 + (8) * (wn s.2.1 999) + 6) (x := (-1)) dX12_berth_174 hr (by omega) ?_
            refine jg_iload dX12_berth_175 rfl ?_
            exact jg_ireturn dX12_berth_177 rfl ⟨by simp only [o_r_berth, if_pos c_1, if_pos c_2, if_pos c_3, if_pos c_4, if_neg c_5], by simp only [o_r_berth, if_pos c_1, if_pos c_2, if_pos c_3, if_pos c_4, if_neg c_5]⟩
          · skip
            refine jn_iconst (k := 1) dX12_berth_77 (by decide) ?_
            refine jg_goto (tgt := 82) dX12_berth_78 (by decide) ?_
            refine jn_iconst (k := 3) dX12_berth_82 (by decide) ?_
            refine rs_call (As := [.int (nI (1)), .int (nI (3))]) kv_X12_69 dX12_berth_83 hr rfl rfl (by decide) (Nat.le_of_ble_eq_true rfl) rfl (by decide) (Nat.le_of_ble_eq_true rfl) (r_thr1 hr (va_up (s.1) 0 (nI (0)), s.2.1, s.2.2) 3) ?_
            refine jn_if_eq (x := 1) (tgt := 91) dX12_berth_86 (by decide) (by omega) (fun q9 => absurd q9 (by decide)) (fun _ => ?_)
            refine jn_iconst (k := 0) dX12_berth_89 (by decide) ?_
            exact jg_ireturn dX12_berth_90 rfl ⟨by simp only [o_r_berth, if_pos c_1, if_pos c_2, if_pos c_3, if_pos c_4, if_pos c_5], by simp only [o_r_berth, if_pos c_1, if_pos c_2, if_pos c_3, if_pos c_4, if_pos c_5]⟩
        · skip
          refine rs_callS (As := [.int (l), .int (nI (1)), .int (nI (50000))]) ks_X12_49 dX12_berth_45 rfl (by decide) (Nat.le_of_ble_eq_true rfl) rfl (by decide) (Nat.le_of_ble_eq_true rfl) (r_in_f (l) (nI (1)) (nI (50000)) c_4) ?_
          refine jn_if_ne (x := 0) (tgt := 55) dX12_berth_48 (by decide) (by omega) (fun q9 => absurd q9 (by decide)) (fun _ => ?_)
          refine jn_iconst (k := 1) dX12_berth_51 (by decide) ?_
          refine jg_goto (tgt := 56) dX12_berth_52 (by decide) ?_
          refine jn_iconst (k := 2) dX12_berth_56 (by decide) ?_
          refine rs_call (As := [.int (nI (1)), .int (nI (2))]) kv_X12_69 dX12_berth_57 hr rfl rfl (by decide) (Nat.le_of_ble_eq_true rfl) rfl (by decide) (Nat.le_of_ble_eq_true rfl) (r_thr1 hr (va_up (s.1) 0 (nI (0)), s.2.1, s.2.2) 2) ?_
          refine jn_if_ne (x := 1) (tgt := 89) dX12_berth_60 (by decide) (by omega) (fun _ => ?_) (fun q9 => absurd q9 (by decide))
          refine jn_iconst (k := 0) dX12_berth_89 (by decide) ?_
          exact jg_ireturn dX12_berth_90 rfl ⟨by simp only [o_r_berth, if_pos c_1, if_pos c_2, if_pos c_3, if_neg c_4], by simp only [o_r_berth, if_pos c_1, if_pos c_2, if_pos c_3, if_neg c_4]⟩
      · skip
        refine rs_callS (As := [.int (v), .int (nI (1)), .int (nI (500))]) ks_X12_49 dX12_berth_34 rfl (by decide) (Nat.le_of_ble_eq_true rfl) rfl (by decide) (Nat.le_of_ble_eq_true rfl) (r_in_f (v) (nI (1)) (nI (500)) c_3) ?_
        refine jn_if_eq (x := 0) (tgt := 51) dX12_berth_37 (by decide) (by omega) (fun _ => ?_) (fun q9 => absurd q9 (by decide))
        refine jn_iconst (k := 1) dX12_berth_51 (by decide) ?_
        refine jg_goto (tgt := 56) dX12_berth_52 (by decide) ?_
        refine jn_iconst (k := 2) dX12_berth_56 (by decide) ?_
        refine rs_call (As := [.int (nI (1)), .int (nI (2))]) kv_X12_69 dX12_berth_57 hr rfl rfl (by decide) (Nat.le_of_ble_eq_true rfl) rfl (by decide) (Nat.le_of_ble_eq_true rfl) (r_thr1 hr (va_up (s.1) 0 (nI (0)), s.2.1, s.2.2) 2) ?_
        refine jn_if_ne (x := 1) (tgt := 89) dX12_berth_60 (by decide) (by omega) (fun _ => ?_) (fun q9 => absurd q9 (by decide))
        refine jn_iconst (k := 0) dX12_berth_89 (by decide) ?_
        exact jg_ireturn dX12_berth_90 rfl ⟨by simp only [o_r_berth, if_pos c_1, if_pos c_2, if_neg c_3], by simp only [o_r_berth, if_pos c_1, if_pos c_2, if_neg c_3]⟩
    · skip
      refine rs_callS (As := [.int (p), .int (nI (1)), .int (nI (900))]) ks_X12_49 dX12_berth_23 rfl (by decide) (Nat.le_of_ble_eq_true rfl) rfl (by decide) (Nat.le_of_ble_eq_true rfl) (r_in_f (p) (nI (1)) (nI (900)) c_2) ?_
      refine jn_if_eq (x := 0) (tgt := 51) dX12_berth_26 (by decide) (by omega) (fun _ => ?_) (fun q9 => absurd q9 (by decide))
      refine jn_iconst (k := 1) dX12_berth_51 (by decide) ?_
      refine jg_goto (tgt := 56) dX12_berth_52 (by decide) ?_
      refine jn_iconst (k := 2) dX12_berth_56 (by decide) ?_
      refine rs_call (As := [.int (nI (1)), .int (nI (2))]) kv_X12_69 dX12_berth_57 hr rfl rfl (by decide) (Nat.le_of_ble_eq_true rfl) rfl (by decide) (Nat.le_of_ble_eq_true rfl) (r_thr1 hr (va_up (s.1) 0 (nI (0)), s.2.1, s.2.2) 2) ?_
      refine jn_if_ne (x := 1) (tgt := 89) dX12_berth_60 (by decide) (by omega) (fun _ => ?_) (fun q9 => absurd q9 (by decide))
      refine jn_iconst (k := 0) dX12_berth_89 (by decide) ?_
      exact jg_ireturn dX12_berth_90 rfl ⟨by simp only [o_r_berth, if_pos c_1, if_neg c_2], by simp only [o_r_berth, if_pos c_1, if_neg c_2]⟩
  · skip
    refine rs_callS (As := [.int (c)]) ks_X12_65 dX12_berth_7 rfl (by decide) (Nat.le_of_ble_eq_true rfl) rfl (by decide) (Nat.le_of_ble_eq_true rfl) (r_noCell_t (c) c_1) ?_
    refine jn_iconst (k := 1) dX12_berth_10 (by decide) ?_
    refine rs_call (As := [.int (nI (1)), .int (nI (1))]) kv_X12_69 dX12_berth_11 hr rfl rfl (by decide) (Nat.le_of_ble_eq_true rfl) rfl (by decide) (Nat.le_of_ble_eq_true rfl) (r_thr1 hr (va_up (s.1) 0 (nI (0)), s.2.1, s.2.2) 1) ?_
    refine jn_if_ne (x := 1) (tgt := 89) dX12_berth_14 (by decide) (by omega) (fun _ => ?_) (fun q9 => absurd q9 (by decide))
    refine jn_iconst (k := 0) dX12_berth_89 (by decide) ?_
    exact jg_ireturn dX12_berth_90 rfl ⟨by simp only [o_r_berth, if_neg c_1], by simp only [o_r_berth, if_neg c_1]⟩
theorem dX12_work_0 : decode cX12_work 0 = .ok (.aload_n 0, 1) := by decide +kernel
theorem dX12_work_1 : decode cX12_work 1 = .ok (.iconst 0, 1) := by decide +kernel
theorem dX12_work_2 : decode cX12_work 2 = .ok (.putfield 3, 3) := by decide +kernel
theorem dX12_work_5 : decode cX12_work 5 = .ok (.aload_n 0, 1) := by decide +kernel
theorem dX12_work_6 : decode cX12_work 6 = .ok (.iload_n 1, 1) := by decide +kernel
theorem dX12_work_7 : decode cX12_work 7 = .ok (.iconst 0, 1) := by decide +kernel
theorem dX12_work_8 : decode cX12_work 8 = .ok (.ldc 110, 2) := by decide +kernel
theorem dX12_work_10 : decode cX12_work 10 = .ok (.invokestatic 49, 3) := by decide +kernel
theorem dX12_work_13 : decode cX12_work 13 = .ok (.ifCond .eq 35, 3) := by decide +kernel
theorem dX12_work_16 : decode cX12_work 16 = .ok (.iload_n 2, 1) := by decide +kernel
theorem dX12_work_17 : decode cX12_work 17 = .ok (.iconst 0, 1) := by decide +kernel
theorem dX12_work_18 : decode cX12_work 18 = .ok (.ldc_w 411, 3) := by decide +kernel
theorem dX12_work_21 : decode cX12_work 21 = .ok (.invokestatic 49, 3) := by decide +kernel
theorem dX12_work_24 : decode cX12_work 24 = .ok (.ifCond .eq 24, 3) := by decide +kernel
theorem dX12_work_27 : decode cX12_work 27 = .ok (.iload_n 3, 1) := by decide +kernel
theorem dX12_work_28 : decode cX12_work 28 = .ok (.iconst 0, 1) := by decide +kernel
theorem dX12_work_29 : decode cX12_work 29 = .ok (.bipush 29, 2) := by decide +kernel
theorem dX12_work_31 : decode cX12_work 31 = .ok (.invokestatic 49, 3) := by decide +kernel
theorem dX12_work_34 : decode cX12_work 34 = .ok (.ifCond .eq 14, 3) := by decide +kernel
theorem dX12_work_37 : decode cX12_work 37 = .ok (.iload 4, 2) := by decide +kernel
theorem dX12_work_39 : decode cX12_work 39 = .ok (.iconst 0, 1) := by decide +kernel
theorem dX12_work_40 : decode cX12_work 40 = .ok (.bipush 100, 2) := by decide +kernel
theorem dX12_work_42 : decode cX12_work 42 = .ok (.invokestatic 49, 3) := by decide +kernel
theorem dX12_work_45 : decode cX12_work 45 = .ok (.ifCond .ne 7, 3) := by decide +kernel
theorem dX12_work_48 : decode cX12_work 48 = .ok (.iconst 1, 1) := by decide +kernel
theorem dX12_work_49 : decode cX12_work 49 = .ok (.goto 4, 3) := by decide +kernel
theorem dX12_work_52 : decode cX12_work 52 = .ok (.iconst 0, 1) := by decide +kernel
theorem dX12_work_53 : decode cX12_work 53 = .ok (.iconst 1, 1) := by decide +kernel
theorem dX12_work_54 : decode cX12_work 54 = .ok (.invokevirtual 69, 3) := by decide +kernel
theorem dX12_work_57 : decode cX12_work 57 = .ok (.ifCond .eq 5, 3) := by decide +kernel
theorem dX12_work_60 : decode cX12_work 60 = .ok (.iconst 0, 1) := by decide +kernel
theorem dX12_work_61 : decode cX12_work 61 = .ok (.ireturn, 1) := by decide +kernel
theorem dX12_work_62 : decode cX12_work 62 = .ok (.aload_n 0, 1) := by decide +kernel
theorem dX12_work_63 : decode cX12_work 63 = .ok (.getfield 13, 3) := by decide +kernel
theorem dX12_work_66 : decode cX12_work 66 = .ok (.sipush 2786, 3) := by decide +kernel
theorem dX12_work_69 : decode cX12_work 69 = .ok (.iaload, 1) := by decide +kernel
theorem dX12_work_70 : decode cX12_work 70 = .ok (.istore 5, 2) := by decide +kernel
theorem dX12_work_72 : decode cX12_work 72 = .ok (.iload 5, 2) := by decide +kernel
theorem dX12_work_74 : decode cX12_work 74 = .ok (.bipush 6, 2) := by decide +kernel
theorem dX12_work_76 : decode cX12_work 76 = .ok (.if_icmp .ne 5, 3) := by decide +kernel
theorem dX12_work_79 : decode cX12_work 79 = .ok (.iconst (-1), 1) := by decide +kernel
theorem dX12_work_80 : decode cX12_work 80 = .ok (.ireturn, 1) := by decide +kernel
theorem dX12_work_81 : decode cX12_work 81 = .ok (.aload_n 0, 1) := by decide +kernel
theorem dX12_work_82 : decode cX12_work 82 = .ok (.getfield 13, 3) := by decide +kernel
theorem dX12_work_85 : decode cX12_work 85 = .ok (.sipush 2787, 3) := by decide +kernel
theorem dX12_work_88 : decode cX12_work 88 = .ok (.iconst 4, 1) := by decide +kernel
theorem dX12_work_89 : decode cX12_work 89 = .ok (.iload 5, 2) := by decide +kernel
theorem dX12_work_91 : decode cX12_work 91 = .ok (.imul, 1) := by decide +kernel
theorem dX12_work_92 : decode cX12_work 92 = .ok (.iadd, 1) := by decide +kernel
theorem dX12_work_93 : decode cX12_work 93 = .ok (.iload_n 1, 1) := by decide +kernel
theorem dX12_work_94 : decode cX12_work 94 = .ok (.iastore, 1) := by decide +kernel
theorem dX12_work_95 : decode cX12_work 95 = .ok (.aload_n 0, 1) := by decide +kernel
theorem dX12_work_96 : decode cX12_work 96 = .ok (.getfield 13, 3) := by decide +kernel
theorem dX12_work_99 : decode cX12_work 99 = .ok (.sipush 2787, 3) := by decide +kernel
theorem dX12_work_102 : decode cX12_work 102 = .ok (.iconst 4, 1) := by decide +kernel
theorem dX12_work_103 : decode cX12_work 103 = .ok (.iload 5, 2) := by decide +kernel
theorem dX12_work_105 : decode cX12_work 105 = .ok (.imul, 1) := by decide +kernel
theorem dX12_work_106 : decode cX12_work 106 = .ok (.iadd, 1) := by decide +kernel
theorem dX12_work_107 : decode cX12_work 107 = .ok (.iconst 1, 1) := by decide +kernel
theorem dX12_work_108 : decode cX12_work 108 = .ok (.iadd, 1) := by decide +kernel
theorem dX12_work_109 : decode cX12_work 109 = .ok (.iload_n 2, 1) := by decide +kernel
theorem dX12_work_110 : decode cX12_work 110 = .ok (.bipush 100, 2) := by decide +kernel
theorem dX12_work_112 : decode cX12_work 112 = .ok (.iload 4, 2) := by decide +kernel
theorem dX12_work_114 : decode cX12_work 114 = .ok (.isub, 1) := by decide +kernel
theorem dX12_work_115 : decode cX12_work 115 = .ok (.imul, 1) := by decide +kernel
theorem dX12_work_116 : decode cX12_work 116 = .ok (.bipush 100, 2) := by decide +kernel
theorem dX12_work_118 : decode cX12_work 118 = .ok (.idiv, 1) := by decide +kernel
theorem dX12_work_119 : decode cX12_work 119 = .ok (.iastore, 1) := by decide +kernel
theorem dX12_work_120 : decode cX12_work 120 = .ok (.aload_n 0, 1) := by decide +kernel
theorem dX12_work_121 : decode cX12_work 121 = .ok (.getfield 13, 3) := by decide +kernel
theorem dX12_work_124 : decode cX12_work 124 = .ok (.sipush 2787, 3) := by decide +kernel
theorem dX12_work_127 : decode cX12_work 127 = .ok (.iconst 4, 1) := by decide +kernel
theorem dX12_work_128 : decode cX12_work 128 = .ok (.iload 5, 2) := by decide +kernel
theorem dX12_work_130 : decode cX12_work 130 = .ok (.imul, 1) := by decide +kernel
theorem dX12_work_131 : decode cX12_work 131 = .ok (.iadd, 1) := by decide +kernel
theorem dX12_work_132 : decode cX12_work 132 = .ok (.iconst 2, 1) := by decide +kernel
theorem dX12_work_133 : decode cX12_work 133 = .ok (.iadd, 1) := by decide +kernel
theorem dX12_work_134 : decode cX12_work 134 = .ok (.iload_n 3, 1) := by decide +kernel
theorem dX12_work_135 : decode cX12_work 135 = .ok (.iastore, 1) := by decide +kernel
theorem dX12_work_136 : decode cX12_work 136 = .ok (.aload_n 0, 1) := by decide +kernel
theorem dX12_work_137 : decode cX12_work 137 = .ok (.getfield 13, 3) := by decide +kernel
theorem dX12_work_140 : decode cX12_work 140 = .ok (.sipush 2786, 3) := by decide +kernel
theorem dX12_work_143 : decode cX12_work 143 = .ok (.dup2, 1) := by decide +kernel
theorem dX12_work_144 : decode cX12_work 144 = .ok (.iaload, 1) := by decide +kernel
theorem dX12_work_145 : decode cX12_work 145 = .ok (.iconst 1, 1) := by decide +kernel
theorem dX12_work_146 : decode cX12_work 146 = .ok (.iadd, 1) := by decide +kernel
theorem dX12_work_147 : decode cX12_work 147 = .ok (.iastore, 1) := by decide +kernel
theorem dX12_work_148 : decode cX12_work 148 = .ok (.iload 5, 2) := by decide +kernel
theorem dX12_work_150 : decode cX12_work 150 = .ok (.iconst 1, 1) := by decide +kernel
theorem dX12_work_151 : decode cX12_work 151 = .ok (.iadd, 1) := by decide +kernel
theorem dX12_work_152 : decode cX12_work 152 = .ok (.ireturn, 1) := by decide +kernel
def o_r_work (s : rs_S) (c p v l : Int32) : Option Value × rs_S := (if (nI (0)) ≤ (c) ∧ (c) ≤ (nI (1000000)) then (if (nI (0)) ≤ (p) ∧ (p) ≤ (nI (100000)) then (if (nI (0)) ≤ (v) ∧ (v) ≤ (nI (29)) then (if (nI (0)) ≤ (l) ∧ (l) ≤ (nI (100)) then (if wn s.2.1 2786 = 6 then (some (.int (-1)), (va_up (s.1) 0 (nI (0)), s.2.1, s.2.2)) else (some (.int (nI (wn s.2.1 2786 + 1))), (va_up (s.1) 0 (nI (0)), upd (upd (upd (upd (s.2.1) (2787 + (4) * (wn s.2.1 2786)) (c)) (2787 + (4) * (wn s.2.1 2786) + 1) (((((p) * (((nI (100)) - (l))))) / (nI (100))))) (2787 + (4) * (wn s.2.1 2786) + 2) (v)) (2786) (nI (wn s.2.1 2786 + 1)), s.2.2))) else (some (.int (nI (0))), (va_up (va_up (s.1) 0 (nI (0))) 0 (nI 1), s.2.1, s.2.2))) else (some (.int (nI (0))), (va_up (va_up (s.1) 0 (nI (0))) 0 (nI 1), s.2.1, s.2.2))) else (some (.int (nI (0))), (va_up (va_up (s.1) 0 (nI (0))) 0 (nI 1), s.2.1, s.2.2))) else (some (.int (nI (0))), (va_up (va_up (s.1) 0 (nI (0))) 0 (nI 1), s.2.1, s.2.2)))
set_option maxHeartbeats 2000000 in
theorem r_work {Γ : jg_G} {g : Nat → jg_C} {n r : Nat} (hr : r + 11 ≤ n) (s : rs_S) (c p v l : Int32) (hc : wb s.2.1 2786 6) : jc Γ mX12_work 2 0 0 [some (.ref (r)), some (.int (c)), some (.int (p)), some (.int (v)), some (.int (l)), none] (rs_h g r s, n) (.inl (o_r_work s c p v l).1) (rs_h g r (o_r_work s c p v l).2, n) := by
  refine jc_of ?_
  have hc_2 := hc.2
  refine jg_aload_n dX12_work_0 rfl ?_
  refine jn_iconst (k := 0) dX12_work_1 (by decide) ?_
  refine rs_put (x := (nI (0))) (i' := va_up (s.1) 0 (nI (0))) fl_X12_3 dX12_work_2 hr (by decide) (rfl) rfl rfl ?_
  refine jg_aload_n dX12_work_5 rfl ?_
  refine jg_iload_n dX12_work_6 rfl ?_
  refine jn_iconst (k := 0) dX12_work_7 (by decide) ?_
  refine jg_ldc kk_X12_110 dX12_work_8 ?_
  rw [show (1000000 : Int32) = nI 1000000 from rfl]
  by_cases c_1 : (nI (0)) ≤ (c) ∧ (c) ≤ (nI (1000000))
  · skip
    refine rs_callS (As := [.int (c), .int (nI (0)), .int (nI (1000000))]) ks_X12_49 dX12_work_10 rfl (by decide) (Nat.le_of_ble_eq_true rfl) rfl (by decide) (Nat.le_of_ble_eq_true rfl) (r_in_t (c) (nI (0)) (nI (1000000)) c_1) ?_
    refine jn_if_eq (x := 1) (tgt := 48) dX12_work_13 (by decide) (by omega) (fun q9 => absurd q9 (by decide)) (fun _ => ?_)
    refine jg_iload_n dX12_work_16 rfl ?_
    refine jn_iconst (k := 0) dX12_work_17 (by decide) ?_
    refine jg_ldcw kk_X12_411 dX12_work_18 ?_
    rw [show (100000 : Int32) = nI 100000 from rfl]
    by_cases c_2 : (nI (0)) ≤ (p) ∧ (p) ≤ (nI (100000))
    · skip
      refine rs_callS (As := [.int (p), .int (nI (0)), .int (nI (100000))]) ks_X12_49 dX12_work_21 rfl (by decide) (Nat.le_of_ble_eq_true rfl) rfl (by decide) (Nat.le_of_ble_eq_true rfl) (r_in_t (p) (nI (0)) (nI (100000)) c_2) ?_
      refine jn_if_eq (x := 1) (tgt := 48) dX12_work_24 (by decide) (by omega) (fun q9 => absurd q9 (by decide)) (fun _ => ?_)
      refine jg_iload_n dX12_work_27 rfl ?_
      refine jn_iconst (k := 0) dX12_work_28 (by decide) ?_
      refine jn_bipush (k := 29) dX12_work_29 (by decide) ?_
      by_cases c_3 : (nI (0)) ≤ (v) ∧ (v) ≤ (nI (29))
      · skip
        refine rs_callS (As := [.int (v), .int (nI (0)), .int (nI (29))]) ks_X12_49 dX12_work_31 rfl (by decide) (Nat.le_of_ble_eq_true rfl) rfl (by decide) (Nat.le_of_ble_eq_true rfl) (r_in_t (v) (nI (0)) (nI (29)) c_3) ?_
        refine jn_if_eq (x := 1) (tgt := 48) dX12_work_34 (by decide) (by omega) (fun q9 => absurd q9 (by decide)) (fun _ => ?_)
        refine jg_iload dX12_work_37 rfl ?_
        refine jn_iconst (k := 0) dX12_work_39 (by decide) ?_
        refine jn_bipush (k := 100) dX12_work_40 (by decide) ?_
        by_cases c_4 : (nI (0)) ≤ (l) ∧ (l) ≤ (nI (100))
        · skip
          refine rs_callS (As := [.int (l), .int (nI (0)), .int (nI (100))]) ks_X12_49 dX12_work_42 rfl (by decide) (Nat.le_of_ble_eq_true rfl) rfl (by decide) (Nat.le_of_ble_eq_true rfl) (r_in_t (l) (nI (0)) (nI (100)) c_4) ?_
          refine jn_if_ne (x := 1) (tgt := 52) dX12_work_45 (by decide) (by omega) (fun _ => ?_) (fun q9 => absurd q9 (by decide))
          refine jn_iconst (k := 0) dX12_work_52 (by decide) ?_
          refine jn_iconst (k := 1) dX12_work_53 (by decide) ?_
          refine rs_call (As := [.int (nI (0)), .int (nI (1))]) kv_X12_69 dX12_work_54 hr rfl rfl (by decide) (Nat.le_of_ble_eq_true rfl) rfl (by decide) (Nat.le_of_ble_eq_true rfl) (r_thr0 hr (va_up (s.1) 0 (nI (0)), s.2.1, s.2.2) 1) ?_
          refine jn_if_eq (x := 0) (tgt := 62) dX12_work_57 (by decide) (by omega) (fun _ => ?_) (fun q9 => absurd q9 (by decide))
          refine jg_aload_n dX12_work_62 rfl ?_
          refine rs_ga fl_X12_13 dX12_work_63 hr rfl ?_
          refine jn_sipush (k := 2786) dX12_work_66 (by decide) ?_
          refine rs_lwN (i := 2786) (x := (nI (wn s.2.1 2786))) (hc.1) dX12_work_69 hr (by omega) ?_
          refine jg_istore (L' := [some (.ref (r)), some (.int (c)), some (.int (p)), some (.int (v)), some (.int (l)), some (.int (nI (wn s.2.1 2786)))]) dX12_work_70 (by decide) rfl ?_
          refine jg_iload dX12_work_72 rfl ?_
          refine jn_bipush (k := 6) dX12_work_74 (by decide) ?_
          refine jn_icmp_ne (x := wn s.2.1 2786) (y := 6) (tgt := 81) dX12_work_76 (by decide) (by omega) (by omega) (fun c_5 => ?_) (fun c_5 => ?_)
          · skip
            refine jg_aload_n dX12_work_81 rfl ?_
            refine rs_ga fl_X12_13 dX12_work_82 hr rfl ?_
            refine jn_sipush (k := 2787) dX12_work_85 (by decide) ?_
            refine jn_iconst (k := 4) dX12_work_88 (by decide) ?_
            refine jg_iload dX12_work_89 rfl ?_
            refine jn_imul (x := 4) (y := wn s.2.1 2786) dX12_work_91  ?_
            refine jn_iadd (x := 2787) (y := (4) * (wn s.2.1 2786)) dX12_work_92  ?_
            refine jg_iload_n dX12_work_93 rfl ?_
            refine rs_sw (i := 2787 + (4) * (wn s.2.1 2786)) (x := (c)) dX12_work_94 hr (by omega) ?_
            refine jg_aload_n dX12_work_95 rfl ?_
            refine rs_ga fl_X12_13 dX12_work_96 hr rfl ?_
            refine jn_sipush (k := 2787) dX12_work_99 (by decide) ?_
            refine jn_iconst (k := 4) dX12_work_102 (by decide) ?_
            refine jg_iload dX12_work_103 rfl ?_
            refine jn_imul (x := 4) (y := wn s.2.1 2786) dX12_work_105  ?_
            refine jn_iadd (x := 2787) (y := (4) * (wn s.2.1 2786)) dX12_work_106  ?_
            refine jn_iconst (k := 1) dX12_work_107 (by decide) ?_
            refine jn_iadd (x := 2787 + (4) * (wn s.2.1 2786)) (y := 1) dX12_work_108  ?_
            refine jg_iload_n dX12_work_109 rfl ?_
            refine jn_bipush (k := 100) dX12_work_110 (by decide) ?_
            refine jg_iload dX12_work_112 rfl ?_
            refine jg_isub (x := (nI (100))) (y := (l)) dX12_work_114  ?_
            refine jg_imul (x := (p)) (y := (((nI (100)) - (l)))) dX12_work_115  ?_
            refine jn_bipush (k := 100) dX12_work_116 (by decide) ?_
            refine jg_idiv (x := (((p) * (((nI (100)) - (l)))))) (y := (nI (100))) dX12_work_118 (by decide) ?_
            refine rs_sw (i := 2787 + (4) * (wn s.2.1 2786) + 1) (x := (((((p) * (((nI (100)) - (l))))) / (nI (100))))) dX12_work_119 hr (by omega) ?_
            refine jg_aload_n dX12_work_120 rfl ?_
            refine rs_ga fl_X12_13 dX12_work_121 hr rfl ?_
            refine jn_sipush (k := 2787) dX12_work_124 (by decide) ?_
            refine jn_iconst (k := 4) dX12_work_127 (by decide) ?_
            refine jg_iload dX12_work_128 rfl ?_
            refine jn_imul (x := 4) (y := wn s.2.1 2786) dX12_work_130  ?_
            refine jn_iadd (x := 2787) (y := (4) * (wn s.2.1 2786)) dX12_work_131  ?_
            refine jn_iconst (k := 2) dX12_work_132 (by decide) ?_
            refine jn_iadd (x := 2787 + (4) * (wn s.2.1 2786)) (y := 2) dX12_work_133  ?_
            refine jg_iload_n dX12_work_134 rfl ?_
            refine rs_sw (i := 2787 + (4) * (wn s.2.1 2786) + 2) (x := (v)) dX12_work_135 hr (by omega) ?_
            refine jg_aload_n dX12_work_136 rfl ?_
            refine rs_ga fl_X12_13 dX12_work_137 hr rfl ?_
            refine jn_sipush (k := 2786) dX12_work_140 (by decide) ?_
            refine jg_dup2 dX12_work_143 rfl rfl ?_
            refine rs_lwN (i := 2786) (x := (nI (wn s.2.1 2786))) (by simp only [upd]; (repeat rw [if_neg (by omega)]); exact hc.1) dX12_work_144 hr (by omega) ?_
            refine jn_iconst (k := 1) dX12_work_145 (by decide) ?_
            refine jn_iadd (x := wn s.2.1 2786) (y := 1) dX12_work_146  ?_
            refine rs_sw (i := 2786) (x := (nI (wn s.2.1 2786 + 1))) dX12_work_147 hr (by omega) ?_
            refine jg_iload dX12_work_148 rfl ?_
            refine jn_iconst (k := 1) dX12_work_150 (by decide) ?_
            refine jn_iadd (x := wn s.2.1 2786) (y := 1) dX12_work_151  ?_
            exact jg_ireturn dX12_work_152 rfl ⟨by simp only [o_r_work, if_pos c_1, if_pos c_2, if_pos c_3, if_pos c_4, if_neg c_5], by simp only [o_r_work, if_pos c_1, if_pos c_2, if_pos c_3, if_pos c_4, if_neg c_5]⟩
          · skip
            refine jg_iconst (v := -1) dX12_work_79 (by decide) ?_
            exact jg_ireturn dX12_work_80 rfl ⟨by simp only [o_r_work, if_pos c_1, if_pos c_2, if_pos c_3, if_pos c_4, if_pos c_5], by simp only [o_r_work, if_pos c_1, if_pos c_2, if_pos c_3, if_pos c_4, if_pos c_5]⟩
        · skip
          refine rs_callS (As := [.int (l), .int (nI (0)), .int (nI (100))]) ks_X12_49 dX12_work_42 rfl (by decide) (Nat.le_of_ble_eq_true rfl) rfl (by decide) (Nat.le_of_ble_eq_true rfl) (r_in_f (l) (nI (0)) (nI (100)) c_4) ?_
          refine jn_if_ne (x := 0) (tgt := 52) dX12_work_45 (by decide) (by omega) (fun q9 => absurd q9 (by decide)) (fun _ => ?_)
          refine jn_iconst (k := 1) dX12_work_48 (by decide) ?_
          refine jg_goto (tgt := 53) dX12_work_49 (by decide) ?_
          refine jn_iconst (k := 1) dX12_work_53 (by decide) ?_
          refine rs_call (As := [.int (nI (1)), .int (nI (1))]) kv_X12_69 dX12_work_54 hr rfl rfl (by decide) (Nat.le_of_ble_eq_true rfl) rfl (by decide) (Nat.le_of_ble_eq_true rfl) (r_thr1 hr (va_up (s.1) 0 (nI (0)), s.2.1, s.2.2) 1) ?_
          refine jn_if_eq (x := 1) (tgt := 62) dX12_work_57 (by decide) (by omega) (fun q9 => absurd q9 (by decide)) (fun _ => ?_)
          refine jn_iconst (k := 0) dX12_work_60 (by decide) ?_
          exact jg_ireturn dX12_work_61 rfl ⟨by simp only [o_r_work, if_pos c_1, if_pos c_2, if_pos c_3, if_neg c_4], by simp only [o_r_work, if_pos c_1, if_pos c_2, if_pos c_3, if_neg c_4]⟩
      · skip
        refine rs_callS (As := [.int (v), .int (nI (0)), .int (nI (29))]) ks_X12_49 dX12_work_31 rfl (by decide) (Nat.le_of_ble_eq_true rfl) rfl (by decide) (Nat.le_of_ble_eq_true rfl) (r_in_f (v) (nI (0)) (nI (29)) c_3) ?_
        refine jn_if_eq (x := 0) (tgt := 48) dX12_work_34 (by decide) (by omega) (fun _ => ?_) (fun q9 => absurd q9 (by decide))
        refine jn_iconst (k := 1) dX12_work_48 (by decide) ?_
        refine jg_goto (tgt := 53) dX12_work_49 (by decide) ?_
        refine jn_iconst (k := 1) dX12_work_53 (by decide) ?_
        refine rs_call (As := [.int (nI (1)), .int (nI (1))]) kv_X12_69 dX12_work_54 hr rfl rfl (by decide) (Nat.le_of_ble_eq_true rfl) rfl (by decide) (Nat.le_of_ble_eq_true rfl) (r_thr1 hr (va_up (s.1) 0 (nI (0)), s.2.1, s.2.2) 1) ?_
        refine jn_if_eq (x := 1) (tgt := 62) dX12_work_57 (by decide) (by omega) (fun q9 => absurd q9 (by decide)) (fun _ => ?_)
        refine jn_iconst (k := 0) dX12_work_60 (by decide) ?_
        exact jg_ireturn dX12_work_61 rfl ⟨by simp only [o_r_work, if_pos c_1, if_pos c_2, if_neg c_3], by simp only [o_r_work, if_pos c_1, if_pos c_2, if_neg c_3]⟩
    · skip
      refine rs_callS (As := [.int (p), .int (nI (0)), .int (nI (100000))]) ks_X12_49 dX12_work_21 rfl (by decide) (Nat.le_of_ble_eq_true rfl) rfl (by decide) (Nat.le_of_ble_eq_true rfl) (r_in_f (p) (nI (0)) (nI (100000)) c_2) ?_
      refine jn_if_eq (x := 0) (tgt := 48) dX12_work_24 (by decide) (by omega) (fun _ => ?_) (fun q9 => absurd q9 (by decide))
      refine jn_iconst (k := 1) dX12_work_48 (by decide) ?_
      refine jg_goto (tgt := 53) dX12_work_49 (by decide) ?_
      refine jn_iconst (k := 1) dX12_work_53 (by decide) ?_
      refine rs_call (As := [.int (nI (1)), .int (nI (1))]) kv_X12_69 dX12_work_54 hr rfl rfl (by decide) (Nat.le_of_ble_eq_true rfl) rfl (by decide) (Nat.le_of_ble_eq_true rfl) (r_thr1 hr (va_up (s.1) 0 (nI (0)), s.2.1, s.2.2) 1) ?_
      refine jn_if_eq (x := 1) (tgt := 62) dX12_work_57 (by decide) (by omega) (fun q9 => absurd q9 (by decide)) (fun _ => ?_)
      refine jn_iconst (k := 0) dX12_work_60 (by decide) ?_
      exact jg_ireturn dX12_work_61 rfl ⟨by simp only [o_r_work, if_pos c_1, if_neg c_2], by simp only [o_r_work, if_pos c_1, if_neg c_2]⟩
  · skip
    refine rs_callS (As := [.int (c), .int (nI (0)), .int (nI (1000000))]) ks_X12_49 dX12_work_10 rfl (by decide) (Nat.le_of_ble_eq_true rfl) rfl (by decide) (Nat.le_of_ble_eq_true rfl) (r_in_f (c) (nI (0)) (nI (1000000)) c_1) ?_
    refine jn_if_eq (x := 0) (tgt := 48) dX12_work_13 (by decide) (by omega) (fun _ => ?_) (fun q9 => absurd q9 (by decide))
    refine jn_iconst (k := 1) dX12_work_48 (by decide) ?_
    refine jg_goto (tgt := 53) dX12_work_49 (by decide) ?_
    refine jn_iconst (k := 1) dX12_work_53 (by decide) ?_
    refine rs_call (As := [.int (nI (1)), .int (nI (1))]) kv_X12_69 dX12_work_54 hr rfl rfl (by decide) (Nat.le_of_ble_eq_true rfl) rfl (by decide) (Nat.le_of_ble_eq_true rfl) (r_thr1 hr (va_up (s.1) 0 (nI (0)), s.2.1, s.2.2) 1) ?_
    refine jn_if_eq (x := 1) (tgt := 62) dX12_work_57 (by decide) (by omega) (fun q9 => absurd q9 (by decide)) (fun _ => ?_)
    refine jn_iconst (k := 0) dX12_work_60 (by decide) ?_
    exact jg_ireturn dX12_work_61 rfl ⟨by simp only [o_r_work, if_neg c_1], by simp only [o_r_work, if_neg c_1]⟩
