/-! THE REFERENCE: berths, ships, pilots (by program wip/whole/ref7.py) -/
/-- the first of the greatest -/
def fm (f : Nat → Int32) : Nat → Option Nat
  | 0 => none
  | a + 1 => match fm f a with
    | none => some a
    | some b => if f b < f a then some a else some b
theorem fm_n {f : Nat → Int32} {a : Nat} (h : fm f a = none) : fm f (a + 1) = some a := by simp [fm, h]
theorem fm_s {f : Nat → Int32} {a b : Nat} (h : fm f a = some b) (hk : f b < f a) : fm f (a + 1) = some a := by simp [fm, h, hk]
theorem fm_k {f : Nat → Int32} {a b : Nat} (h : fm f a = some b) (hk : ¬ f b < f a) : fm f (a + 1) = some b := by simp [fm, h, hk]
theorem fm_lt {f : Nat → Int32} : ∀ {a b : Nat}, fm f a = some b → b < a
  | 0, b, h => by simp [fm] at h
  | a + 1, b, h => by
    cases hb : fm f a with
    | none => rw [fm_n hb] at h; cases h; omega
    | some c =>
      have hc := fm_lt hb
      by_cases hk : f c < f a
      · rw [fm_s hb hk] at h; cases h; omega
      · rw [fm_k hb hk] at h; cases h; omega

theorem dX12_pilots_0 : decode cX12_pilots 0 = .ok (.aload_n 0, 1) := by decide +kernel
theorem dX12_pilots_1 : decode cX12_pilots 1 = .ok (.getfield 13, 3) := by decide +kernel
theorem dX12_pilots_4 : decode cX12_pilots 4 = .ok (.sipush 1082, 3) := by decide +kernel
theorem dX12_pilots_7 : decode cX12_pilots 7 = .ok (.aload_n 0, 1) := by decide +kernel
theorem dX12_pilots_8 : decode cX12_pilots 8 = .ok (.invokevirtual 73, 3) := by decide +kernel
theorem dX12_pilots_11 : decode cX12_pilots 11 = .ok (.iload_n 1, 1) := by decide +kernel
theorem dX12_pilots_12 : decode cX12_pilots 12 = .ok (.bipush 6, 2) := by decide +kernel
theorem dX12_pilots_14 : decode cX12_pilots 14 = .ok (.idiv, 1) := by decide +kernel
theorem dX12_pilots_15 : decode cX12_pilots 15 = .ok (.iadd, 1) := by decide +kernel
theorem dX12_pilots_16 : decode cX12_pilots 16 = .ok (.bipush 8, 2) := by decide +kernel
theorem dX12_pilots_18 : decode cX12_pilots 18 = .ok (.irem, 1) := by decide +kernel
theorem dX12_pilots_19 : decode cX12_pilots 19 = .ok (.iadd, 1) := by decide +kernel
theorem dX12_pilots_20 : decode cX12_pilots 20 = .ok (.dup2, 1) := by decide +kernel
theorem dX12_pilots_21 : decode cX12_pilots 21 = .ok (.iaload, 1) := by decide +kernel
theorem dX12_pilots_22 : decode cX12_pilots 22 = .ok (.iconst 1, 1) := by decide +kernel
theorem dX12_pilots_23 : decode cX12_pilots 23 = .ok (.iadd, 1) := by decide +kernel
theorem dX12_pilots_24 : decode cX12_pilots 24 = .ok (.iastore, 1) := by decide +kernel
theorem dX12_pilots_25 : decode cX12_pilots 25 = .ok (.return_, 1) := by decide +kernel
set_option maxHeartbeats 1000000 in
theorem r_pilots {Γ : jg_G} {g : Nat → jg_C} {n r : Nat} (hr : r + 11 ≤ n) (s : rs_S) (q : Nat) (hh : wb s.2.1 0 30000) (hq : q < 24) : jc Γ mX12_pilots 1 0 0 [some (.ref (r)), some (.int (nI (q)))] (rs_h g r s, n) (.inl none) (rs_h g r (s.1, upd s.2.1 (1082 + (wn s.2.1 0 + (q) / (6)) % (8)) (s.2.1 (1082 + (wn s.2.1 0 + (q) / (6)) % (8)) + nI 1), s.2.2), n) := by
  refine jc_of ?_
  refine jg_aload_n dX12_pilots_0 rfl ?_
  refine rs_ga fl_X12_13 dX12_pilots_1 hr rfl ?_
  refine jn_sipush (k := 1082) dX12_pilots_4 (by decide) ?_
  refine jg_aload_n dX12_pilots_7 rfl ?_
  refine rs_call (As := []) kv_X12_73 dX12_pilots_8 hr rfl rfl (by decide) (Nat.le_of_ble_eq_true rfl) rfl (by decide) (Nat.le_of_ble_eq_true rfl) (r_hour hr s (nI (wn s.2.1 0)) (by first | exact hh.1 | (simp only [upd]; (repeat rw [if_neg (by omega)]); exact hh.1))) ?_
  refine jg_iload_n dX12_pilots_11 rfl ?_
  refine jn_bipush (k := 6) dX12_pilots_12 (by decide) ?_
  refine jn_idiv (x := q) (y := 6) dX12_pilots_14 (by have := hh.2; omega) (by decide) (by decide) ?_
  refine jn_iadd (x := wn s.2.1 0) (y := (q) / (6)) dX12_pilots_15  ?_
  refine jn_bipush (k := 8) dX12_pilots_16 (by decide) ?_
  refine jn_irem (x := wn s.2.1 0 + (q) / (6)) (y := 8) dX12_pilots_18 (by have := hh.2; omega) (by decide) (by decide) ?_
  refine jn_iadd (x := 1082) (y := (wn s.2.1 0 + (q) / (6)) % (8)) dX12_pilots_19  ?_
  refine jg_dup2 dX12_pilots_20 rfl rfl ?_
  refine rs_lw (i := 1082 + (wn s.2.1 0 + (q) / (6)) % (8)) dX12_pilots_21 hr (by have := hh.2; omega) ?_
  refine jn_iconst (k := 1) dX12_pilots_22 (by decide) ?_
  refine jg_iadd (x := ((s.2.1) (1082 + (wn s.2.1 0 + (q) / (6)) % (8)))) (y := (nI (1))) dX12_pilots_23  ?_
  refine rs_sw (i := 1082 + (wn s.2.1 0 + (q) / (6)) % (8)) (x := ((((s.2.1) (1082 + (wn s.2.1 0 + (q) / (6)) % (8))) + (nI (1))))) dX12_pilots_24 hr (by have := hh.2; omega) ?_
  exact jg_return dX12_pilots_25 rfl ⟨rfl, rfl⟩
theorem dX12_keyOf_0 : decode cX12_keyOf 0 = .ok (.iload_n 2, 1) := by decide +kernel
theorem dX12_keyOf_1 : decode cX12_keyOf 1 = .ok (.ifCond .ne 13, 3) := by decide +kernel
theorem dX12_keyOf_4 : decode cX12_keyOf 4 = .ok (.aload_n 0, 1) := by decide +kernel
theorem dX12_keyOf_5 : decode cX12_keyOf 5 = .ok (.iload_n 1, 1) := by decide +kernel
theorem dX12_keyOf_6 : decode cX12_keyOf 6 = .ok (.bipush 8, 2) := by decide +kernel
theorem dX12_keyOf_8 : decode cX12_keyOf 8 = .ok (.invokevirtual 137, 3) := by decide +kernel
theorem dX12_keyOf_11 : decode cX12_keyOf 11 = .ok (.goto 37, 3) := by decide +kernel
theorem dX12_keyOf_14 : decode cX12_keyOf 14 = .ok (.iload_n 2, 1) := by decide +kernel
theorem dX12_keyOf_15 : decode cX12_keyOf 15 = .ok (.iconst 1, 1) := by decide +kernel
theorem dX12_keyOf_16 : decode cX12_keyOf 16 = .ok (.if_icmp .ne 12, 3) := by decide +kernel
theorem dX12_keyOf_19 : decode cX12_keyOf 19 = .ok (.aload_n 0, 1) := by decide +kernel
theorem dX12_keyOf_20 : decode cX12_keyOf 20 = .ok (.iload_n 1, 1) := by decide +kernel
theorem dX12_keyOf_21 : decode cX12_keyOf 21 = .ok (.iconst 2, 1) := by decide +kernel
theorem dX12_keyOf_22 : decode cX12_keyOf 22 = .ok (.invokevirtual 137, 3) := by decide +kernel
theorem dX12_keyOf_25 : decode cX12_keyOf 25 = .ok (.goto 23, 3) := by decide +kernel
theorem dX12_keyOf_28 : decode cX12_keyOf 28 = .ok (.iload_n 2, 1) := by decide +kernel
theorem dX12_keyOf_29 : decode cX12_keyOf 29 = .ok (.iconst 2, 1) := by decide +kernel
theorem dX12_keyOf_30 : decode cX12_keyOf 30 = .ok (.if_icmp .ne 12, 3) := by decide +kernel
theorem dX12_keyOf_33 : decode cX12_keyOf 33 = .ok (.aload_n 0, 1) := by decide +kernel
theorem dX12_keyOf_34 : decode cX12_keyOf 34 = .ok (.iload_n 1, 1) := by decide +kernel
theorem dX12_keyOf_35 : decode cX12_keyOf 35 = .ok (.iconst 3, 1) := by decide +kernel
theorem dX12_keyOf_36 : decode cX12_keyOf 36 = .ok (.invokevirtual 137, 3) := by decide +kernel
theorem dX12_keyOf_39 : decode cX12_keyOf 39 = .ok (.goto 9, 3) := by decide +kernel
theorem dX12_keyOf_42 : decode cX12_keyOf 42 = .ok (.aload_n 0, 1) := by decide +kernel
theorem dX12_keyOf_43 : decode cX12_keyOf 43 = .ok (.iload_n 1, 1) := by decide +kernel
theorem dX12_keyOf_44 : decode cX12_keyOf 44 = .ok (.iconst 1, 1) := by decide +kernel
theorem dX12_keyOf_45 : decode cX12_keyOf 45 = .ok (.invokevirtual 137, 3) := by decide +kernel
theorem dX12_keyOf_48 : decode cX12_keyOf 48 = .ok (.ireturn, 1) := by decide +kernel
def o_r_keyOf (s : rs_S) (k : Nat) (y : Int32) : Option Value × rs_S := (if (y) = 0 then (some (.int ((s.2.1) (1212 + (18) * (k) + 8))), s) else (if (y) = (nI (1)) then (some (.int ((s.2.1) (1212 + (18) * (k) + 2))), s) else (if (y) = (nI (2)) then (some (.int ((s.2.1) (1212 + (18) * (k) + 3))), s) else (some (.int ((s.2.1) (1212 + (18) * (k) + 1))), s))))
set_option maxHeartbeats 2000000 in
theorem r_keyOf {Γ : jg_G} {g : Nat → jg_C} {n r : Nat} (hr : r + 11 ≤ n) (s : rs_S) (k : Nat) (y : Int32) (hk : k < 80) : jc Γ mX12_keyOf 2 0 0 [some (.ref (r)), some (.int (nI (k))), some (.int (y))] (rs_h g r s, n) (.inl (o_r_keyOf s k y).1) (rs_h g r (o_r_keyOf s k y).2, n) := by
  refine jc_of ?_
  refine jg_iload_n dX12_keyOf_0 rfl ?_
  refine jg_if_ne (x := (y)) (tgt := 14) dX12_keyOf_1 (by decide) (fun c_1 => ?_) (fun c_1 => ?_)
  · skip
    refine jg_iload_n dX12_keyOf_14 rfl ?_
    refine jn_iconst (k := 1) dX12_keyOf_15 (by decide) ?_
    refine jg_icmp_ne (x := (y)) (y := (nI (1))) (tgt := 28) dX12_keyOf_16 (by decide) (fun c_2 => ?_) (fun c_2 => ?_)
    · skip
      refine jg_iload_n dX12_keyOf_28 rfl ?_
      refine jn_iconst (k := 2) dX12_keyOf_29 (by decide) ?_
      refine jg_icmp_ne (x := (y)) (y := (nI (2))) (tgt := 42) dX12_keyOf_30 (by decide) (fun c_3 => ?_) (fun c_3 => ?_)
      · skip
        refine jg_aload_n dX12_keyOf_42 rfl ?_
        refine jg_iload_n dX12_keyOf_43 rfl ?_
        refine jn_iconst (k := 1) dX12_keyOf_44 (by decide) ?_
        refine rs_call (As := [.int (nI (k)), .int (nI (1))]) kv_X12_137 dX12_keyOf_45 hr rfl rfl (by decide) (Nat.le_of_ble_eq_true rfl) rfl (by decide) (Nat.le_of_ble_eq_true rfl) (r_of hr s (k) (1) ((s.2.1) (1212 + (18) * (k) + 1)) (rfl) (by omega)) ?_
        exact jg_ireturn dX12_keyOf_48 rfl ⟨by simp only [o_r_keyOf, if_neg c_1, if_neg c_2, if_neg c_3], by simp only [o_r_keyOf, if_neg c_1, if_neg c_2, if_neg c_3]⟩
      · skip
        refine jg_aload_n dX12_keyOf_33 rfl ?_
        refine jg_iload_n dX12_keyOf_34 rfl ?_
        refine jn_iconst (k := 3) dX12_keyOf_35 (by decide) ?_
        refine rs_call (As := [.int (nI (k)), .int (nI (3))]) kv_X12_137 dX12_keyOf_36 hr rfl rfl (by decide) (Nat.le_of_ble_eq_true rfl) rfl (by decide) (Nat.le_of_ble_eq_true rfl) (r_of hr s (k) (3) ((s.2.1) (1212 + (18) * (k) + 3)) (rfl) (by omega)) ?_
        refine jg_goto (tgt := 48) dX12_keyOf_39 (by decide) ?_
        exact jg_ireturn dX12_keyOf_48 rfl ⟨by simp only [o_r_keyOf, if_neg c_1, if_neg c_2, if_pos c_3], by simp only [o_r_keyOf, if_neg c_1, if_neg c_2, if_pos c_3]⟩
    · skip
      refine jg_aload_n dX12_keyOf_19 rfl ?_
      refine jg_iload_n dX12_keyOf_20 rfl ?_
      refine jn_iconst (k := 2) dX12_keyOf_21 (by decide) ?_
      refine rs_call (As := [.int (nI (k)), .int (nI (2))]) kv_X12_137 dX12_keyOf_22 hr rfl rfl (by decide) (Nat.le_of_ble_eq_true rfl) rfl (by decide) (Nat.le_of_ble_eq_true rfl) (r_of hr s (k) (2) ((s.2.1) (1212 + (18) * (k) + 2)) (rfl) (by omega)) ?_
      refine jg_goto (tgt := 48) dX12_keyOf_25 (by decide) ?_
      exact jg_ireturn dX12_keyOf_48 rfl ⟨by simp only [o_r_keyOf, if_neg c_1, if_pos c_2], by simp only [o_r_keyOf, if_neg c_1, if_pos c_2]⟩
  · skip
    refine jg_aload_n dX12_keyOf_4 rfl ?_
    refine jg_iload_n dX12_keyOf_5 rfl ?_
    refine jn_bipush (k := 8) dX12_keyOf_6 (by decide) ?_
    refine rs_call (As := [.int (nI (k)), .int (nI (8))]) kv_X12_137 dX12_keyOf_8 hr rfl rfl (by decide) (Nat.le_of_ble_eq_true rfl) rfl (by decide) (Nat.le_of_ble_eq_true rfl) (r_of hr s (k) (8) ((s.2.1) (1212 + (18) * (k) + 8)) (rfl) (by omega)) ?_
    refine jg_goto (tgt := 48) dX12_keyOf_11 (by decide) ?_
    exact jg_ireturn dX12_keyOf_48 rfl ⟨by simp only [o_r_keyOf, if_pos c_1], by simp only [o_r_keyOf, if_pos c_1]⟩
theorem dX12_isClosed_0 : decode cX12_isClosed 0 = .ok (.aload_n 0, 1) := by decide +kernel
theorem dX12_isClosed_1 : decode cX12_isClosed 1 = .ok (.iload_n 1, 1) := by decide +kernel
theorem dX12_isClosed_2 : decode cX12_isClosed 2 = .ok (.iconst 5, 1) := by decide +kernel
theorem dX12_isClosed_3 : decode cX12_isClosed 3 = .ok (.invokevirtual 140, 3) := by decide +kernel
theorem dX12_isClosed_6 : decode cX12_isClosed 6 = .ok (.sipush 240, 3) := by decide +kernel
theorem dX12_isClosed_9 : decode cX12_isClosed 9 = .ok (.if_icmp .lt 7, 3) := by decide +kernel
theorem dX12_isClosed_12 : decode cX12_isClosed 12 = .ok (.iconst 1, 1) := by decide +kernel
theorem dX12_isClosed_13 : decode cX12_isClosed 13 = .ok (.goto 4, 3) := by decide +kernel
theorem dX12_isClosed_17 : decode cX12_isClosed 17 = .ok (.ireturn, 1) := by decide +kernel
set_option maxHeartbeats 1000000 in
theorem r_isClosed_t {Γ : jg_G} {g : Nat → jg_C} {n r : Nat} (hr : r + 11 ≤ n) (s : rs_S) (k : Nat) (hk : k < 10) (hp : nI (240) ≤ s.2.1 (1000 + (8) * (k) + 5)) : jc Γ mX12_isClosed 2 0 0 [some (.ref (r)), some (.int (nI (k)))] (rs_h g r s, n) (.inl (some (.int (nI (1))))) (rs_h g r s, n) := by
  refine jc_of ?_
  refine jg_aload_n dX12_isClosed_0 rfl ?_
  refine jg_iload_n dX12_isClosed_1 rfl ?_
  refine jn_iconst (k := 5) dX12_isClosed_2 (by decide) ?_
  refine rs_call (As := [.int (nI (k)), .int (nI (5))]) kv_X12_140 dX12_isClosed_3 hr rfl rfl (by decide) (Nat.le_of_ble_eq_true rfl) rfl (by decide) (Nat.le_of_ble_eq_true rfl) (r_berthOf hr s (k) (5) ((s.2.1) (1000 + (8) * (k) + 5)) (rfl) (by omega)) ?_
  refine jn_sipush (k := 240) dX12_isClosed_6 (by decide) ?_
  refine jg_icmp_lt (x := ((s.2.1) (1000 + (8) * (k) + 5))) (y := (nI (240))) (tgt := 16) dX12_isClosed_9 (by decide) (fun c_1 => ?_) (fun c_1 => ?_)
  · skip
    exact absurd c_1 (Int32.not_lt.mpr hp)
  · skip
    refine jn_iconst (k := 1) dX12_isClosed_12 (by decide) ?_
    refine jg_goto (tgt := 17) dX12_isClosed_13 (by decide) ?_
    exact jg_zreturn dX12_isClosed_17 rfl (rfl) ⟨rfl, rfl⟩
theorem dX12_isClosed_16 : decode cX12_isClosed 16 = .ok (.iconst 0, 1) := by decide +kernel
set_option maxHeartbeats 1000000 in
theorem r_isClosed_f {Γ : jg_G} {g : Nat → jg_C} {n r : Nat} (hr : r + 11 ≤ n) (s : rs_S) (k : Nat) (hk : k < 10) (hp : ¬ (nI (240) ≤ s.2.1 (1000 + (8) * (k) + 5))) : jc Γ mX12_isClosed 2 0 0 [some (.ref (r)), some (.int (nI (k)))] (rs_h g r s, n) (.inl (some (.int (nI (0))))) (rs_h g r s, n) := by
  refine jc_of ?_
  refine jg_aload_n dX12_isClosed_0 rfl ?_
  refine jg_iload_n dX12_isClosed_1 rfl ?_
  refine jn_iconst (k := 5) dX12_isClosed_2 (by decide) ?_
  refine rs_call (As := [.int (nI (k)), .int (nI (5))]) kv_X12_140 dX12_isClosed_3 hr rfl rfl (by decide) (Nat.le_of_ble_eq_true rfl) rfl (by decide) (Nat.le_of_ble_eq_true rfl) (r_berthOf hr s (k) (5) ((s.2.1) (1000 + (8) * (k) + 5)) (rfl) (by omega)) ?_
  refine jn_sipush (k := 240) dX12_isClosed_6 (by decide) ?_
  refine jg_icmp_lt (x := ((s.2.1) (1000 + (8) * (k) + 5))) (y := (nI (240))) (tgt := 16) dX12_isClosed_9 (by decide) (fun c_1 => ?_) (fun c_1 => ?_)
  · skip
    refine jn_iconst (k := 0) dX12_isClosed_16 (by decide) ?_
    exact jg_zreturn dX12_isClosed_17 rfl (rfl) ⟨rfl, rfl⟩
  · skip
    exact absurd c_1 (fun q9 => hp (Int32.not_lt.mp c_1))
theorem dX12_mayHave_0 : decode cX12_mayHave 0 = .ok (.aload_n 0, 1) := by decide +kernel
theorem dX12_mayHave_1 : decode cX12_mayHave 1 = .ok (.iload_n 2, 1) := by decide +kernel
theorem dX12_mayHave_2 : decode cX12_mayHave 2 = .ok (.invokevirtual 177, 3) := by decide +kernel
theorem dX12_mayHave_5 : decode cX12_mayHave 5 = .ok (.ifCond .ne 22, 3) := by decide +kernel
theorem dX12_mayHave_8 : decode cX12_mayHave 8 = .ok (.aload_n 0, 1) := by decide +kernel
theorem dX12_mayHave_9 : decode cX12_mayHave 9 = .ok (.iload_n 2, 1) := by decide +kernel
theorem dX12_mayHave_10 : decode cX12_mayHave 10 = .ok (.iconst 1, 1) := by decide +kernel
theorem dX12_mayHave_11 : decode cX12_mayHave 11 = .ok (.invokevirtual 140, 3) := by decide +kernel
theorem dX12_mayHave_14 : decode cX12_mayHave 14 = .ok (.aload_n 0, 1) := by decide +kernel
theorem dX12_mayHave_15 : decode cX12_mayHave 15 = .ok (.iload_n 1, 1) := by decide +kernel
theorem dX12_mayHave_16 : decode cX12_mayHave 16 = .ok (.iconst 3, 1) := by decide +kernel
theorem dX12_mayHave_17 : decode cX12_mayHave 17 = .ok (.invokevirtual 137, 3) := by decide +kernel
theorem dX12_mayHave_20 : decode cX12_mayHave 20 = .ok (.if_icmp .lt 7, 3) := by decide +kernel
theorem dX12_mayHave_23 : decode cX12_mayHave 23 = .ok (.iconst 1, 1) := by decide +kernel
theorem dX12_mayHave_24 : decode cX12_mayHave 24 = .ok (.goto 4, 3) := by decide +kernel
theorem dX12_mayHave_27 : decode cX12_mayHave 27 = .ok (.iconst 0, 1) := by decide +kernel
theorem dX12_mayHave_28 : decode cX12_mayHave 28 = .ok (.ireturn, 1) := by decide +kernel
def o_r_mayHave (s : rs_S) (k b : Nat) : Option Value × rs_S := (if nI (240) ≤ (s.2.1) (1000 + (8) * (b) + 5) then (some (.int (nI (0))), s) else (if ((s.2.1) (1000 + (8) * (b) + 1)) < ((s.2.1) (1212 + (18) * (k) + 3)) then (some (.int (nI (0))), s) else (some (.int (nI (1))), s)))
set_option maxHeartbeats 2000000 in
theorem r_mayHave {Γ : jg_G} {g : Nat → jg_C} {n r : Nat} (hr : r + 11 ≤ n) (s : rs_S) (k b : Nat) (hk : k < 80) (hb : b < 10) : jc Γ mX12_mayHave 3 0 0 [some (.ref (r)), some (.int (nI (k))), some (.int (nI (b)))] (rs_h g r s, n) (.inl (o_r_mayHave s k b).1) (rs_h g r (o_r_mayHave s k b).2, n) := by
  refine jc_of ?_
  refine jg_aload_n dX12_mayHave_0 rfl ?_
  refine jg_iload_n dX12_mayHave_1 rfl ?_
  by_cases c_1 : nI (240) ≤ (s.2.1) (1000 + (8) * (b) + 5)
  · skip
    refine rs_call (As := [.int (nI (b))]) kv_X12_177 dX12_mayHave_2 hr rfl rfl (by decide) (Nat.le_of_ble_eq_true rfl) rfl (by decide) (Nat.le_of_ble_eq_true rfl) (r_isClosed_t hr s (b) (by omega) c_1) ?_
    refine jn_if_ne (x := 1) (tgt := 27) dX12_mayHave_5 (by decide) (by omega) (fun _ => ?_) (fun q9 => absurd q9 (by decide))
    refine jn_iconst (k := 0) dX12_mayHave_27 (by decide) ?_
    exact jg_zreturn dX12_mayHave_28 rfl (rfl) ⟨by simp only [o_r_mayHave, if_pos c_1], by simp only [o_r_mayHave, if_pos c_1]⟩
  · skip
    refine rs_call (As := [.int (nI (b))]) kv_X12_177 dX12_mayHave_2 hr rfl rfl (by decide) (Nat.le_of_ble_eq_true rfl) rfl (by decide) (Nat.le_of_ble_eq_true rfl) (r_isClosed_f hr s (b) (by omega) c_1) ?_
    refine jn_if_ne (x := 0) (tgt := 27) dX12_mayHave_5 (by decide) (by omega) (fun q9 => absurd q9 (by decide)) (fun _ => ?_)
    refine jg_aload_n dX12_mayHave_8 rfl ?_
    refine jg_iload_n dX12_mayHave_9 rfl ?_
    refine jn_iconst (k := 1) dX12_mayHave_10 (by decide) ?_
    refine rs_call (As := [.int (nI (b)), .int (nI (1))]) kv_X12_140 dX12_mayHave_11 hr rfl rfl (by decide) (Nat.le_of_ble_eq_true rfl) rfl (by decide) (Nat.le_of_ble_eq_true rfl) (r_berthOf hr s (b) (1) ((s.2.1) (1000 + (8) * (b) + 1)) (rfl) (by omega)) ?_
    refine jg_aload_n dX12_mayHave_14 rfl ?_
    refine jg_iload_n dX12_mayHave_15 rfl ?_
    refine jn_iconst (k := 3) dX12_mayHave_16 (by decide) ?_
    refine rs_call (As := [.int (nI (k)), .int (nI (3))]) kv_X12_137 dX12_mayHave_17 hr rfl rfl (by decide) (Nat.le_of_ble_eq_true rfl) rfl (by decide) (Nat.le_of_ble_eq_true rfl) (r_of hr s (k) (3) ((s.2.1) (1212 + (18) * (k) + 3)) (rfl) (by omega)) ?_
    refine jg_icmp_lt (x := ((s.2.1) (1000 + (8) * (b) + 1))) (y := ((s.2.1) (1212 + (18) * (k) + 3))) (tgt := 27) dX12_mayHave_20 (by decide) (fun c_2 => ?_) (fun c_2 => ?_)
    · skip
      refine jn_iconst (k := 0) dX12_mayHave_27 (by decide) ?_
      exact jg_zreturn dX12_mayHave_28 rfl (rfl) ⟨by simp only [o_r_mayHave, if_neg c_1, if_pos c_2], by simp only [o_r_mayHave, if_neg c_1, if_pos c_2]⟩
    · skip
      refine jn_iconst (k := 1) dX12_mayHave_23 (by decide) ?_
      refine jg_goto (tgt := 28) dX12_mayHave_24 (by decide) ?_
      exact jg_zreturn dX12_mayHave_28 rfl (rfl) ⟨by simp only [o_r_mayHave, if_neg c_1, if_neg c_2], by simp only [o_r_mayHave, if_neg c_1, if_neg c_2]⟩
theorem r_may_t {w : Nat → Int32} {s : rs_S} {k b : Nat} (hw : s.2.1 = w) (hp : ¬ nI (240) ≤ w (1000 + (8) * (b) + 5) ∧ w (1212 + (18) * (k) + 3) ≤ w (1000 + (8) * (b) + 1)) : o_r_mayHave s k b = (some (.int (nI 1)), s) := by
  subst hw
  simp only [o_r_mayHave]
  rw [if_neg hp.1, if_neg (Int32.not_lt.mpr hp.2)]
theorem r_may_f {w : Nat → Int32} {s : rs_S} {k b : Nat} (hw : s.2.1 = w) (hp : ¬ (¬ nI (240) ≤ w (1000 + (8) * (b) + 5) ∧ w (1212 + (18) * (k) + 3) ≤ w (1000 + (8) * (b) + 1))) : o_r_mayHave s k b = (some (.int (nI 0)), s) := by
  subst hw
  simp only [o_r_mayHave]
  by_cases h1 : nI (240) ≤ s.2.1 (1000 + (8) * (b) + 5)
  · rw [if_pos h1]
  · rw [if_neg h1, if_pos (Int32.not_le.mp fun h2 => hp ⟨h1, h2⟩)]

/-- one wagon -/
def ra_haul (w : Nat → Int32) : Nat → Int32 := match fm (fun b => w (1000 + (8) * (b) + 4)) (wn w 999) with
  | none => w
  | some b => upd (upd w (1000 + (8) * (b) + 4) (w (1000 + (8) * (b) + 4) - (if w (1000 + (8) * (b) + 4) < nI 10 then w (1000 + (8) * (b) + 4) else nI 10))) 2659 (w 2659 + (if w (1000 + (8) * (b) + 4) < nI 10 then w (1000 + (8) * (b) + 4) else nI 10))
theorem dX12_hauls_4 : decode cX12_hauls 4 = .ok (.iload_n 2, 1) := by decide +kernel
theorem dX12_hauls_5 : decode cX12_hauls 5 = .ok (.aload_n 0, 1) := by decide +kernel
theorem dX12_hauls_6 : decode cX12_hauls 6 = .ok (.getfield 13, 3) := by decide +kernel
theorem dX12_hauls_9 : decode cX12_hauls 9 = .ok (.sipush 999, 3) := by decide +kernel
theorem dX12_hauls_12 : decode cX12_hauls 12 = .ok (.iaload, 1) := by decide +kernel
theorem dX12_hauls_13 : decode cX12_hauls 13 = .ok (.if_icmp .ge 30, 3) := by decide +kernel
theorem dX12_hauls_16 : decode cX12_hauls 16 = .ok (.iload_n 1, 1) := by decide +kernel
theorem dX12_hauls_17 : decode cX12_hauls 17 = .ok (.ifCond .lt 18, 3) := by decide +kernel
theorem dX12_hauls_35 : decode cX12_hauls 35 = .ok (.iload_n 2, 1) := by decide +kernel
theorem dX12_hauls_36 : decode cX12_hauls 36 = .ok (.istore_n 1, 1) := by decide +kernel
theorem dX12_hauls_37 : decode cX12_hauls 37 = .ok (.iinc 2 1, 3) := by decide +kernel
theorem dX12_hauls_40 : decode cX12_hauls 40 = .ok (.goto (-36), 3) := by decide +kernel
theorem dX12_hauls_43 : decode cX12_hauls 43 = .ok (.iload_n 1, 1) := by decide +kernel
theorem dX12_hauls_44 : decode cX12_hauls 44 = .ok (.ifCond .ge 4, 3) := by decide +kernel
theorem dX12_hauls_47 : decode cX12_hauls 47 = .ok (.return_, 1) := by decide +kernel
theorem dX12_hauls_20 : decode cX12_hauls 20 = .ok (.aload_n 0, 1) := by decide +kernel
theorem dX12_hauls_21 : decode cX12_hauls 21 = .ok (.iload_n 2, 1) := by decide +kernel
theorem dX12_hauls_22 : decode cX12_hauls 22 = .ok (.iconst 4, 1) := by decide +kernel
theorem dX12_hauls_23 : decode cX12_hauls 23 = .ok (.invokevirtual 140, 3) := by decide +kernel
theorem dX12_hauls_26 : decode cX12_hauls 26 = .ok (.aload_n 0, 1) := by decide +kernel
theorem dX12_hauls_27 : decode cX12_hauls 27 = .ok (.iload_n 1, 1) := by decide +kernel
theorem dX12_hauls_28 : decode cX12_hauls 28 = .ok (.iconst 4, 1) := by decide +kernel
theorem dX12_hauls_29 : decode cX12_hauls 29 = .ok (.invokevirtual 140, 3) := by decide +kernel
theorem dX12_hauls_32 : decode cX12_hauls 32 = .ok (.if_icmp .le 5, 3) := by decide +kernel
theorem dX12_hauls_48 : decode cX12_hauls 48 = .ok (.bipush 10, 2) := by decide +kernel
theorem dX12_hauls_50 : decode cX12_hauls 50 = .ok (.aload_n 0, 1) := by decide +kernel
theorem dX12_hauls_51 : decode cX12_hauls 51 = .ok (.iload_n 1, 1) := by decide +kernel
theorem dX12_hauls_52 : decode cX12_hauls 52 = .ok (.iconst 4, 1) := by decide +kernel
theorem dX12_hauls_53 : decode cX12_hauls 53 = .ok (.invokevirtual 140, 3) := by decide +kernel
theorem dX12_hauls_56 : decode cX12_hauls 56 = .ok (.invokestatic 91, 3) := by decide +kernel
theorem dX12_hauls_59 : decode cX12_hauls 59 = .ok (.istore_n 2, 1) := by decide +kernel
theorem dX12_hauls_60 : decode cX12_hauls 60 = .ok (.aload_n 0, 1) := by decide +kernel
theorem dX12_hauls_61 : decode cX12_hauls 61 = .ok (.getfield 13, 3) := by decide +kernel
theorem dX12_hauls_64 : decode cX12_hauls 64 = .ok (.iload_n 1, 1) := by decide +kernel
theorem dX12_hauls_65 : decode cX12_hauls 65 = .ok (.iconst 4, 1) := by decide +kernel
theorem dX12_hauls_66 : decode cX12_hauls 66 = .ok (.invokestatic 100, 3) := by decide +kernel
theorem dX12_hauls_69 : decode cX12_hauls 69 = .ok (.dup2, 1) := by decide +kernel
theorem dX12_hauls_70 : decode cX12_hauls 70 = .ok (.iaload, 1) := by decide +kernel
theorem dX12_hauls_71 : decode cX12_hauls 71 = .ok (.iload_n 2, 1) := by decide +kernel
theorem dX12_hauls_72 : decode cX12_hauls 72 = .ok (.isub, 1) := by decide +kernel
theorem dX12_hauls_73 : decode cX12_hauls 73 = .ok (.iastore, 1) := by decide +kernel
theorem dX12_hauls_74 : decode cX12_hauls 74 = .ok (.aload_n 0, 1) := by decide +kernel
theorem dX12_hauls_75 : decode cX12_hauls 75 = .ok (.getfield 13, 3) := by decide +kernel
theorem dX12_hauls_78 : decode cX12_hauls 78 = .ok (.sipush 2659, 3) := by decide +kernel
theorem dX12_hauls_81 : decode cX12_hauls 81 = .ok (.dup2, 1) := by decide +kernel
theorem dX12_hauls_82 : decode cX12_hauls 82 = .ok (.iaload, 1) := by decide +kernel
theorem dX12_hauls_83 : decode cX12_hauls 83 = .ok (.iload_n 2, 1) := by decide +kernel
theorem dX12_hauls_84 : decode cX12_hauls 84 = .ok (.iadd, 1) := by decide +kernel
theorem dX12_hauls_85 : decode cX12_hauls 85 = .ok (.iastore, 1) := by decide +kernel
theorem dX12_hauls_86 : decode cX12_hauls 86 = .ok (.return_, 1) := by decide +kernel
set_option maxHeartbeats 2000000 in
theorem r_hauls_l {Γ : jg_G} {g : Nat → jg_C} {n r : Nat} (hr : r + 11 ≤ n) (s : rs_S)  (hc : wb s.2.1 999 10) : ∀ a, a ≤ wn s.2.1 999 → jg Γ mX12_hauls 2 0 0 4 [some (.ref (r)), some (.int (ob (fm (fun b => s.2.1 (1000 + (8) * (b) + 4)) (a)))), some (.int (nI (a)))] [] (rs_h g r s, n) (jq (.inl none) (rs_h g r (s.1, ra_haul s.2.1, s.2.2), n)) := by
  have hc_2 := hc.2
  refine jd_down (c := wn s.2.1 999) (P := fun a => jg Γ mX12_hauls 2 0 0 4 [some (.ref (r)), some (.int (ob (fm (fun b => s.2.1 (1000 + (8) * (b) + 4)) (a)))), some (.int (nI (a)))] [] (rs_h g r s, n) (jq (.inl none) (rs_h g r (s.1, ra_haul s.2.1, s.2.2), n))) ?_
  intro a ha ih
  cases hF : fm (fun b => s.2.1 (1000 + (8) * (b) + 4)) a with
  | none =>
    refine jg_iload_n dX12_hauls_4 rfl ?_
    refine jg_aload_n dX12_hauls_5 rfl ?_
    refine rs_ga fl_X12_13 dX12_hauls_6 hr rfl ?_
    refine jn_sipush (k := 999) dX12_hauls_9 (by decide) ?_
    refine rs_lwN (i := 999) (x := (nI (wn s.2.1 999))) (hc.1) dX12_hauls_12 hr (by have := hc.2; omega) ?_
    refine jn_icmp_ge (x := a) (y := wn s.2.1 999) (tgt := 43) dX12_hauls_13 (by decide) (by have := hc.2; omega) (by have := hc.2; omega) (fun c_1 => ?_) (fun c_1 => ?_)
    · skip
      obtain rfl : a = wn s.2.1 999 := by omega
      refine jg_iload_n dX12_hauls_43 rfl ?_
      refine jg_if_ge (x := (-1)) (tgt := 48) dX12_hauls_44 (by decide) (fun q9 => absurd q9 (by decide)) (fun _ => ?_)
      exact jg_return dX12_hauls_47 rfl ⟨rfl, by simp [ra_haul, hF]⟩
    · skip
      refine jg_iload_n dX12_hauls_16 rfl ?_
      refine jg_if_lt (x := (-1)) (tgt := 35) dX12_hauls_17 (by decide) (fun _ => ?_) (fun q9 => absurd (by decide) q9)
      refine jg_iload_n dX12_hauls_35 rfl ?_
      refine jg_istore_n (L' := [some (.ref (r)), some (.int (nI (a))), some (.int (nI (a)))]) dX12_hauls_36 (by decide) rfl ?_
      refine jn_iinc (x := a) (L' := [some (.ref (r)), some (.int (nI (a))), some (.int (nI (a + 1)))]) dX12_hauls_37 rfl rfl (by decide) rfl ?_
      refine jg_goto (tgt := 4) dX12_hauls_40 (by decide) ?_
      refine jg_at_eq (ih (by omega)) rfl (by rw [fm_n hF]; rfl) rfl (rfl)
  | some b =>
    have hb := fm_lt hF
    refine jg_iload_n dX12_hauls_4 rfl ?_
    refine jg_aload_n dX12_hauls_5 rfl ?_
    refine rs_ga fl_X12_13 dX12_hauls_6 hr rfl ?_
    refine jn_sipush (k := 999) dX12_hauls_9 (by decide) ?_
    refine rs_lwN (i := 999) (x := (nI (wn s.2.1 999))) (hc.1) dX12_hauls_12 hr (by have := hc.2; omega) ?_
    refine jn_icmp_ge (x := a) (y := wn s.2.1 999) (tgt := 43) dX12_hauls_13 (by decide) (by have := hc.2; omega) (by have := hc.2; omega) (fun c_1 => ?_) (fun c_1 => ?_)
    · skip
      obtain rfl : a = wn s.2.1 999 := by omega
      refine jg_iload_n dX12_hauls_43 rfl ?_
      refine jg_if_ge (x := (nI (b))) (tgt := 48) dX12_hauls_44 (by decide) (fun _ => ?_) (fun q9 => absurd (nI_pos' (by have := hc.2; omega)) q9)
      refine jn_bipush (k := 10) dX12_hauls_48 (by decide) ?_
      refine jg_aload_n dX12_hauls_50 rfl ?_
      refine jg_iload_n dX12_hauls_51 rfl ?_
      refine jn_iconst (k := 4) dX12_hauls_52 (by decide) ?_
      refine rs_call (As := [.int (nI (b)), .int (nI (4))]) kv_X12_140 dX12_hauls_53 hr rfl rfl (by decide) (Nat.le_of_ble_eq_true rfl) rfl (by decide) (Nat.le_of_ble_eq_true rfl) (r_berthOf hr s (b) (4) ((s.2.1) (1000 + (8) * (b) + 4)) (rfl) (by have := hc.2; omega)) ?_
      refine jg_mmin (x := (nI (10))) (y := ((s.2.1) (1000 + (8) * (b) + 4))) km_X12_91 jw_min.1 jw_min.2 dX12_hauls_56 (by decide) (Nat.le_of_ble_eq_true rfl) ?_
      refine jg_istore_n (L' := [some (.ref (r)), some (.int (nI (b))), some (.int ((if ((s.2.1) (1000 + (8) * (b) + 4)) < (nI (10)) then ((s.2.1) (1000 + (8) * (b) + 4)) else (nI (10)))))]) dX12_hauls_59 (by decide) rfl ?_
      refine jg_aload_n dX12_hauls_60 rfl ?_
      refine rs_ga fl_X12_13 dX12_hauls_61 hr rfl ?_
      refine jg_iload_n dX12_hauls_64 rfl ?_
      refine jn_iconst (k := 4) dX12_hauls_65 (by decide) ?_
      refine rs_callS (As := [.int (nI (b)), .int (nI (4))]) ks_X12_100 dX12_hauls_66 rfl (by decide) (Nat.le_of_ble_eq_true rfl) rfl (by decide) (Nat.le_of_ble_eq_true rfl) (r_berthAt (b) (4)) ?_
      refine jg_dup2 dX12_hauls_69 rfl rfl ?_
      refine rs_lw (i := 1000 + (8) * (b) + 4) dX12_hauls_70 hr (by have := hc.2; omega) ?_
      refine jg_iload_n dX12_hauls_71 rfl ?_
      refine jg_isub (x := ((s.2.1) (1000 + (8) * (b) + 4))) (y := ((if ((s.2.1) (1000 + (8) * (b) + 4)) < (nI (10)) then ((s.2.1) (1000 + (8) * (b) + 4)) else (nI (10))))) dX12_hauls_72  ?_
      refine rs_sw (i := 1000 + (8) * (b) + 4) (x := ((((s.2.1) (1000 + (8) * (b) + 4)) - ((if ((s.2.1) (1000 + (8) * (b) + 4)) < (nI (10)) then ((s.2.1) (1000 + (8) * (b) + 4)) else (nI (10))))))) dX12_hauls_73 hr (by have := hc.2; omega) ?_
      refine jg_aload_n dX12_hauls_74 rfl ?_
      refine rs_ga fl_X12_13 dX12_hauls_75 hr rfl ?_
      refine jn_sipush (k := 2659) dX12_hauls_78 (by decide) ?_
      refine jg_dup2 dX12_hauls_81 rfl rfl ?_
      refine rs_lwN (i := 2659) (x := ((s.2.1 2659))) (by simp only [upd]; rw [if_neg (by omega)]) dX12_hauls_82 hr (by have := hc.2; omega) ?_
      refine jg_iload_n dX12_hauls_83 rfl ?_
      refine jg_iadd (x := ((s.2.1 2659))) (y := ((if ((s.2.1) (1000 + (8) * (b) + 4)) < (nI (10)) then ((s.2.1) (1000 + (8) * (b) + 4)) else (nI (10))))) dX12_hauls_84  ?_
      refine rs_sw (i := 2659) (x := ((((s.2.1 2659)) + ((if ((s.2.1) (1000 + (8) * (b) + 4)) < (nI (10)) then ((s.2.1) (1000 + (8) * (b) + 4)) else (nI (10))))))) dX12_hauls_85 hr (by have := hc.2; omega) ?_
      exact jg_return dX12_hauls_86 rfl ⟨rfl, by simp only [ra_haul, hF]⟩
    · skip
      refine jg_iload_n dX12_hauls_16 rfl ?_
      refine jg_if_lt (x := (nI (b))) (tgt := 35) dX12_hauls_17 (by decide) (fun q9 => absurd q9 (nI_pos (by have := hc.2; omega))) (fun _ => ?_)
      refine jg_aload_n dX12_hauls_20 rfl ?_
      refine jg_iload_n dX12_hauls_21 rfl ?_
      refine jn_iconst (k := 4) dX12_hauls_22 (by decide) ?_
      refine rs_call (As := [.int (nI (a)), .int (nI (4))]) kv_X12_140 dX12_hauls_23 hr rfl rfl (by decide) (Nat.le_of_ble_eq_true rfl) rfl (by decide) (Nat.le_of_ble_eq_true rfl) (r_berthOf hr s (a) (4) ((s.2.1) (1000 + (8) * (a) + 4)) (rfl) (by have := hc.2; omega)) ?_
      refine jg_aload_n dX12_hauls_26 rfl ?_
      refine jg_iload_n dX12_hauls_27 rfl ?_
      refine jn_iconst (k := 4) dX12_hauls_28 (by decide) ?_
      refine rs_call (As := [.int (nI (b)), .int (nI (4))]) kv_X12_140 dX12_hauls_29 hr rfl rfl (by decide) (Nat.le_of_ble_eq_true rfl) rfl (by decide) (Nat.le_of_ble_eq_true rfl) (r_berthOf hr s (b) (4) ((s.2.1) (1000 + (8) * (b) + 4)) (rfl) (by have := hc.2; omega)) ?_
      refine jg_icmp_le (x := ((s.2.1) (1000 + (8) * (a) + 4))) (y := ((s.2.1) (1000 + (8) * (b) + 4))) (tgt := 37) dX12_hauls_32 (by decide) (fun c_2 => ?_) (fun c_2 => ?_)
      · skip
        refine jn_iinc (x := a) (L' := [some (.ref (r)), some (.int (nI (b))), some (.int (nI (a + 1)))]) dX12_hauls_37 rfl rfl (by decide) rfl ?_
        refine jg_goto (tgt := 4) dX12_hauls_40 (by decide) ?_
        refine jg_at_eq (ih (by omega)) rfl (by rw [fm_k hF (Int32.not_lt.mpr c_2)]; rfl) rfl (rfl)
      · skip
        refine jg_iload_n dX12_hauls_35 rfl ?_
        refine jg_istore_n (L' := [some (.ref (r)), some (.int (nI (a))), some (.int (nI (a)))]) dX12_hauls_36 (by decide) rfl ?_
        refine jn_iinc (x := a) (L' := [some (.ref (r)), some (.int (nI (a))), some (.int (nI (a + 1)))]) dX12_hauls_37 rfl rfl (by decide) rfl ?_
        refine jg_goto (tgt := 4) dX12_hauls_40 (by decide) ?_
        refine jg_at_eq (ih (by omega)) rfl (by rw [fm_s hF (Int32.not_le.mp c_2)]; rfl) rfl (rfl)
theorem dX12_hauls_0 : decode cX12_hauls 0 = .ok (.iconst (-1), 1) := by decide +kernel
theorem dX12_hauls_1 : decode cX12_hauls 1 = .ok (.istore_n 1, 1) := by decide +kernel
theorem dX12_hauls_2 : decode cX12_hauls 2 = .ok (.iconst 0, 1) := by decide +kernel
theorem dX12_hauls_3 : decode cX12_hauls 3 = .ok (.istore_n 2, 1) := by decide +kernel
set_option maxHeartbeats 1000000 in
theorem r_hauls {Γ : jg_G} {g : Nat → jg_C} {n r : Nat} (hr : r + 11 ≤ n) (s : rs_S)  (hc : wb s.2.1 999 10) : jc Γ mX12_hauls 2 0 0 [some (.ref (r)), none, none] (rs_h g r s, n) (.inl none) (rs_h g r (s.1, ra_haul s.2.1, s.2.2), n) := by
  refine jc_of ?_
  refine jg_iconst (v := -1) dX12_hauls_0 (by decide) ?_
  refine jg_istore_n (L' := [some (.ref (r)), some (.int (-1)), none]) dX12_hauls_1 (by decide) rfl ?_
  refine jn_iconst (k := 0) dX12_hauls_2 (by decide) ?_
  refine jg_istore_n (L' := [some (.ref (r)), some (.int (-1)), some (.int (nI (0)))]) dX12_hauls_3 (by decide) rfl ?_
  exact r_hauls_l hr s hc 0 (Nat.zero_le _)
