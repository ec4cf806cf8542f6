/-! THE REFERENCE: conditions of lines (by program wip/whole/ref11.py) -/
/-- what a push of a condition's step is -/
def hv (gd : Int32) (fo : Bool) (fa : Nat → Int32) (k : Nat) (th : Int32) : Bool := if k < 7 then (if k = 6 then fo else decide (gd = nI k)) else if k < 200 then decide (fa (k - 100) < th) else decide (th < fa (k - 200))
/-- a step: 300 not, 301 and, 302 or, else a push; the latest first -/
def hs (gd : Int32) (fo : Bool) (fa : Nat → Int32) (k : Nat) (th : Int32) (l : List Bool) : List Bool :=
  if k = 300 then (match l with | x :: l => (!x) :: l | [] => []) else if k = 301 then (match l with | x :: y :: l => (y && x) :: l | l => l) else if k = 302 then (match l with | x :: y :: l => (y || x) :: l | l => l) else hv gd fo fa k th :: l
/-- a step that can be done on so many -/
def hok (k m : Nat) : Prop := (k = 300 ∧ 1 ≤ m) ∨ ((k = 301 ∨ k = 302) ∧ 2 ≤ m) ∨ ((k < 7 ∨ (100 ≤ k ∧ k < 105) ∨ (200 ≤ k ∧ k < 205)) ∧ m < 400)
/-- the row met holds the stack -/
def hrel : List Bool → (Nat → Int32) → Prop
  | [], _ => True
  | x :: l, m => m l.length = bi x ∧ hrel l m
theorem hrel_upd : ∀ {l : List Bool} {m : Nat → Int32} {i : Nat} {v : Int32}, hrel l m → l.length ≤ i → hrel l (upd m i v)
  | [], _, _, _, _, _ => trivial
  | x :: l, m, i, v, h, hi => by
    simp only [List.length_cons] at hi
    exact ⟨by rw [pk_un (by omega)]; exact h.1, hrel_upd h.2 (by omega)⟩
theorem hrel_push {l : List Bool} {m : Nat → Int32} {v : Int32} {x : Bool} (h : hrel l m) (hv : v = bi x) : hrel (x :: l) (upd m l.length v) := ⟨by rw [pk_us]; exact hv, hrel_upd h (Nat.le_refl _)⟩
section RSN
variable {Γ : jg_G} {M : jg_Md} {d pc : Nat} {L : List (Option Value)} {S : List Value} {Q : jg_Q} {g : Nat → jg_C} {n r : Nat} {s : rs_S}
theorem rs_ldN {i j : Nat} {x : Int32} (hx : s.2.2 (j + 1) i = x) (hd : decode M.2.1 pc = .ok (.iaload, 1)) (hr : r + 11 ≤ n) (hj : j + 1 < 10) (hk : rs_kd (j + 1) = 0) (hi : i < rs_ln (j + 1)) (kk : jg Γ M d 0 0 (pc + 1) L (.int x :: S) (rs_h g r s, n) Q) : jg Γ M d 0 0 pc L (.int (nI i) :: .ref (r + 1 + (j + 1)) :: S) (rs_h g r s, n) Q := rs_ld hd hr hj hk hi (by rw [hx]; exact kk)
theorem rs_lbN {i j : Nat} {x : Int32} (hx : s.2.2 (j + 1) i = x) (hd : decode M.2.1 pc = .ok (.baload, 1)) (hr : r + 11 ≤ n) (hj : j + 1 < 10) (hk : rs_kd (j + 1) = 1) (hi : i < rs_ln (j + 1)) (kk : jg Γ M d 0 0 (pc + 1) L (.int x :: S) (rs_h g r s, n) Q) : jg Γ M d 0 0 pc L (.int (nI i) :: .ref (r + 1 + (j + 1)) :: S) (rs_h g r s, n) Q := rs_lb hd hr hj hk hi (by rw [hx]; exact kk)
theorem rs_lzN {i j : Nat} {x : Int32} (hx : s.2.2 (j + 1) i = x) (hd : decode M.2.1 pc = .ok (.baload, 1)) (hr : r + 11 ≤ n) (hj : j + 1 < 10) (hk : rs_kd (j + 1) = 2) (hi : i < rs_ln (j + 1)) (kk : jg Γ M d 0 0 (pc + 1) L (.int x :: S) (rs_h g r s, n) Q) : jg Γ M d 0 0 pc L (.int (nI i) :: .ref (r + 1 + (j + 1)) :: S) (rs_h g r s, n) Q := rs_lz hd hr hj hk hi (by rw [hx]; exact kk)
end RSN
theorem nar0 : vp_nar .boolean (nI 0) = nI 0 := by decide
theorem nar1 : vp_nar .boolean (nI 1) = nI 1 := by decide
theorem narb (x : Bool) : vp_nar .boolean (bi x) = bi x := by cases x <;> decide
theorem bi01 {x : Bool} {v : Int32} (h : v = bi x) : (v = nI 0 ∧ x = false) ∨ (v = nI 1 ∧ x = true) := by
  cases x
  · exact Or.inl ⟨h, rfl⟩
  · exact Or.inr ⟨h, rfl⟩

theorem dX12_holds_37 : decode cX12_holds 37 = .ok (.aload_n 0, 1) := by decide +kernel
theorem dX12_holds_38 : decode cX12_holds 38 = .ok (.getfield 13, 3) := by decide +kernel
theorem dX12_holds_41 : decode cX12_holds 41 = .ok (.iload_n 1, 1) := by decide +kernel
theorem dX12_holds_42 : decode cX12_holds 42 = .ok (.invokestatic 242, 3) := by decide +kernel
theorem dX12_holds_45 : decode cX12_holds 45 = .ok (.bipush 82, 2) := by decide +kernel
theorem dX12_holds_47 : decode cX12_holds 47 = .ok (.iadd, 1) := by decide +kernel
theorem dX12_holds_48 : decode cX12_holds 48 = .ok (.iconst 2, 1) := by decide +kernel
theorem dX12_holds_49 : decode cX12_holds 49 = .ok (.iload 5, 2) := by decide +kernel
theorem dX12_holds_51 : decode cX12_holds 51 = .ok (.imul, 1) := by decide +kernel
theorem dX12_holds_52 : decode cX12_holds 52 = .ok (.iadd, 1) := by decide +kernel
theorem dX12_holds_53 : decode cX12_holds 53 = .ok (.iaload, 1) := by decide +kernel
theorem dX12_holds_54 : decode cX12_holds 54 = .ok (.istore 6, 2) := by decide +kernel
theorem dX12_holds_56 : decode cX12_holds 56 = .ok (.aload_n 0, 1) := by decide +kernel
theorem dX12_holds_57 : decode cX12_holds 57 = .ok (.getfield 13, 3) := by decide +kernel
theorem dX12_holds_60 : decode cX12_holds 60 = .ok (.iload_n 1, 1) := by decide +kernel
theorem dX12_holds_61 : decode cX12_holds 61 = .ok (.invokestatic 242, 3) := by decide +kernel
theorem dX12_holds_64 : decode cX12_holds 64 = .ok (.bipush 82, 2) := by decide +kernel
theorem dX12_holds_66 : decode cX12_holds 66 = .ok (.iadd, 1) := by decide +kernel
theorem dX12_holds_67 : decode cX12_holds 67 = .ok (.iconst 2, 1) := by decide +kernel
theorem dX12_holds_68 : decode cX12_holds 68 = .ok (.iload 5, 2) := by decide +kernel
theorem dX12_holds_70 : decode cX12_holds 70 = .ok (.imul, 1) := by decide +kernel
theorem dX12_holds_71 : decode cX12_holds 71 = .ok (.iadd, 1) := by decide +kernel
theorem dX12_holds_72 : decode cX12_holds 72 = .ok (.iconst 1, 1) := by decide +kernel
theorem dX12_holds_73 : decode cX12_holds 73 = .ok (.iadd, 1) := by decide +kernel
theorem dX12_holds_74 : decode cX12_holds 74 = .ok (.iaload, 1) := by decide +kernel
theorem dX12_holds_75 : decode cX12_holds 75 = .ok (.istore 7, 2) := by decide +kernel
theorem dX12_holds_77 : decode cX12_holds 77 = .ok (.iload 6, 2) := by decide +kernel
theorem dX12_holds_79 : decode cX12_holds 79 = .ok (.sipush 300, 3) := by decide +kernel
theorem dX12_holds_82 : decode cX12_holds 82 = .ok (.if_icmp .ne 32, 3) := by decide +kernel
theorem dX12_holds_85 : decode cX12_holds 85 = .ok (.aload_n 0, 1) := by decide +kernel
theorem dX12_holds_86 : decode cX12_holds 86 = .ok (.getfield 36, 3) := by decide +kernel
theorem dX12_holds_89 : decode cX12_holds 89 = .ok (.iload 4, 2) := by decide +kernel
theorem dX12_holds_91 : decode cX12_holds 91 = .ok (.iconst 1, 1) := by decide +kernel
theorem dX12_holds_92 : decode cX12_holds 92 = .ok (.isub, 1) := by decide +kernel
theorem dX12_holds_93 : decode cX12_holds 93 = .ok (.aload_n 0, 1) := by decide +kernel
theorem dX12_holds_94 : decode cX12_holds 94 = .ok (.getfield 36, 3) := by decide +kernel
theorem dX12_holds_97 : decode cX12_holds 97 = .ok (.iload 4, 2) := by decide +kernel
theorem dX12_holds_99 : decode cX12_holds 99 = .ok (.iconst 1, 1) := by decide +kernel
theorem dX12_holds_100 : decode cX12_holds 100 = .ok (.isub, 1) := by decide +kernel
theorem dX12_holds_101 : decode cX12_holds 101 = .ok (.baload, 1) := by decide +kernel
theorem dX12_holds_102 : decode cX12_holds 102 = .ok (.ifCond .ne 7, 3) := by decide +kernel
theorem dX12_holds_105 : decode cX12_holds 105 = .ok (.iconst 1, 1) := by decide +kernel
theorem dX12_holds_106 : decode cX12_holds 106 = .ok (.goto 4, 3) := by decide +kernel
theorem dX12_holds_110 : decode cX12_holds 110 = .ok (.bastore, 1) := by decide +kernel
theorem dX12_holds_111 : decode cX12_holds 111 = .ok (.goto 199, 3) := by decide +kernel
theorem dX12_holds_310 : decode cX12_holds 310 = .ok (.iinc 5 1, 3) := by decide +kernel
theorem dX12_holds_313 : decode cX12_holds 313 = .ok (.goto (-289), 3) := by decide +kernel
set_option maxHeartbeats 2000000 in
theorem r_hold_not_f {Γ : jg_G} {g : Nat → jg_C} {n r : Nat} (hr : r + 11 ≤ n) (s : rs_S) (a c ln i : Nat) (th : Int32) (m : Nat → Int32) (ha : a < 22) (hi : i < 400) (hth : s.2.1 (2812 + (882) * (a) + 82 + (2) * (i) + 1) = th) (Q : jg_Q) (l : List Bool) (hst : s.2.1 (2812 + (882) * (a) + 82 + (2) * (i)) = nI 300) (hl : l.length + 1 ≤ 400) (hm : hrel (false :: l) m) (K : ∀ m9, hrel ((!false) :: l) m9 → jg Γ mX12_holds 1 0 0 24 [some (.ref (r)), some (.int (nI (a))), some (.int (nI (c))), some (.int (nI (ln))), some (.int (nI (l.length + 1))), some (.int (nI (i + 1))), none, none] [] (rs_h g r (s.1, s.2.1, va_up s.2.2 6 m9), n) Q) : jg Γ mX12_holds 1 0 0 37 [some (.ref (r)), some (.int (nI (a))), some (.int (nI (c))), some (.int (nI (ln))), some (.int (nI (l.length + 1))), some (.int (nI (i))), none, none] [] (rs_h g r (s.1, s.2.1, va_up s.2.2 6 m), n) Q := by
  refine jg_aload_n dX12_holds_37 rfl ?_
  refine rs_ga fl_X12_13 dX12_holds_38 hr rfl ?_
  refine jg_iload_n dX12_holds_41 rfl ?_
  refine rs_callS (As := [.int (nI (a))]) ks_X12_242 dX12_holds_42 rfl (by decide) (Nat.le_of_ble_eq_true rfl) rfl (by decide) (Nat.le_of_ble_eq_true rfl) (r_actAt (a)) ?_
  refine jn_bipush (k := 82) dX12_holds_45 (by decide) ?_
  refine jn_iadd (x := 2812 + (882) * (a)) (y := 82) dX12_holds_47  ?_
  refine jn_iconst (k := 2) dX12_holds_48 (by decide) ?_
  refine jg_iload dX12_holds_49 rfl ?_
  refine jn_imul (x := 2) (y := i) dX12_holds_51  ?_
  refine jn_iadd (x := 2812 + (882) * (a) + 82) (y := (2) * (i)) dX12_holds_52  ?_
  refine rs_lwN (i := 2812 + (882) * (a) + 82 + (2) * (i)) (x := (nI (300))) (hst) dX12_holds_53 hr (by omega) ?_
  refine jg_istore (L' := [some (.ref (r)), some (.int (nI (a))), some (.int (nI (c))), some (.int (nI (ln))), some (.int (nI (l.length + 1))), some (.int (nI (i))), some (.int (nI (300))), none]) dX12_holds_54 (by decide) rfl ?_
  refine jg_aload_n dX12_holds_56 rfl ?_
  refine rs_ga fl_X12_13 dX12_holds_57 hr rfl ?_
  refine jg_iload_n dX12_holds_60 rfl ?_
  refine rs_callS (As := [.int (nI (a))]) ks_X12_242 dX12_holds_61 rfl (by decide) (Nat.le_of_ble_eq_true rfl) rfl (by decide) (Nat.le_of_ble_eq_true rfl) (r_actAt (a)) ?_
  refine jn_bipush (k := 82) dX12_holds_64 (by decide) ?_
  refine jn_iadd (x := 2812 + (882) * (a)) (y := 82) dX12_holds_66  ?_
  refine jn_iconst (k := 2) dX12_holds_67 (by decide) ?_
  refine jg_iload dX12_holds_68 rfl ?_
  refine jn_imul (x := 2) (y := i) dX12_holds_70  ?_
  refine jn_iadd (x := 2812 + (882) * (a) + 82) (y := (2) * (i)) dX12_holds_71  ?_
  refine jn_iconst (k := 1) dX12_holds_72 (by decide) ?_
  refine jn_iadd (x := 2812 + (882) * (a) + 82 + (2) * (i)) (y := 1) dX12_holds_73  ?_
  refine rs_lwN (i := 2812 + (882) * (a) + 82 + (2) * (i) + 1) (x := (th)) (hth) dX12_holds_74 hr (by omega) ?_
  refine jg_istore (L' := [some (.ref (r)), some (.int (nI (a))), some (.int (nI (c))), some (.int (nI (ln))), some (.int (nI (l.length + 1))), some (.int (nI (i))), some (.int (nI (300))), some (.int (th))]) dX12_holds_75 (by decide) rfl ?_
  refine jg_iload dX12_holds_77 rfl ?_
  refine jn_sipush (k := 300) dX12_holds_79 (by decide) ?_
  refine jn_icmp_ne (x := 300) (y := 300) (tgt := 114) dX12_holds_82 (by decide) (by omega) (by omega) (fun q9 => absurd q9 (by decide)) (fun _ => ?_)
  refine jg_aload_n dX12_holds_85 rfl ?_
  refine rs_ga fl_X12_36 dX12_holds_86 hr rfl ?_
  refine jg_iload dX12_holds_89 rfl ?_
  refine jn_iconst (k := 1) dX12_holds_91 (by decide) ?_
  refine jn_isub (x := l.length + 1) (y := 1) dX12_holds_92 (by omega) ?_
  refine jg_aload_n dX12_holds_93 rfl ?_
  refine rs_ga fl_X12_36 dX12_holds_94 hr rfl ?_
  refine jg_iload dX12_holds_97 rfl ?_
  refine jn_iconst (k := 1) dX12_holds_99 (by decide) ?_
  refine jn_isub (x := l.length + 1) (y := 1) dX12_holds_100 (by omega) ?_
  refine rs_lzN (i := (l.length + 1) - (1)) (j := 5) (x := (nI (0))) (hm.1) dX12_holds_101 hr (by decide) rfl (by show _ < _; simp only [rs_ln]; omega) ?_
  refine jn_if_ne (x := 0) (tgt := 109) dX12_holds_102 (by decide) (by omega) (fun q9 => absurd q9 (by decide)) (fun _ => ?_)
  refine jn_iconst (k := 1) dX12_holds_105 (by decide) ?_
  refine jg_goto (tgt := 110) dX12_holds_106 (by decide) ?_
  refine rs_sz (i := (l.length + 1) - (1)) (j := 5) (x := (nI (1))) dX12_holds_110 hr (by decide) rfl (by show _ < _; simp only [rs_ln]; omega) ?_
  refine jg_goto (tgt := 310) dX12_holds_111 (by decide) ?_
  refine jn_iinc (x := i) (L' := [some (.ref (r)), some (.int (nI (a))), some (.int (nI (c))), some (.int (nI (ln))), some (.int (nI (l.length + 1))), some (.int (nI (i + 1))), some (.int (nI (300))), some (.int (th))]) dX12_holds_310 rfl rfl (by decide) rfl ?_
  refine jg_goto (tgt := 24) dX12_holds_313 (by decide) ?_
  refine jg_fg (L' := [some (.ref (r)), some (.int (nI (a))), some (.int (nI (c))), some (.int (nI (ln))), some (.int (nI (l.length + 1))), some (.int (nI (i + 1))), none, none]) (by repeat (first | exact trivial | refine ⟨rfl, ?_⟩ | show jg_le _ _)) ?_
  refine jg_at_eq (K _ (hrel_push (x := !false) hm.2 (nar1))) rfl rfl rfl ?_
  simp only [bx_uu, va_up_self]
theorem dX12_holds_109 : decode cX12_holds 109 = .ok (.iconst 0, 1) := by decide +kernel
set_option maxHeartbeats 2000000 in
theorem r_hold_not_t {Γ : jg_G} {g : Nat → jg_C} {n r : Nat} (hr : r + 11 ≤ n) (s : rs_S) (a c ln i : Nat) (th : Int32) (m : Nat → Int32) (ha : a < 22) (hi : i < 400) (hth : s.2.1 (2812 + (882) * (a) + 82 + (2) * (i) + 1) = th) (Q : jg_Q) (l : List Bool) (hst : s.2.1 (2812 + (882) * (a) + 82 + (2) * (i)) = nI 300) (hl : l.length + 1 ≤ 400) (hm : hrel (true :: l) m) (K : ∀ m9, hrel ((!true) :: l) m9 → jg Γ mX12_holds 1 0 0 24 [some (.ref (r)), some (.int (nI (a))), some (.int (nI (c))), some (.int (nI (ln))), some (.int (nI (l.length + 1))), some (.int (nI (i + 1))), none, none] [] (rs_h g r (s.1, s.2.1, va_up s.2.2 6 m9), n) Q) : jg Γ mX12_holds 1 0 0 37 [some (.ref (r)), some (.int (nI (a))), some (.int (nI (c))), some (.int (nI (ln))), some (.int (nI (l.length + 1))), some (.int (nI (i))), none, none] [] (rs_h g r (s.1, s.2.1, va_up s.2.2 6 m), n) Q := by
  refine jg_aload_n dX12_holds_37 rfl ?_
  refine rs_ga fl_X12_13 dX12_holds_38 hr rfl ?_
  refine jg_iload_n dX12_holds_41 rfl ?_
  refine rs_callS (As := [.int (nI (a))]) ks_X12_242 dX12_holds_42 rfl (by decide) (Nat.le_of_ble_eq_true rfl) rfl (by decide) (Nat.le_of_ble_eq_true rfl) (r_actAt (a)) ?_
  refine jn_bipush (k := 82) dX12_holds_45 (by decide) ?_
  refine jn_iadd (x := 2812 + (882) * (a)) (y := 82) dX12_holds_47  ?_
  refine jn_iconst (k := 2) dX12_holds_48 (by decide) ?_
  refine jg_iload dX12_holds_49 rfl ?_
  refine jn_imul (x := 2) (y := i) dX12_holds_51  ?_
  refine jn_iadd (x := 2812 + (882) * (a) + 82) (y := (2) * (i)) dX12_holds_52  ?_
  refine rs_lwN (i := 2812 + (882) * (a) + 82 + (2) * (i)) (x := (nI (300))) (hst) dX12_holds_53 hr (by omega) ?_
  refine jg_istore (L' := [some (.ref (r)), some (.int (nI (a))), some (.int (nI (c))), some (.int (nI (ln))), some (.int (nI (l.length + 1))), some (.int (nI (i))), some (.int (nI (300))), none]) dX12_holds_54 (by decide) rfl ?_
  refine jg_aload_n dX12_holds_56 rfl ?_
  refine rs_ga fl_X12_13 dX12_holds_57 hr rfl ?_
  refine jg_iload_n dX12_holds_60 rfl ?_
  refine rs_callS (As := [.int (nI (a))]) ks_X12_242 dX12_holds_61 rfl (by decide) (Nat.le_of_ble_eq_true rfl) rfl (by decide) (Nat.le_of_ble_eq_true rfl) (r_actAt (a)) ?_
  refine jn_bipush (k := 82) dX12_holds_64 (by decide) ?_
  refine jn_iadd (x := 2812 + (882) * (a)) (y := 82) dX12_holds_66  ?_
  refine jn_iconst (k := 2) dX12_holds_67 (by decide) ?_
  refine jg_iload dX12_holds_68 rfl ?_
  refine jn_imul (x := 2) (y := i) dX12_holds_70  ?_
  refine jn_iadd (x := 2812 + (882) * (a) + 82) (y := (2) * (i)) dX12_holds_71  ?_
  refine jn_iconst (k := 1) dX12_holds_72 (by decide) ?_
  refine jn_iadd (x := 2812 + (882) * (a) + 82 + (2) * (i)) (y := 1) dX12_holds_73  ?_
  refine rs_lwN (i := 2812 + (882) * (a) + 82 + (2) * (i) + 1) (x := (th)) (hth) dX12_holds_74 hr (by omega) ?_
  refine jg_istore (L' := [some (.ref (r)), some (.int (nI (a))), some (.int (nI (c))), some (.int (nI (ln))), some (.int (nI (l.length + 1))), some (.int (nI (i))), some (.int (nI (300))), some (.int (th))]) dX12_holds_75 (by decide) rfl ?_
  refine jg_iload dX12_holds_77 rfl ?_
  refine jn_sipush (k := 300) dX12_holds_79 (by decide) ?_
  refine jn_icmp_ne (x := 300) (y := 300) (tgt := 114) dX12_holds_82 (by decide) (by omega) (by omega) (fun q9 => absurd q9 (by decide)) (fun _ => ?_)
  refine jg_aload_n dX12_holds_85 rfl ?_
  refine rs_ga fl_X12_36 dX12_holds_86 hr rfl ?_
  refine jg_iload dX12_holds_89 rfl ?_
  refine jn_iconst (k := 1) dX12_holds_91 (by decide) ?_
  refine jn_isub (x := l.length + 1) (y := 1) dX12_holds_92 (by omega) ?_
  refine jg_aload_n dX12_holds_93 rfl ?_
  refine rs_ga fl_X12_36 dX12_holds_94 hr rfl ?_
  refine jg_iload dX12_holds_97 rfl ?_
  refine jn_iconst (k := 1) dX12_holds_99 (by decide) ?_
  refine jn_isub (x := l.length + 1) (y := 1) dX12_holds_100 (by omega) ?_
  refine rs_lzN (i := (l.length + 1) - (1)) (j := 5) (x := (nI (1))) (hm.1) dX12_holds_101 hr (by decide) rfl (by show _ < _; simp only [rs_ln]; omega) ?_
  refine jn_if_ne (x := 1) (tgt := 109) dX12_holds_102 (by decide) (by omega) (fun _ => ?_) (fun q9 => absurd q9 (by decide))
  refine jn_iconst (k := 0) dX12_holds_109 (by decide) ?_
  refine rs_sz (i := (l.length + 1) - (1)) (j := 5) (x := (nI (0))) dX12_holds_110 hr (by decide) rfl (by show _ < _; simp only [rs_ln]; omega) ?_
  refine jg_goto (tgt := 310) dX12_holds_111 (by decide) ?_
  refine jn_iinc (x := i) (L' := [some (.ref (r)), some (.int (nI (a))), some (.int (nI (c))), some (.int (nI (ln))), some (.int (nI (l.length + 1))), some (.int (nI (i + 1))), some (.int (nI (300))), some (.int (th))]) dX12_holds_310 rfl rfl (by decide) rfl ?_
  refine jg_goto (tgt := 24) dX12_holds_313 (by decide) ?_
  refine jg_fg (L' := [some (.ref (r)), some (.int (nI (a))), some (.int (nI (c))), some (.int (nI (ln))), some (.int (nI (l.length + 1))), some (.int (nI (i + 1))), none, none]) (by repeat (first | exact trivial | refine ⟨rfl, ?_⟩ | show jg_le _ _)) ?_
  refine jg_at_eq (K _ (hrel_push (x := !true) hm.2 (nar0))) rfl rfl rfl ?_
  simp only [bx_uu, va_up_self]
