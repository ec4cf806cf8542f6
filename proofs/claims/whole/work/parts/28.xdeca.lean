/-! SILTHARBOUR's OWN METHODS AS FUNCTIONS (by program wip/whole/xdec.py): .inr (which exception, the state) where one is thrown -/
def exn (k : Nat) : String := match k with
  | 0 => "java/lang/IndexOutOfBoundsException"
  | 1 => "java/lang/IllegalArgumentException"
  | 2 => "java/lang/IllegalStateException"
  | 3 => "java/lang/UnsupportedOperationException"
  | _ => nsC
/-- the cell of what was thrown -/
def gx (g : Nat → jg_C) (n : Nat) : Nat → jg_C := va_up g n (.inl (99, []))
theorem ct_g {g : Nat → jg_C} {τ : cT} {s : cS} {n : Nat} {x : jg_C} (hT : τ n = .inr (8, 0)) : va_up (ct_h g τ s) n x = ct_h (va_up g n x) τ s := by
  funext a
  by_cases e : a = n
  · subst e; rw [va_up_self]; unfold ct_h; rw [hT]; show _ = if 8 < 8 then _ else _; rw [if_neg (by decide), va_up_self]
  · rw [va_up_ne _ _ e]; unfold ct_h; rw [va_up_ne _ _ e]
theorem gx_e {g : Nat → jg_C} {τ : cT} {s : cS} {n : Nat} (hT : τ n = .inr (8, 0)) : ((va_up (ct_h g τ s, n).1 (ct_h g τ s, n).2 (.inl (99, [])), (ct_h g τ s, n).2 + 1) : jg_H) = (ct_h (gx g n) τ s, n + 1) := congrArg (fun z => (z, n + 1)) (ct_g hT)
def bdb (τ : cT) (n b : Nat) : Bool := decide (b + 170 ≤ n) && (List.range 170).all fun o => decide (τ (b + o) = lt o)
theorem bdb_Bd {τ : cT} {n b : Nat} (h : bdb τ n b = true) : Bd τ n b := by
  simp only [bdb, Bool.and_eq_true, decide_eq_true_eq, List.all_eq_true, List.mem_range] at h
  exact h
theorem Bd_bdb {τ : cT} {n b : Nat} (h : Bd τ n b) : bdb τ n b = true := by
  simp only [bdb, Bool.and_eq_true, decide_eq_true_eq, List.all_eq_true, List.mem_range]
  exact h
theorem dX11_addBytes_0 : decode cX11_addBytes 0 = .ok (.bipush 24, 2) := by decide +kernel
theorem dX11_addBytes_2 : decode cX11_addBytes 2 = .ok (.istore_n 2, 1) := by decide +kernel
theorem dX11_addBytes_3 : decode cX11_addBytes 3 = .ok (.iload_n 2, 1) := by decide +kernel
theorem dX11_addBytes_4 : decode cX11_addBytes 4 = .ok (.ifCond .lt 44, 3) := by decide +kernel
theorem dX11_addBytes_7 : decode cX11_addBytes 7 = .ok (.aload_n 0, 1) := by decide +kernel
theorem dX11_addBytes_8 : decode cX11_addBytes 8 = .ok (.getfield 13, 3) := by decide +kernel
theorem dX11_addBytes_11 : decode cX11_addBytes 11 = .ok (.aload_n 0, 1) := by decide +kernel
theorem dX11_addBytes_12 : decode cX11_addBytes 12 = .ok (.getfield 9, 3) := by decide +kernel
theorem dX11_addBytes_15 : decode cX11_addBytes 15 = .ok (.arraylength, 1) := by decide +kernel
theorem dX11_addBytes_16 : decode cX11_addBytes 16 = .ok (.if_icmp .ge 32, 3) := by decide +kernel
theorem dX11_addBytes_19 : decode cX11_addBytes 19 = .ok (.aload_n 0, 1) := by decide +kernel
theorem dX11_addBytes_20 : decode cX11_addBytes 20 = .ok (.getfield 9, 3) := by decide +kernel
theorem dX11_addBytes_23 : decode cX11_addBytes 23 = .ok (.aload_n 0, 1) := by decide +kernel
theorem dX11_addBytes_24 : decode cX11_addBytes 24 = .ok (.getfield 13, 3) := by decide +kernel
theorem dX11_addBytes_27 : decode cX11_addBytes 27 = .ok (.iload_n 1, 1) := by decide +kernel
theorem dX11_addBytes_28 : decode cX11_addBytes 28 = .ok (.iload_n 2, 1) := by decide +kernel
theorem dX11_addBytes_29 : decode cX11_addBytes 29 = .ok (.ishr, 1) := by decide +kernel
theorem dX11_addBytes_30 : decode cX11_addBytes 30 = .ok (.i2b, 1) := by decide +kernel
theorem dX11_addBytes_31 : decode cX11_addBytes 31 = .ok (.bastore, 1) := by decide +kernel
theorem dX11_addBytes_32 : decode cX11_addBytes 32 = .ok (.aload_n 0, 1) := by decide +kernel
theorem dX11_addBytes_33 : decode cX11_addBytes 33 = .ok (.dup, 1) := by decide +kernel
theorem dX11_addBytes_34 : decode cX11_addBytes 34 = .ok (.getfield 13, 3) := by decide +kernel
theorem dX11_addBytes_37 : decode cX11_addBytes 37 = .ok (.iconst 1, 1) := by decide +kernel
theorem dX11_addBytes_38 : decode cX11_addBytes 38 = .ok (.iadd, 1) := by decide +kernel
theorem dX11_addBytes_39 : decode cX11_addBytes 39 = .ok (.putfield 13, 3) := by decide +kernel
theorem dX11_addBytes_42 : decode cX11_addBytes 42 = .ok (.iinc 2 (-8), 3) := by decide +kernel
theorem dX11_addBytes_45 : decode cX11_addBytes 45 = .ok (.goto (-42), 3) := by decide +kernel
theorem dX11_addBytes_48 : decode cX11_addBytes 48 = .ok (.return_, 1) := by decide +kernel
noncomputable def o_X11_addBytes_3 (F : Nat) (τ : cT) (n : Nat) (o : Nat) (l1 : Int32)  : Nat → Int32 → cS → Option (cS)
  | 0, _, _ => none
  | f + 1, l2, s => if l2 < 0 then (some s) else (if (nI 400) ≤ (s.1 o 1) then (some s) else (if iL (s.1 o 1) 400 then ((some (ca s (o + 1) (s.1 o 1) (vp_nar .byte ((l1 >>> (l2 &&& 31)).toInt8.toInt32)))).bind fun x4 => (o_X11_addBytes_3 F τ n o l1 f (l2 + (-8)) (cp x4 o 1 ((x4.1 o 1) + (nI 1))))) else none))
set_option maxHeartbeats 4000000 in
theorem t_X11_addBytes_3 {Γ : jg_G} {g : Nat → jg_C} {a9 b9 : Nat} (F : Nat) (τ : cT) (n : Nat) (o : Nat) (l1 : Int32)  (hO : Sh τ n o) (Q : jg_Q) {x : cS} (K1 : jg Γ mX11_addBytes 0 a9 b9 48 [none, none, none] [] (ct_h g τ x, n) Q)  : ∀ (f : Nat) (l2 : Int32) (s : cS), o_X11_addBytes_3 F τ n o l1 f l2 s = some x → jg Γ mX11_addBytes 0 a9 b9 3 [some (.ref o), some (.int l1), some (.int l2)] [] (ct_h g τ s, n) Q := by
  intro f
  induction f with
  | zero => intro l2 s h; rw [o_X11_addBytes_3] at h; cases h
  | succ f ih =>
   intro l2 s h
   rw [o_X11_addBytes_3] at h
   refine jg_iload_n dX11_addBytes_3 rfl ?_
   refine jg_if_lt (x := l2) (tgt := 48) dX11_addBytes_4 (by decide) (fun c1 => ?_) (fun c1 => ?_)
   · replace h := it_t c1 h
     refine jg_fg (L' := [none, none, none]) (by repeat (first | exact trivial | refine ⟨rfl, ?_⟩ | show jg_le _ _)) ?_
     obtain rfl := Option.some.inj h
     exact K1
   · replace h := it_f c1 h
     refine jg_aload_n dX11_addBytes_7 rfl ?_
     refine cs_get (s := s) (w := .int (s.1 o 1)) fl_X11_13 dX11_addBytes_8 hO.ob0 rfl ?_
     refine jg_aload_n dX11_addBytes_11 rfl ?_
     refine cs_get (s := s) (w := .ref (o + 1)) fl_X11_9 dX11_addBytes_12 hO.ob0 rfl ?_
     refine cs_len (s := s) (q := (o + 1)) (by decide) dX11_addBytes_15 (hO.ar 1 (by decide) rfl) ?_
     refine jg_icmp_ge (x := (s.1 o 1)) (y := (nI 400)) (tgt := 48) dX11_addBytes_16 (by decide) (fun c2 => ?_) (fun c2 => ?_)
     · replace h := it_t c2 h
       refine jg_fg (L' := [none, none, none]) (by repeat (first | exact trivial | refine ⟨rfl, ?_⟩ | show jg_le _ _)) ?_
       obtain rfl := Option.some.inj h
       exact K1
     · replace h := it_f c2 h
       refine jg_aload_n dX11_addBytes_19 rfl ?_
       refine cs_get (s := s) (w := .ref (o + 1)) fl_X11_9 dX11_addBytes_20 hO.ob0 rfl ?_
       refine jg_aload_n dX11_addBytes_23 rfl ?_
       refine cs_get (s := s) (w := .int (s.1 o 1)) fl_X11_13 dX11_addBytes_24 hO.ob0 rfl ?_
       refine jg_iload_n dX11_addBytes_27 rfl ?_
       refine jg_iload_n dX11_addBytes_28 rfl ?_
       refine jg_ishr (x := l1) (y := l2) dX11_addBytes_29  ?_
       refine jg_i2b dX11_addBytes_30 ?_
       obtain ⟨q3, h⟩ := gd_some h
       refine cs_stb (s := s) (q := (o + 1)) (i := (s.1 o 1)) (x := ((l1 >>> (l2 &&& 31)).toInt8.toInt32)) dX11_addBytes_31 (hO.ar 1 (by decide) rfl) q3 ?_
       obtain ⟨x4, e_x4, h⟩ := bd_some h
       refine cs_sub (Option.some.inj e_x4) ?_
       refine jg_aload_n dX11_addBytes_32 rfl ?_
       refine jg_dup dX11_addBytes_33 rfl ?_
       refine cs_get (s := x4) (w := .int (x4.1 o 1)) fl_X11_13 dX11_addBytes_34 hO.ob0 rfl ?_
       refine jg_iconst (v := nI 1) dX11_addBytes_37 (by decide) ?_
       refine jg_iadd (x := (x4.1 o 1)) (y := (nI 1)) dX11_addBytes_38  ?_
       refine cs_put (s := x4) (k := 1) (x := ((x4.1 o 1) + (nI 1))) fl_X11_13 dX11_addBytes_39 hO.ob0 (ltb rfl) (rfl) rfl rfl ?_
       refine jg_iinc (x := l2) (v := l2 + (-8)) (L' := [some (.ref o), some (.int l1), some (.int (l2 + (-8)))]) dX11_addBytes_42 rfl (ic_k _ (by decide)) (by decide) rfl ?_
       refine jg_goto (tgt := 3) dX11_addBytes_45 (by decide) ?_
       refine jg_fg (L' := [some (.ref o), some (.int l1), some (.int (l2 + (-8)))]) (by repeat (first | exact trivial | refine ⟨rfl, ?_⟩ | show jg_le _ _)) ?_
       exact ih (l2 + (-8)) (cp x4 o 1 ((x4.1 o 1) + (nI 1))) h
noncomputable def o_X11_addBytes (F : Nat) (τ : cT) (n : Nat) (o : Nat) (s : cS) (a1 : Int32) : Option (cS) := (o_X11_addBytes_3 F τ n o a1 F (nI 24) s).bind fun x5 => (some x5)
set_option maxHeartbeats 4000000 in
theorem t_X11_addBytes {Γ : jg_G} {g : Nat → jg_C} (F : Nat) (τ : cT) (n : Nat) (o : Nat) (s : cS) (a1 : Int32) (hO : Sh τ n o) {x : cS} (h : o_X11_addBytes F τ n o s a1 = some x) : jc Γ mX11_addBytes 0 0 0 [some (.ref o), some (.int a1), none] (ct_h g τ s, n) (.inl none) (ct_h g τ x, n) := by
  refine jc_of ?_
  rw [o_X11_addBytes] at h
  refine jg_bipush (v := nI 24) dX11_addBytes_0 (by decide) ?_
  refine jg_istore_n (L' := [some (.ref o), some (.int a1), some (.int (nI 24))]) dX11_addBytes_2 (by decide) rfl ?_
  obtain ⟨x5, e_x5, h⟩ := bd_some h
  refine jg_fg (L' := [some (.ref o), some (.int a1), some (.int (nI 24))]) (by repeat (first | exact trivial | refine ⟨rfl, ?_⟩ | show jg_le _ _)) ?_
  refine t_X11_addBytes_3  F τ n o a1 hO _ (x := x5) ?_ F (nI 24) s e_x5
  obtain rfl := Option.some.inj h
  exact jg_return dX11_addBytes_48 rfl ⟨rfl, rfl⟩
theorem dX11_feed_0 : decode cX11_feed 0 = .ok (.aload_n 0, 1) := by decide +kernel
theorem dX11_feed_1 : decode cX11_feed 1 = .ok (.getfield 13, 3) := by decide +kernel
theorem dX11_feed_4 : decode cX11_feed 4 = .ok (.bipush 20, 2) := by decide +kernel
theorem dX11_feed_6 : decode cX11_feed 6 = .ok (.iadd, 1) := by decide +kernel
theorem dX11_feed_7 : decode cX11_feed 7 = .ok (.sipush 400, 3) := by decide +kernel
theorem dX11_feed_10 : decode cX11_feed 10 = .ok (.if_icmp .le 5, 3) := by decide +kernel
theorem dX11_feed_13 : decode cX11_feed 13 = .ok (.iconst (-1), 1) := by decide +kernel
theorem dX11_feed_14 : decode cX11_feed 14 = .ok (.ireturn, 1) := by decide +kernel
theorem dX11_feed_15 : decode cX11_feed 15 = .ok (.aload_n 0, 1) := by decide +kernel
theorem dX11_feed_16 : decode cX11_feed 16 = .ok (.iload_n 1, 1) := by decide +kernel
theorem dX11_feed_17 : decode cX11_feed 17 = .ok (.invokevirtual 34, 3) := by decide +kernel
theorem dX11_feed_20 : decode cX11_feed 20 = .ok (.aload_n 0, 1) := by decide +kernel
theorem dX11_feed_21 : decode cX11_feed 21 = .ok (.iload_n 2, 1) := by decide +kernel
theorem dX11_feed_22 : decode cX11_feed 22 = .ok (.invokevirtual 34, 3) := by decide +kernel
theorem dX11_feed_25 : decode cX11_feed 25 = .ok (.aload_n 0, 1) := by decide +kernel
theorem dX11_feed_26 : decode cX11_feed 26 = .ok (.iload_n 3, 1) := by decide +kernel
theorem dX11_feed_27 : decode cX11_feed 27 = .ok (.invokevirtual 34, 3) := by decide +kernel
theorem dX11_feed_30 : decode cX11_feed 30 = .ok (.aload_n 0, 1) := by decide +kernel
theorem dX11_feed_31 : decode cX11_feed 31 = .ok (.iload 4, 2) := by decide +kernel
theorem dX11_feed_33 : decode cX11_feed 33 = .ok (.invokevirtual 34, 3) := by decide +kernel
theorem dX11_feed_36 : decode cX11_feed 36 = .ok (.aload_n 0, 1) := by decide +kernel
theorem dX11_feed_37 : decode cX11_feed 37 = .ok (.iload 5, 2) := by decide +kernel
theorem dX11_feed_39 : decode cX11_feed 39 = .ok (.invokevirtual 34, 3) := by decide +kernel
theorem dX11_feed_42 : decode cX11_feed 42 = .ok (.aload_n 0, 1) := by decide +kernel
theorem dX11_feed_43 : decode cX11_feed 43 = .ok (.getfield 13, 3) := by decide +kernel
theorem dX11_feed_46 : decode cX11_feed 46 = .ok (.ireturn, 1) := by decide +kernel
noncomputable def o_X11_feed (F : Nat) (τ : cT) (n : Nat) (o : Nat) (s : cS) (a1 : Int32) (a2 : Int32) (a3 : Int32) (a4 : Int32) (a5 : Int32) : Option (Int32 × cS) := if ((s.1 o 1) + (nI 20)) ≤ (nI 400) then ((o_X11_addBytes F τ n o s a1).bind fun x2 => ((o_X11_addBytes F τ n o x2 a2).bind fun x3 => ((o_X11_addBytes F τ n o x3 a3).bind fun x4 => ((o_X11_addBytes F τ n o x4 a4).bind fun x5 => ((o_X11_addBytes F τ n o x5 a5).bind fun x6 => (some (x6.1 o 1, x6))))))) else (some ((-1), s))
set_option maxHeartbeats 4000000 in
theorem t_X11_feed {Γ : jg_G} {g : Nat → jg_C} (F : Nat) (τ : cT) (n : Nat) (o : Nat) (s : cS) (a1 : Int32) (a2 : Int32) (a3 : Int32) (a4 : Int32) (a5 : Int32) (hO : Sh τ n o) {x : Int32 × cS} (h : o_X11_feed F τ n o s a1 a2 a3 a4 a5 = some x) : jc Γ mX11_feed 1 0 0 [some (.ref o), some (.int a1), some (.int a2), some (.int a3), some (.int a4), some (.int a5)] (ct_h g τ s, n) (.inl (some (.int x.1))) (ct_h g τ x.2, n) := by
  refine jc_of ?_
  rw [o_X11_feed] at h
  refine jg_aload_n dX11_feed_0 rfl ?_
  refine cs_get (s := s) (w := .int (s.1 o 1)) fl_X11_13 dX11_feed_1 hO.ob0 rfl ?_
  refine jg_bipush (v := nI 20) dX11_feed_4 (by decide) ?_
  refine jg_iadd (x := (s.1 o 1)) (y := (nI 20)) dX11_feed_6  ?_
  refine jg_sipush (v := nI 400) dX11_feed_7 (by decide) ?_
  refine jg_icmp_le (x := ((s.1 o 1) + (nI 20))) (y := (nI 400)) (tgt := 15) dX11_feed_10 (by decide) (fun c1 => ?_) (fun c1 => ?_)
  · replace h := it_t c1 h
    refine jg_aload_n dX11_feed_15 rfl ?_
    refine jg_iload_n dX11_feed_16 rfl ?_
    obtain ⟨x2, e_x2, h⟩ := bd_some h
    refine cs_call (q := o) (As := [.int a1]) kv_X11_34 dX11_feed_17 hO.ob0 rfl rfl (by decide) (Nat.le_of_ble_eq_true rfl) rfl (by decide) (Nat.le_of_ble_eq_true rfl) (t_X11_addBytes F τ n o s a1 hO e_x2) ?_
    refine jg_aload_n dX11_feed_20 rfl ?_
    refine jg_iload_n dX11_feed_21 rfl ?_
    obtain ⟨x3, e_x3, h⟩ := bd_some h
    refine cs_call (q := o) (As := [.int a2]) kv_X11_34 dX11_feed_22 hO.ob0 rfl rfl (by decide) (Nat.le_of_ble_eq_true rfl) rfl (by decide) (Nat.le_of_ble_eq_true rfl) (t_X11_addBytes F τ n o x2 a2 hO e_x3) ?_
    refine jg_aload_n dX11_feed_25 rfl ?_
    refine jg_iload_n dX11_feed_26 rfl ?_
    obtain ⟨x4, e_x4, h⟩ := bd_some h
    refine cs_call (q := o) (As := [.int a3]) kv_X11_34 dX11_feed_27 hO.ob0 rfl rfl (by decide) (Nat.le_of_ble_eq_true rfl) rfl (by decide) (Nat.le_of_ble_eq_true rfl) (t_X11_addBytes F τ n o x3 a3 hO e_x4) ?_
    refine jg_aload_n dX11_feed_30 rfl ?_
    refine jg_iload dX11_feed_31 rfl ?_
    obtain ⟨x5, e_x5, h⟩ := bd_some h
    refine cs_call (q := o) (As := [.int a4]) kv_X11_34 dX11_feed_33 hO.ob0 rfl rfl (by decide) (Nat.le_of_ble_eq_true rfl) rfl (by decide) (Nat.le_of_ble_eq_true rfl) (t_X11_addBytes F τ n o x4 a4 hO e_x5) ?_
    refine jg_aload_n dX11_feed_36 rfl ?_
    refine jg_iload dX11_feed_37 rfl ?_
    obtain ⟨x6, e_x6, h⟩ := bd_some h
    refine cs_call (q := o) (As := [.int a5]) kv_X11_34 dX11_feed_39 hO.ob0 rfl rfl (by decide) (Nat.le_of_ble_eq_true rfl) rfl (by decide) (Nat.le_of_ble_eq_true rfl) (t_X11_addBytes F τ n o x5 a5 hO e_x6) ?_
    refine jg_aload_n dX11_feed_42 rfl ?_
    refine cs_get (s := x6) (w := .int (x6.1 o 1)) fl_X11_13 dX11_feed_43 hO.ob0 rfl ?_
    obtain rfl := Option.some.inj h
    exact jg_ireturn dX11_feed_46 rfl ⟨rfl, rfl⟩
  · replace h := it_f c1 h
    refine jg_iconst (v := (-1)) dX11_feed_13 (by decide) ?_
    obtain rfl := Option.some.inj h
    exact jg_ireturn dX11_feed_14 rfl ⟨rfl, rfl⟩
theorem dX11_end_0 : decode cX11_end 0 = .ok (.iload_n 1, 1) := by decide +kernel
theorem dX11_end_1 : decode cX11_end 1 = .ok (.ifCond .lt 11, 3) := by decide +kernel
theorem dX11_end_4 : decode cX11_end 4 = .ok (.iload_n 1, 1) := by decide +kernel
theorem dX11_end_5 : decode cX11_end 5 = .ok (.aload_n 0, 1) := by decide +kernel
theorem dX11_end_6 : decode cX11_end 6 = .ok (.getfield 13, 3) := by decide +kernel
theorem dX11_end_9 : decode cX11_end 9 = .ok (.if_icmp .le 5, 3) := by decide +kernel
theorem dX11_end_12 : decode cX11_end 12 = .ok (.iconst 0, 1) := by decide +kernel
theorem dX11_end_13 : decode cX11_end 13 = .ok (.ireturn, 1) := by decide +kernel
theorem dX11_end_14 : decode cX11_end 14 = .ok (.aload_n 0, 1) := by decide +kernel
theorem dX11_end_15 : decode cX11_end 15 = .ok (.iload_n 1, 1) := by decide +kernel
theorem dX11_end_16 : decode cX11_end 16 = .ok (.putfield 13, 3) := by decide +kernel
theorem dX11_end_19 : decode cX11_end 19 = .ok (.iconst 1, 1) := by decide +kernel
theorem dX11_end_20 : decode cX11_end 20 = .ok (.ireturn, 1) := by decide +kernel
noncomputable def o_X11_end (τ : cT) (n : Nat) (o : Nat) (s : cS) (a1 : Int32) : Option (Int32 × cS) := if a1 < 0 then (some (nI 0, s)) else (if a1 ≤ (s.1 o 1) then (some (nI 1, cp s o 1 a1)) else (some (nI 0, s)))
set_option maxHeartbeats 4000000 in
theorem t_X11_end {Γ : jg_G} {g : Nat → jg_C} (τ : cT) (n : Nat) (o : Nat) (s : cS) (a1 : Int32) (hO : Sh τ n o) {x : Int32 × cS} (h : o_X11_end τ n o s a1 = some x) : jc Γ mX11_end 0 0 0 [some (.ref o), some (.int a1)] (ct_h g τ s, n) (.inl (some (.int x.1))) (ct_h g τ x.2, n) := by
  refine jc_of ?_
  rw [o_X11_end] at h
  refine jg_iload_n dX11_end_0 rfl ?_
  refine jg_if_lt (x := a1) (tgt := 12) dX11_end_1 (by decide) (fun c1 => ?_) (fun c1 => ?_)
  · replace h := it_t c1 h
    refine jg_iconst (v := nI 0) dX11_end_12 (by decide) ?_
    obtain rfl := Option.some.inj h
    exact jg_zreturn dX11_end_13 rfl (rfl) ⟨rfl, rfl⟩
  · replace h := it_f c1 h
    refine jg_iload_n dX11_end_4 rfl ?_
    refine jg_aload_n dX11_end_5 rfl ?_
    refine cs_get (s := s) (w := .int (s.1 o 1)) fl_X11_13 dX11_end_6 hO.ob0 rfl ?_
    refine jg_icmp_le (x := a1) (y := (s.1 o 1)) (tgt := 14) dX11_end_9 (by decide) (fun c2 => ?_) (fun c2 => ?_)
    · replace h := it_t c2 h
      refine jg_aload_n dX11_end_14 rfl ?_
      refine jg_iload_n dX11_end_15 rfl ?_
      refine cs_put (s := s) (k := 1) (x := a1) fl_X11_13 dX11_end_16 hO.ob0 (ltb rfl) (rfl) rfl rfl ?_
      refine jg_iconst (v := nI 1) dX11_end_19 (by decide) ?_
      obtain rfl := Option.some.inj h
      exact jg_zreturn dX11_end_20 rfl (rfl) ⟨rfl, rfl⟩
    · replace h := it_f c2 h
      refine jg_iconst (v := nI 0) dX11_end_12 (by decide) ?_
      obtain rfl := Option.some.inj h
      exact jg_zreturn dX11_end_13 rfl (rfl) ⟨rfl, rfl⟩
theorem dX11_fault_0 : decode cX11_fault 0 = .ok (.aload_n 0, 1) := by decide +kernel
theorem dX11_fault_1 : decode cX11_fault 1 = .ok (.getfield 20, 3) := by decide +kernel
theorem dX11_fault_4 : decode cX11_fault 4 = .ok (.getfield 305, 3) := by decide +kernel
theorem dX11_fault_7 : decode cX11_fault 7 = .ok (.ireturn, 1) := by decide +kernel
noncomputable def o_X11_fault (τ : cT) (n : Nat) (o : Nat) (s : cS) : Option (Int32) := some (s.1 (o + 2) 0)
set_option maxHeartbeats 4000000 in
theorem t_X11_fault {Γ : jg_G} {g : Nat → jg_C} (τ : cT) (n : Nat) (o : Nat) (s : cS) (hO : Sh τ n o) {x : Int32} (h : o_X11_fault τ n o s = some x) : jc Γ mX11_fault 0 0 0 [some (.ref o)] (ct_h g τ s, n) (.inl (some (.int x))) (ct_h g τ s, n) := by
  refine jc_of ?_
  rw [o_X11_fault] at h
  refine jg_aload_n dX11_fault_0 rfl ?_
  refine cs_get (s := s) (w := .ref (o + 2)) fl_X11_20 dX11_fault_1 hO.ob0 rfl ?_
  refine cs_get (s := s) (w := .int (s.1 (o + 2) 0)) fl_X11_305 dX11_fault_4 (hO.ob 2 (by decide) rfl) rfl ?_
  obtain rfl := Option.some.inj h
  exact jg_ireturn dX11_fault_7 rfl ⟨rfl, rfl⟩
theorem dX11_bring_0 : decode cX11_bring 0 = .ok (.aload_n 0, 1) := by decide +kernel
theorem dX11_bring_1 : decode cX11_bring 1 = .ok (.getfield 27, 3) := by decide +kernel
theorem dX11_bring_4 : decode cX11_bring 4 = .ok (.invokevirtual 388, 3) := by decide +kernel
theorem dX11_bring_7 : decode cX11_bring 7 = .ok (.ireturn, 1) := by decide +kernel
noncomputable def o_X11_bring (F : Nat) (τ : cT) (n : Nat) (o : Nat) (s : cS) : Option (Int32 × cS) := (o_X2_leastToBringIn F τ n (o + 10) s).bind fun x1 => (some (x1.1, x1.2))
set_option maxHeartbeats 4000000 in
theorem t_X11_bring {Γ : jg_G} {g : Nat → jg_C} (F : Nat) (τ : cT) (n : Nat) (o : Nat) (s : cS) (hO : Sh τ n o) {x : Int32 × cS} (h : o_X11_bring F τ n o s = some x) : jc Γ mX11_bring 20 0 0 [some (.ref o)] (ct_h g τ s, n) (.inl (some (.int x.1))) (ct_h g τ x.2, n) := by
  refine jc_of ?_
  rw [o_X11_bring] at h
  refine jg_aload_n dX11_bring_0 rfl ?_
  refine cs_get (s := s) (w := .ref (o + 10)) fl_X11_27 dX11_bring_1 hO.ob0 rfl ?_
  obtain ⟨x1, e_x1, h⟩ := bd_some h
  refine cs_call (q := (o + 10)) (As := []) kv_X11_388 dX11_bring_4 hO.1.ob0 rfl rfl (by decide) (Nat.le_of_ble_eq_true rfl) rfl (by decide) (Nat.le_of_ble_eq_true rfl) (t_X2_leastToBringIn F τ n (o + 10) s hO.1 e_x1) ?_
  obtain rfl := Option.some.inj h
  exact jg_ireturn dX11_bring_7 rfl ⟨rfl, rfl⟩
theorem dX11_again_0 : decode cX11_again 0 = .ok (.aload_n 0, 1) := by decide +kernel
theorem dX11_again_1 : decode cX11_again 1 = .ok (.getfield 31, 3) := by decide +kernel
theorem dX11_again_4 : decode cX11_again 4 = .ok (.ifnonnull 5, 3) := by decide +kernel
theorem dX11_again_7 : decode cX11_again 7 = .ok (.iconst 0, 1) := by decide +kernel
theorem dX11_again_8 : decode cX11_again 8 = .ok (.ireturn, 1) := by decide +kernel
theorem dX11_again_9 : decode cX11_again 9 = .ok (.aload_n 0, 1) := by decide +kernel
theorem dX11_again_10 : decode cX11_again 10 = .ok (.getfield 27, 3) := by decide +kernel
theorem dX11_again_13 : decode cX11_again 13 = .ok (.aload_n 0, 1) := by decide +kernel
theorem dX11_again_14 : decode cX11_again 14 = .ok (.getfield 31, 3) := by decide +kernel
theorem dX11_again_17 : decode cX11_again 17 = .ok (.invokevirtual 412, 3) := by decide +kernel
theorem dX11_again_20 : decode cX11_again 20 = .ok (.iconst 1, 1) := by decide +kernel
theorem dX11_again_21 : decode cX11_again 21 = .ok (.ireturn, 1) := by decide +kernel
noncomputable def o_X11_again (F : Nat) (τ : cT) (n : Nat) (o : Nat) (s : cS) : Option (Int32 × cS) := Option.elim (s.2 o 4) (some (nI 0, s)) (fun y1 => if bdb τ n y1 = true then ((o_X2_copyFrom F τ n (o + 10) y1 s).bind fun x2 => (some (nI 1, x2))) else none)
set_option maxHeartbeats 4000000 in
theorem t_X11_again {Γ : jg_G} {g : Nat → jg_C} (F : Nat) (τ : cT) (n : Nat) (o : Nat) (s : cS) (hO : Sh τ n o) {x : Int32 × cS} (h : o_X11_again F τ n o s = some x) : jc Γ mX11_again 4 0 0 [some (.ref o)] (ct_h g τ s, n) (.inl (some (.int x.1))) (ct_h g τ x.2, n) := by
  refine jc_of ?_
  rw [o_X11_again] at h
  refine jg_aload_n dX11_again_0 rfl ?_
  rcases e_y1 : s.2 o 4 with _ | y1
  · rw [e_y1] at h; replace h := oe_n h
    refine cs_get (s := s) (w := .null) fl_X11_31 dX11_again_1 hO.ob0 (by show some (vr (s.2 o 4)) = _; rw [e_y1]; rfl) ?_
    refine jg_ifnonnullN dX11_again_4 ?_
    refine jg_iconst (v := nI 0) dX11_again_7 (by decide) ?_
    obtain rfl := Option.some.inj h
    exact jg_zreturn dX11_again_8 rfl (rfl) ⟨rfl, rfl⟩
  · rw [e_y1] at h; replace h := oe_s h
    obtain ⟨q_y1, h⟩ := gd_some h
    refine cs_get (s := s) (w := .ref y1) fl_X11_31 dX11_again_1 hO.ob0 (by show some (vr (s.2 o 4)) = _; rw [e_y1]; rfl) ?_
    refine jg_ifnonnull (tgt := 9) dX11_again_4 (by decide) ?_
    refine jg_aload_n dX11_again_9 rfl ?_
    refine cs_get (s := s) (w := .ref (o + 10)) fl_X11_27 dX11_again_10 hO.ob0 rfl ?_
    refine jg_aload_n dX11_again_13 rfl ?_
    refine cs_get (s := s) (w := .ref y1) fl_X11_31 dX11_again_14 hO.ob0 (by show some (vr (s.2 o 4)) = _; rw [e_y1]; rfl) ?_
    obtain ⟨x2, e_x2, h⟩ := bd_some h
    refine cs_call (q := (o + 10)) (As := [.ref y1]) kv_X11_412 dX11_again_17 hO.1.ob0 rfl rfl (by decide) (Nat.le_of_ble_eq_true rfl) rfl (by decide) (Nat.le_of_ble_eq_true rfl) (t_X2_copyFrom F τ n (o + 10) y1 s hO.1 (bdb_Bd q_y1) e_x2) ?_
    refine jg_iconst (v := nI 1) dX11_again_20 (by decide) ?_
    obtain rfl := Option.some.inj h
    exact jg_zreturn dX11_again_21 rfl (rfl) ⟨rfl, rfl⟩
theorem dX11_countMore_0 : decode cX11_countMore 0 = .ok (.iload_n 1, 1) := by decide +kernel
theorem dX11_countMore_1 : decode cX11_countMore 1 = .ok (.tableswitch 201 12 23 #[63, 74, 85, 96, 107, 118, 129, 140, 151, 162, 173, 187], 63) := by decide +kernel
theorem dX11_countMore_64 : decode cX11_countMore 64 = .ok (.aload_n 0, 1) := by decide +kernel
theorem dX11_countMore_65 : decode cX11_countMore 65 = .ok (.getfield 27, 3) := by decide +kernel
theorem dX11_countMore_68 : decode cX11_countMore 68 = .ok (.getfield 141, 3) := by decide +kernel
theorem dX11_countMore_71 : decode cX11_countMore 71 = .ok (.getfield 434, 3) := by decide +kernel
theorem dX11_countMore_74 : decode cX11_countMore 74 = .ok (.ireturn, 1) := by decide +kernel
theorem dX11_countMore_75 : decode cX11_countMore 75 = .ok (.aload_n 0, 1) := by decide +kernel
theorem dX11_countMore_76 : decode cX11_countMore 76 = .ok (.getfield 27, 3) := by decide +kernel
theorem dX11_countMore_79 : decode cX11_countMore 79 = .ok (.getfield 123, 3) := by decide +kernel
theorem dX11_countMore_82 : decode cX11_countMore 82 = .ok (.invokevirtual 437, 3) := by decide +kernel
theorem dX11_countMore_85 : decode cX11_countMore 85 = .ok (.ireturn, 1) := by decide +kernel
theorem dX11_countMore_86 : decode cX11_countMore 86 = .ok (.aload_n 0, 1) := by decide +kernel
theorem dX11_countMore_87 : decode cX11_countMore 87 = .ok (.getfield 27, 3) := by decide +kernel
theorem dX11_countMore_90 : decode cX11_countMore 90 = .ok (.getfield 55, 3) := by decide +kernel
theorem dX11_countMore_93 : decode cX11_countMore 93 = .ok (.getfield 440, 3) := by decide +kernel
theorem dX11_countMore_96 : decode cX11_countMore 96 = .ok (.ireturn, 1) := by decide +kernel
theorem dX11_countMore_97 : decode cX11_countMore 97 = .ok (.aload_n 0, 1) := by decide +kernel
theorem dX11_countMore_98 : decode cX11_countMore 98 = .ok (.getfield 27, 3) := by decide +kernel
theorem dX11_countMore_101 : decode cX11_countMore 101 = .ok (.getfield 55, 3) := by decide +kernel
theorem dX11_countMore_104 : decode cX11_countMore 104 = .ok (.getfield 443, 3) := by decide +kernel
theorem dX11_countMore_107 : decode cX11_countMore 107 = .ok (.ireturn, 1) := by decide +kernel
theorem dX11_countMore_108 : decode cX11_countMore 108 = .ok (.aload_n 0, 1) := by decide +kernel
theorem dX11_countMore_109 : decode cX11_countMore 109 = .ok (.getfield 27, 3) := by decide +kernel
theorem dX11_countMore_112 : decode cX11_countMore 112 = .ok (.getfield 55, 3) := by decide +kernel
theorem dX11_countMore_115 : decode cX11_countMore 115 = .ok (.getfield 446, 3) := by decide +kernel
theorem dX11_countMore_118 : decode cX11_countMore 118 = .ok (.ireturn, 1) := by decide +kernel
theorem dX11_countMore_119 : decode cX11_countMore 119 = .ok (.aload_n 0, 1) := by decide +kernel
theorem dX11_countMore_120 : decode cX11_countMore 120 = .ok (.getfield 27, 3) := by decide +kernel
theorem dX11_countMore_123 : decode cX11_countMore 123 = .ok (.getfield 112, 3) := by decide +kernel
theorem dX11_countMore_126 : decode cX11_countMore 126 = .ok (.getfield 449, 3) := by decide +kernel
theorem dX11_countMore_129 : decode cX11_countMore 129 = .ok (.ireturn, 1) := by decide +kernel
theorem dX11_countMore_130 : decode cX11_countMore 130 = .ok (.aload_n 0, 1) := by decide +kernel
theorem dX11_countMore_131 : decode cX11_countMore 131 = .ok (.getfield 27, 3) := by decide +kernel
theorem dX11_countMore_134 : decode cX11_countMore 134 = .ok (.getfield 280, 3) := by decide +kernel
theorem dX11_countMore_137 : decode cX11_countMore 137 = .ok (.getfield 284, 3) := by decide +kernel
theorem dX11_countMore_140 : decode cX11_countMore 140 = .ok (.ireturn, 1) := by decide +kernel
theorem dX11_countMore_141 : decode cX11_countMore 141 = .ok (.aload_n 0, 1) := by decide +kernel
theorem dX11_countMore_142 : decode cX11_countMore 142 = .ok (.getfield 27, 3) := by decide +kernel
theorem dX11_countMore_145 : decode cX11_countMore 145 = .ok (.invokevirtual 179, 3) := by decide +kernel
theorem dX11_countMore_148 : decode cX11_countMore 148 = .ok (.getfield 293, 3) := by decide +kernel
theorem dX11_countMore_151 : decode cX11_countMore 151 = .ok (.ireturn, 1) := by decide +kernel
theorem dX11_countMore_152 : decode cX11_countMore 152 = .ok (.aload_n 0, 1) := by decide +kernel
theorem dX11_countMore_153 : decode cX11_countMore 153 = .ok (.getfield 27, 3) := by decide +kernel
theorem dX11_countMore_156 : decode cX11_countMore 156 = .ok (.getfield 141, 3) := by decide +kernel
theorem dX11_countMore_159 : decode cX11_countMore 159 = .ok (.getfield 359, 3) := by decide +kernel
theorem dX11_countMore_162 : decode cX11_countMore 162 = .ok (.ireturn, 1) := by decide +kernel
theorem dX11_countMore_163 : decode cX11_countMore 163 = .ok (.aload_n 0, 1) := by decide +kernel
theorem dX11_countMore_164 : decode cX11_countMore 164 = .ok (.getfield 27, 3) := by decide +kernel
theorem dX11_countMore_167 : decode cX11_countMore 167 = .ok (.getfield 141, 3) := by decide +kernel
theorem dX11_countMore_170 : decode cX11_countMore 170 = .ok (.invokevirtual 452, 3) := by decide +kernel
theorem dX11_countMore_173 : decode cX11_countMore 173 = .ok (.ireturn, 1) := by decide +kernel
theorem dX11_countMore_174 : decode cX11_countMore 174 = .ok (.aload_n 0, 1) := by decide +kernel
theorem dX11_countMore_175 : decode cX11_countMore 175 = .ok (.getfield 27, 3) := by decide +kernel
theorem dX11_countMore_178 : decode cX11_countMore 178 = .ok (.getfield 55, 3) := by decide +kernel
theorem dX11_countMore_181 : decode cX11_countMore 181 = .ok (.getfield 99, 3) := by decide +kernel
theorem dX11_countMore_184 : decode cX11_countMore 184 = .ok (.invokestatic 455, 3) := by decide +kernel
theorem dX11_countMore_187 : decode cX11_countMore 187 = .ok (.ireturn, 1) := by decide +kernel
theorem dX11_countMore_188 : decode cX11_countMore 188 = .ok (.aload_n 0, 1) := by decide +kernel
theorem dX11_countMore_189 : decode cX11_countMore 189 = .ok (.getfield 27, 3) := by decide +kernel
theorem dX11_countMore_192 : decode cX11_countMore 192 = .ok (.getfield 55, 3) := by decide +kernel
theorem dX11_countMore_195 : decode cX11_countMore 195 = .ok (.getfield 59, 3) := by decide +kernel
theorem dX11_countMore_198 : decode cX11_countMore 198 = .ok (.invokestatic 455, 3) := by decide +kernel
theorem dX11_countMore_201 : decode cX11_countMore 201 = .ok (.ireturn, 1) := by decide +kernel
theorem dX11_countMore_202 : decode cX11_countMore 202 = .ok (.iconst (-1), 1) := by decide +kernel
theorem dX11_countMore_203 : decode cX11_countMore 203 = .ok (.ireturn, 1) := by decide +kernel
noncomputable def o_X11_countMore (F : Nat) (τ : cT) (n : Nat) (o : Nat) (s : cS) (a1 : Int32) : Option (Int32) := if a1 = nI 12 then (some (s.1 (o + 131) 2)) else (if a1 = nI 13 then ((o_X5_countTouches F τ n (o + 10) s).bind fun x3 => (some x3)) else (if a1 = nI 14 then (some (s.1 (o + 11) 11)) else (if a1 = nI 15 then (some (s.1 (o + 11) 12)) else (if a1 = nI 16 then (some (s.1 (o + 11) 13)) else (if a1 = nI 17 then (some (s.1 (o + 21) 4)) else (if a1 = nI 18 then (some (s.1 (o + 27) 3)) else (if a1 = nI 19 then ((o_X2_actOfToday F τ n (o + 10) s).bind fun x10 => (if acb τ n x10 = true then (some (s.1 x10 0)) else none)) else (if a1 = nI 20 then (some (s.1 (o + 131) 13)) else (if a1 = nI 21 then ((o_X6_owedInAll F τ n (o + 10) s).bind fun x14 => (some x14)) else (if a1 = nI 22 then ((o_X11_sumOf F τ n (o + 14) s).bind fun x16 => (some x16)) else (if a1 = nI 23 then ((o_X11_sumOf F τ n (o + 12) s).bind fun x18 => (some x18)) else (some (-1)))))))))))))
set_option maxHeartbeats 4000000 in
theorem t_X11_countMore {Γ : jg_G} {g : Nat → jg_C} (F : Nat) (τ : cT) (n : Nat) (o : Nat) (s : cS) (a1 : Int32) (hO : Sh τ n o) {x : Int32} (h : o_X11_countMore F τ n o s a1 = some x) : jc Γ mX11_countMore 2 0 0 [some (.ref o), some (.int a1)] (ct_h g τ s, n) (.inl (some (.int x))) (ct_h g τ s, n) := by
  refine jc_of ?_
  rw [o_X11_countMore] at h
  refine jg_iload_n dX11_countMore_0 rfl ?_
  by_cases c1 : a1 = nI 12
  · replace h := it_t c1 h
    refine jg_tableIn (off := 63) (tgt := 64) dX11_countMore_1 (by rw [c1]; decide) (by rw [c1]; decide) (by rw [c1]; rfl) (by decide) ?_
    refine jg_aload_n dX11_countMore_64 rfl ?_
    refine cs_get (s := s) (w := .ref (o + 10)) fl_X11_27 dX11_countMore_65 hO.ob0 rfl ?_
    refine cs_get (s := s) (w := .ref (o + 131)) fl_X11_141 dX11_countMore_68 hO.1.ob0 rfl ?_
    refine cs_get (s := s) (w := .int (s.1 (o + 131) 2)) fl_X11_434 dX11_countMore_71 (hO.1.ob 121 (by decide) rfl) rfl ?_
    obtain rfl := Option.some.inj h
    exact jg_ireturn dX11_countMore_74 rfl ⟨rfl, rfl⟩
  replace h := it_f c1 h
  by_cases c2 : a1 = nI 13
  · replace h := it_t c2 h
    refine jg_tableIn (off := 74) (tgt := 75) dX11_countMore_1 (by rw [c2]; decide) (by rw [c2]; decide) (by rw [c2]; rfl) (by decide) ?_
    refine jg_aload_n dX11_countMore_75 rfl ?_
    refine cs_get (s := s) (w := .ref (o + 10)) fl_X11_27 dX11_countMore_76 hO.ob0 rfl ?_
    refine cs_get (s := s) (w := .ref (o + 37)) fl_X11_123 dX11_countMore_79 hO.1.ob0 rfl ?_
    obtain ⟨x3, e_x3, h⟩ := bd_some h
    refine cs_call (q := (o + 37)) (As := []) kv_X11_437 dX11_countMore_82 (hO.1.ob 27 (by decide) rfl) rfl rfl (by decide) (Nat.le_of_ble_eq_true rfl) rfl (by decide) (Nat.le_of_ble_eq_true rfl) (t_X5_countTouches F τ n (o + 10) s hO.1 e_x3) ?_
    obtain rfl := Option.some.inj h
    exact jg_ireturn dX11_countMore_85 rfl ⟨rfl, rfl⟩
  replace h := it_f c2 h
  by_cases c4 : a1 = nI 14
  · replace h := it_t c4 h
    refine jg_tableIn (off := 85) (tgt := 86) dX11_countMore_1 (by rw [c4]; decide) (by rw [c4]; decide) (by rw [c4]; rfl) (by decide) ?_
    refine jg_aload_n dX11_countMore_86 rfl ?_
    refine cs_get (s := s) (w := .ref (o + 10)) fl_X11_27 dX11_countMore_87 hO.ob0 rfl ?_
    refine cs_get (s := s) (w := .ref (o + 11)) fl_X11_55 dX11_countMore_90 hO.1.ob0 rfl ?_
    refine cs_get (s := s) (w := .int (s.1 (o + 11) 11)) fl_X11_440 dX11_countMore_93 (hO.1.ob 1 (by decide) rfl) rfl ?_
    obtain rfl := Option.some.inj h
    exact jg_ireturn dX11_countMore_96 rfl ⟨rfl, rfl⟩
  replace h := it_f c4 h
  by_cases c5 : a1 = nI 15
  · replace h := it_t c5 h
    refine jg_tableIn (off := 96) (tgt := 97) dX11_countMore_1 (by rw [c5]; decide) (by rw [c5]; decide) (by rw [c5]; rfl) (by decide) ?_
    refine jg_aload_n dX11_countMore_97 rfl ?_
    refine cs_get (s := s) (w := .ref (o + 10)) fl_X11_27 dX11_countMore_98 hO.ob0 rfl ?_
    refine cs_get (s := s) (w := .ref (o + 11)) fl_X11_55 dX11_countMore_101 hO.1.ob0 rfl ?_
    refine cs_get (s := s) (w := .int (s.1 (o + 11) 12)) fl_X11_443 dX11_countMore_104 (hO.1.ob 1 (by decide) rfl) rfl ?_
    obtain rfl := Option.some.inj h
    exact jg_ireturn dX11_countMore_107 rfl ⟨rfl, rfl⟩
  replace h := it_f c5 h
  by_cases c6 : a1 = nI 16
  · replace h := it_t c6 h
    refine jg_tableIn (off := 107) (tgt := 108) dX11_countMore_1 (by rw [c6]; decide) (by rw [c6]; decide) (by rw [c6]; rfl) (by decide) ?_
    refine jg_aload_n dX11_countMore_108 rfl ?_
    refine cs_get (s := s) (w := .ref (o + 10)) fl_X11_27 dX11_countMore_109 hO.ob0 rfl ?_
    refine cs_get (s := s) (w := .ref (o + 11)) fl_X11_55 dX11_countMore_112 hO.1.ob0 rfl ?_
    refine cs_get (s := s) (w := .int (s.1 (o + 11) 13)) fl_X11_446 dX11_countMore_115 (hO.1.ob 1 (by decide) rfl) rfl ?_
    obtain rfl := Option.some.inj h
    exact jg_ireturn dX11_countMore_118 rfl ⟨rfl, rfl⟩
  replace h := it_f c6 h
  by_cases c7 : a1 = nI 17
  · replace h := it_t c7 h
    refine jg_tableIn (off := 118) (tgt := 119) dX11_countMore_1 (by rw [c7]; decide) (by rw [c7]; decide) (by rw [c7]; rfl) (by decide) ?_
    refine jg_aload_n dX11_countMore_119 rfl ?_
    refine cs_get (s := s) (w := .ref (o + 10)) fl_X11_27 dX11_countMore_120 hO.ob0 rfl ?_
    refine cs_get (s := s) (w := .ref (o + 21)) fl_X11_112 dX11_countMore_123 hO.1.ob0 rfl ?_
    refine cs_get (s := s) (w := .int (s.1 (o + 21) 4)) fl_X11_449 dX11_countMore_126 (hO.1.ob 11 (by decide) rfl) rfl ?_
    obtain rfl := Option.some.inj h
    exact jg_ireturn dX11_countMore_129 rfl ⟨rfl, rfl⟩
  replace h := it_f c7 h
  by_cases c8 : a1 = nI 18
  · replace h := it_t c8 h
    refine jg_tableIn (off := 129) (tgt := 130) dX11_countMore_1 (by rw [c8]; decide) (by rw [c8]; decide) (by rw [c8]; rfl) (by decide) ?_
    refine jg_aload_n dX11_countMore_130 rfl ?_
    refine cs_get (s := s) (w := .ref (o + 10)) fl_X11_27 dX11_countMore_131 hO.ob0 rfl ?_
    refine cs_get (s := s) (w := .ref (o + 27)) fl_X11_280 dX11_countMore_134 hO.1.ob0 rfl ?_
    refine cs_get (s := s) (w := .int (s.1 (o + 27) 3)) fl_X11_284 dX11_countMore_137 (hO.1.ob 17 (by decide) rfl) rfl ?_
    obtain rfl := Option.some.inj h
    exact jg_ireturn dX11_countMore_140 rfl ⟨rfl, rfl⟩
  replace h := it_f c8 h
  by_cases c9 : a1 = nI 19
  · replace h := it_t c9 h
    refine jg_tableIn (off := 140) (tgt := 141) dX11_countMore_1 (by rw [c9]; decide) (by rw [c9]; decide) (by rw [c9]; rfl) (by decide) ?_
    refine jg_aload_n dX11_countMore_141 rfl ?_
    refine cs_get (s := s) (w := .ref (o + 10)) fl_X11_27 dX11_countMore_142 hO.ob0 rfl ?_
    obtain ⟨x10, e_x10, h⟩ := bd_some h
    refine cs_call (q := (o + 10)) (As := []) kv_X11_179 dX11_countMore_145 hO.1.ob0 rfl rfl (by decide) (Nat.le_of_ble_eq_true rfl) rfl (by decide) (Nat.le_of_ble_eq_true rfl) (t_X2_actOfToday F τ n (o + 10) s hO.1 e_x10) ?_
    obtain ⟨q11, h⟩ := gd_some h
    refine cs_get (s := s) (w := .int (s.1 x10 0)) fl_X11_293 dX11_countMore_148 (acb_ob q11) rfl ?_
    obtain rfl := Option.some.inj h
    exact jg_ireturn dX11_countMore_151 rfl ⟨rfl, rfl⟩
  replace h := it_f c9 h
  by_cases c12 : a1 = nI 20
  · replace h := it_t c12 h
    refine jg_tableIn (off := 151) (tgt := 152) dX11_countMore_1 (by rw [c12]; decide) (by rw [c12]; decide) (by rw [c12]; rfl) (by decide) ?_
    refine jg_aload_n dX11_countMore_152 rfl ?_
    refine cs_get (s := s) (w := .ref (o + 10)) fl_X11_27 dX11_countMore_153 hO.ob0 rfl ?_
    refine cs_get (s := s) (w := .ref (o + 131)) fl_X11_141 dX11_countMore_156 hO.1.ob0 rfl ?_
    refine cs_get (s := s) (w := .int (s.1 (o + 131) 13)) fl_X11_359 dX11_countMore_159 (hO.1.ob 121 (by decide) rfl) rfl ?_
    obtain rfl := Option.some.inj h
    exact jg_ireturn dX11_countMore_162 rfl ⟨rfl, rfl⟩
  replace h := it_f c12 h
  by_cases c13 : a1 = nI 21
  · replace h := it_t c13 h
    refine jg_tableIn (off := 162) (tgt := 163) dX11_countMore_1 (by rw [c13]; decide) (by rw [c13]; decide) (by rw [c13]; rfl) (by decide) ?_
    refine jg_aload_n dX11_countMore_163 rfl ?_
    refine cs_get (s := s) (w := .ref (o + 10)) fl_X11_27 dX11_countMore_164 hO.ob0 rfl ?_
    refine cs_get (s := s) (w := .ref (o + 131)) fl_X11_141 dX11_countMore_167 hO.1.ob0 rfl ?_
    obtain ⟨x14, e_x14, h⟩ := bd_some h
    refine cs_call (q := (o + 131)) (As := []) kv_X11_452 dX11_countMore_170 (hO.1.ob 121 (by decide) rfl) rfl rfl (by decide) (Nat.le_of_ble_eq_true rfl) rfl (by decide) (Nat.le_of_ble_eq_true rfl) (t_X6_owedInAll F τ n (o + 10) s hO.1 e_x14) ?_
    obtain rfl := Option.some.inj h
    exact jg_ireturn dX11_countMore_173 rfl ⟨rfl, rfl⟩
  replace h := it_f c13 h
  by_cases c15 : a1 = nI 22
  · replace h := it_t c15 h
    refine jg_tableIn (off := 173) (tgt := 174) dX11_countMore_1 (by rw [c15]; decide) (by rw [c15]; decide) (by rw [c15]; rfl) (by decide) ?_
    refine jg_aload_n dX11_countMore_174 rfl ?_
    refine cs_get (s := s) (w := .ref (o + 10)) fl_X11_27 dX11_countMore_175 hO.ob0 rfl ?_
    refine cs_get (s := s) (w := .ref (o + 11)) fl_X11_55 dX11_countMore_178 hO.1.ob0 rfl ?_
    refine cs_get (s := s) (w := .ref (o + 14)) fl_X11_99 dX11_countMore_181 (hO.1.ob 1 (by decide) rfl) rfl ?_
    obtain ⟨x16, e_x16, h⟩ := bd_some h
    refine cs_callS (As := [.ref (o + 14)]) ks_X11_455 dX11_countMore_184 rfl (by decide) (Nat.le_of_ble_eq_true rfl) rfl (by decide) (Nat.le_of_ble_eq_true rfl) (t_X11_sumOf F τ n (o + 14) s (hO.1.ar 4 (by decide) rfl) e_x16) ?_
    obtain rfl := Option.some.inj h
    exact jg_ireturn dX11_countMore_187 rfl ⟨rfl, rfl⟩
  replace h := it_f c15 h
  by_cases c17 : a1 = nI 23
  · replace h := it_t c17 h
    refine jg_tableIn (off := 187) (tgt := 188) dX11_countMore_1 (by rw [c17]; decide) (by rw [c17]; decide) (by rw [c17]; rfl) (by decide) ?_
    refine jg_aload_n dX11_countMore_188 rfl ?_
    refine cs_get (s := s) (w := .ref (o + 10)) fl_X11_27 dX11_countMore_189 hO.ob0 rfl ?_
    refine cs_get (s := s) (w := .ref (o + 11)) fl_X11_55 dX11_countMore_192 hO.1.ob0 rfl ?_
    refine cs_get (s := s) (w := .ref (o + 12)) fl_X11_59 dX11_countMore_195 (hO.1.ob 1 (by decide) rfl) rfl ?_
    obtain ⟨x18, e_x18, h⟩ := bd_some h
    refine cs_callS (As := [.ref (o + 12)]) ks_X11_455 dX11_countMore_198 rfl (by decide) (Nat.le_of_ble_eq_true rfl) rfl (by decide) (Nat.le_of_ble_eq_true rfl) (t_X11_sumOf F τ n (o + 12) s (hO.1.ar 2 (by decide) rfl) e_x18) ?_
    obtain rfl := Option.some.inj h
    exact jg_ireturn dX11_countMore_201 rfl ⟨rfl, rfl⟩
  replace h := it_f c17 h
  refine jg_tableOut (tgt := 202) dX11_countMore_1 (jt_outN 12 23 (a1) (fun k h1 h2 => by rcases (show k = 12 ∨ k = 13 ∨ k = 14 ∨ k = 15 ∨ k = 16 ∨ k = 17 ∨ k = 18 ∨ k = 19 ∨ k = 20 ∨ k = 21 ∨ k = 22 ∨ k = 23 by omega) with rfl | rfl | rfl | rfl | rfl | rfl | rfl | rfl | rfl | rfl | rfl | rfl <;> assumption)) (by decide) ?_
  refine jg_iconst (v := (-1)) dX11_countMore_202 (by decide) ?_
  obtain rfl := Option.some.inj h
  exact jg_ireturn dX11_countMore_203 rfl ⟨rfl, rfl⟩
theorem dX11_count_0 : decode cX11_count 0 = .ok (.iload_n 1, 1) := by decide +kernel
theorem dX11_count_1 : decode cX11_count 1 = .ok (.tableswitch 188 0 11 #[63, 71, 79, 87, 98, 109, 121, 133, 144, 155, 166, 177], 63) := by decide +kernel
theorem dX11_count_64 : decode cX11_count 64 = .ok (.aload_n 0, 1) := by decide +kernel
theorem dX11_count_65 : decode cX11_count 65 = .ok (.getfield 27, 3) := by decide +kernel
theorem dX11_count_68 : decode cX11_count 68 = .ok (.getfield 49, 3) := by decide +kernel
theorem dX11_count_71 : decode cX11_count 71 = .ok (.ireturn, 1) := by decide +kernel
theorem dX11_count_72 : decode cX11_count 72 = .ok (.aload_n 0, 1) := by decide +kernel
theorem dX11_count_73 : decode cX11_count 73 = .ok (.getfield 27, 3) := by decide +kernel
theorem dX11_count_76 : decode cX11_count 76 = .ok (.invokevirtual 71, 3) := by decide +kernel
theorem dX11_count_79 : decode cX11_count 79 = .ok (.ireturn, 1) := by decide +kernel
theorem dX11_count_80 : decode cX11_count 80 = .ok (.aload_n 0, 1) := by decide +kernel
theorem dX11_count_81 : decode cX11_count 81 = .ok (.getfield 27, 3) := by decide +kernel
theorem dX11_count_84 : decode cX11_count 84 = .ok (.invokevirtual 362, 3) := by decide +kernel
theorem dX11_count_87 : decode cX11_count 87 = .ok (.ireturn, 1) := by decide +kernel
theorem dX11_count_88 : decode cX11_count 88 = .ok (.aload_n 0, 1) := by decide +kernel
theorem dX11_count_89 : decode cX11_count 89 = .ok (.getfield 27, 3) := by decide +kernel
theorem dX11_count_92 : decode cX11_count 92 = .ok (.getfield 123, 3) := by decide +kernel
theorem dX11_count_95 : decode cX11_count 95 = .ok (.getfield 127, 3) := by decide +kernel
theorem dX11_count_98 : decode cX11_count 98 = .ok (.ireturn, 1) := by decide +kernel
theorem dX11_count_99 : decode cX11_count 99 = .ok (.aload_n 0, 1) := by decide +kernel
theorem dX11_count_100 : decode cX11_count 100 = .ok (.getfield 27, 3) := by decide +kernel
theorem dX11_count_103 : decode cX11_count 103 = .ok (.getfield 123, 3) := by decide +kernel
theorem dX11_count_106 : decode cX11_count 106 = .ok (.getfield 154, 3) := by decide +kernel
theorem dX11_count_109 : decode cX11_count 109 = .ok (.ireturn, 1) := by decide +kernel
theorem dX11_count_110 : decode cX11_count 110 = .ok (.aload_n 0, 1) := by decide +kernel
theorem dX11_count_111 : decode cX11_count 111 = .ok (.getfield 27, 3) := by decide +kernel
theorem dX11_count_114 : decode cX11_count 114 = .ok (.getfield 123, 3) := by decide +kernel
theorem dX11_count_117 : decode cX11_count 117 = .ok (.iconst 0, 1) := by decide +kernel
theorem dX11_count_118 : decode cX11_count 118 = .ok (.invokevirtual 416, 3) := by decide +kernel
theorem dX11_count_121 : decode cX11_count 121 = .ok (.ireturn, 1) := by decide +kernel
theorem dX11_count_122 : decode cX11_count 122 = .ok (.aload_n 0, 1) := by decide +kernel
theorem dX11_count_123 : decode cX11_count 123 = .ok (.getfield 27, 3) := by decide +kernel
theorem dX11_count_126 : decode cX11_count 126 = .ok (.getfield 123, 3) := by decide +kernel
theorem dX11_count_129 : decode cX11_count 129 = .ok (.iconst 4, 1) := by decide +kernel
theorem dX11_count_130 : decode cX11_count 130 = .ok (.invokevirtual 416, 3) := by decide +kernel
theorem dX11_count_133 : decode cX11_count 133 = .ok (.ireturn, 1) := by decide +kernel
theorem dX11_count_134 : decode cX11_count 134 = .ok (.aload_n 0, 1) := by decide +kernel
theorem dX11_count_135 : decode cX11_count 135 = .ok (.getfield 27, 3) := by decide +kernel
theorem dX11_count_138 : decode cX11_count 138 = .ok (.getfield 123, 3) := by decide +kernel
theorem dX11_count_141 : decode cX11_count 141 = .ok (.invokevirtual 419, 3) := by decide +kernel
theorem dX11_count_144 : decode cX11_count 144 = .ok (.ireturn, 1) := by decide +kernel
theorem dX11_count_145 : decode cX11_count 145 = .ok (.aload_n 0, 1) := by decide +kernel
theorem dX11_count_146 : decode cX11_count 146 = .ok (.getfield 27, 3) := by decide +kernel
theorem dX11_count_149 : decode cX11_count 149 = .ok (.getfield 123, 3) := by decide +kernel
theorem dX11_count_152 : decode cX11_count 152 = .ok (.invokevirtual 422, 3) := by decide +kernel
theorem dX11_count_155 : decode cX11_count 155 = .ok (.ireturn, 1) := by decide +kernel
theorem dX11_count_156 : decode cX11_count 156 = .ok (.aload_n 0, 1) := by decide +kernel
theorem dX11_count_157 : decode cX11_count 157 = .ok (.getfield 27, 3) := by decide +kernel
theorem dX11_count_160 : decode cX11_count 160 = .ok (.getfield 123, 3) := by decide +kernel
theorem dX11_count_163 : decode cX11_count 163 = .ok (.getfield 425, 3) := by decide +kernel
theorem dX11_count_166 : decode cX11_count 166 = .ok (.ireturn, 1) := by decide +kernel
theorem dX11_count_167 : decode cX11_count 167 = .ok (.aload_n 0, 1) := by decide +kernel
theorem dX11_count_168 : decode cX11_count 168 = .ok (.getfield 27, 3) := by decide +kernel
theorem dX11_count_171 : decode cX11_count 171 = .ok (.getfield 141, 3) := by decide +kernel
theorem dX11_count_174 : decode cX11_count 174 = .ok (.getfield 352, 3) := by decide +kernel
theorem dX11_count_177 : decode cX11_count 177 = .ok (.ireturn, 1) := by decide +kernel
theorem dX11_count_178 : decode cX11_count 178 = .ok (.aload_n 0, 1) := by decide +kernel
theorem dX11_count_179 : decode cX11_count 179 = .ok (.getfield 27, 3) := by decide +kernel
theorem dX11_count_182 : decode cX11_count 182 = .ok (.getfield 141, 3) := by decide +kernel
theorem dX11_count_185 : decode cX11_count 185 = .ok (.getfield 428, 3) := by decide +kernel
theorem dX11_count_188 : decode cX11_count 188 = .ok (.ireturn, 1) := by decide +kernel
theorem dX11_count_189 : decode cX11_count 189 = .ok (.aload_n 0, 1) := by decide +kernel
theorem dX11_count_190 : decode cX11_count 190 = .ok (.iload_n 1, 1) := by decide +kernel
theorem dX11_count_191 : decode cX11_count 191 = .ok (.invokevirtual 431, 3) := by decide +kernel
theorem dX11_count_194 : decode cX11_count 194 = .ok (.ireturn, 1) := by decide +kernel
noncomputable def o_X11_count (F : Nat) (τ : cT) (n : Nat) (o : Nat) (s : cS) (a1 : Int32) : Option (Int32) := if a1 = nI 0 then (some (s.1 (o + 10) 0)) else (if a1 = nI 1 then ((o_X2_today τ n (o + 10) s).bind fun x3 => (some x3)) else (if a1 = nI 2 then ((o_X2_year τ n (o + 10) s).bind fun x5 => (some x5)) else (if a1 = nI 3 then (some (s.1 (o + 37) 1)) else (if a1 = nI 4 then (some (s.1 (o + 37) 3)) else (if a1 = nI 5 then ((o_X5_countInState F τ n (o + 10) s (nI 0)).bind fun x9 => (some x9)) else (if a1 = nI 6 then ((o_X5_countInState F τ n (o + 10) s (nI 4)).bind fun x11 => (some x11)) else (if a1 = nI 7 then ((o_X5_freePilots τ n (o + 10) s).bind fun x13 => (some x13)) else (if a1 = nI 8 then ((o_X5_loadOfAll F τ n (o + 10) s).bind fun x15 => (some x15)) else (if a1 = nI 9 then (some (s.1 (o + 37) 7)) else (if a1 = nI 10 then (some (s.1 (o + 131) 0)) else (if a1 = nI 11 then (some (s.1 (o + 131) 1)) else ((o_X11_countMore F τ n o s a1).bind fun x19 => (some x19)))))))))))))
set_option maxHeartbeats 4000000 in
theorem t_X11_count {Γ : jg_G} {g : Nat → jg_C} (F : Nat) (τ : cT) (n : Nat) (o : Nat) (s : cS) (a1 : Int32) (hO : Sh τ n o) {x : Int32} (h : o_X11_count F τ n o s a1 = some x) : jc Γ mX11_count 3 0 0 [some (.ref o), some (.int a1)] (ct_h g τ s, n) (.inl (some (.int x))) (ct_h g τ s, n) := by
  refine jc_of ?_
  rw [o_X11_count] at h
  refine jg_iload_n dX11_count_0 rfl ?_
  by_cases c1 : a1 = nI 0
  · replace h := it_t c1 h
    refine jg_tableIn (off := 63) (tgt := 64) dX11_count_1 (by rw [c1]; decide) (by rw [c1]; decide) (by rw [c1]; rfl) (by decide) ?_
    refine jg_aload_n dX11_count_64 rfl ?_
    refine cs_get (s := s) (w := .ref (o + 10)) fl_X11_27 dX11_count_65 hO.ob0 rfl ?_
    refine cs_get (s := s) (w := .int (s.1 (o + 10) 0)) fl_X11_49 dX11_count_68 hO.1.ob0 rfl ?_
    obtain rfl := Option.some.inj h
    exact jg_ireturn dX11_count_71 rfl ⟨rfl, rfl⟩
  replace h := it_f c1 h
  by_cases c2 : a1 = nI 1
  · replace h := it_t c2 h
    refine jg_tableIn (off := 71) (tgt := 72) dX11_count_1 (by rw [c2]; decide) (by rw [c2]; decide) (by rw [c2]; rfl) (by decide) ?_
    refine jg_aload_n dX11_count_72 rfl ?_
    refine cs_get (s := s) (w := .ref (o + 10)) fl_X11_27 dX11_count_73 hO.ob0 rfl ?_
    obtain ⟨x3, e_x3, h⟩ := bd_some h
    refine cs_call (q := (o + 10)) (As := []) kv_X11_71 dX11_count_76 hO.1.ob0 rfl rfl (by decide) (Nat.le_of_ble_eq_true rfl) rfl (by decide) (Nat.le_of_ble_eq_true rfl) (t_X2_today τ n (o + 10) s hO.1 e_x3) ?_
    obtain rfl := Option.some.inj h
    exact jg_ireturn dX11_count_79 rfl ⟨rfl, rfl⟩
  replace h := it_f c2 h
  by_cases c4 : a1 = nI 2
  · replace h := it_t c4 h
    refine jg_tableIn (off := 79) (tgt := 80) dX11_count_1 (by rw [c4]; decide) (by rw [c4]; decide) (by rw [c4]; rfl) (by decide) ?_
    refine jg_aload_n dX11_count_80 rfl ?_
    refine cs_get (s := s) (w := .ref (o + 10)) fl_X11_27 dX11_count_81 hO.ob0 rfl ?_
    obtain ⟨x5, e_x5, h⟩ := bd_some h
    refine cs_call (q := (o + 10)) (As := []) kv_X11_362 dX11_count_84 hO.1.ob0 rfl rfl (by decide) (Nat.le_of_ble_eq_true rfl) rfl (by decide) (Nat.le_of_ble_eq_true rfl) (t_X2_year τ n (o + 10) s hO.1 e_x5) ?_
    obtain rfl := Option.some.inj h
    exact jg_ireturn dX11_count_87 rfl ⟨rfl, rfl⟩
  replace h := it_f c4 h
  by_cases c6 : a1 = nI 3
  · replace h := it_t c6 h
    refine jg_tableIn (off := 87) (tgt := 88) dX11_count_1 (by rw [c6]; decide) (by rw [c6]; decide) (by rw [c6]; rfl) (by decide) ?_
    refine jg_aload_n dX11_count_88 rfl ?_
    refine cs_get (s := s) (w := .ref (o + 10)) fl_X11_27 dX11_count_89 hO.ob0 rfl ?_
    refine cs_get (s := s) (w := .ref (o + 37)) fl_X11_123 dX11_count_92 hO.1.ob0 rfl ?_
    refine cs_get (s := s) (w := .int (s.1 (o + 37) 1)) fl_X11_127 dX11_count_95 (hO.1.ob 27 (by decide) rfl) rfl ?_
    obtain rfl := Option.some.inj h
    exact jg_ireturn dX11_count_98 rfl ⟨rfl, rfl⟩
  replace h := it_f c6 h
  by_cases c7 : a1 = nI 4
  · replace h := it_t c7 h
    refine jg_tableIn (off := 98) (tgt := 99) dX11_count_1 (by rw [c7]; decide) (by rw [c7]; decide) (by rw [c7]; rfl) (by decide) ?_
    refine jg_aload_n dX11_count_99 rfl ?_
    refine cs_get (s := s) (w := .ref (o + 10)) fl_X11_27 dX11_count_100 hO.ob0 rfl ?_
    refine cs_get (s := s) (w := .ref (o + 37)) fl_X11_123 dX11_count_103 hO.1.ob0 rfl ?_
    refine cs_get (s := s) (w := .int (s.1 (o + 37) 3)) fl_X11_154 dX11_count_106 (hO.1.ob 27 (by decide) rfl) rfl ?_
    obtain rfl := Option.some.inj h
    exact jg_ireturn dX11_count_109 rfl ⟨rfl, rfl⟩
  replace h := it_f c7 h
  by_cases c8 : a1 = nI 5
  · replace h := it_t c8 h
    refine jg_tableIn (off := 109) (tgt := 110) dX11_count_1 (by rw [c8]; decide) (by rw [c8]; decide) (by rw [c8]; rfl) (by decide) ?_
    refine jg_aload_n dX11_count_110 rfl ?_
    refine cs_get (s := s) (w := .ref (o + 10)) fl_X11_27 dX11_count_111 hO.ob0 rfl ?_
    refine cs_get (s := s) (w := .ref (o + 37)) fl_X11_123 dX11_count_114 hO.1.ob0 rfl ?_
    refine jg_iconst (v := nI 0) dX11_count_117 (by decide) ?_
    obtain ⟨x9, e_x9, h⟩ := bd_some h
    refine cs_call (q := (o + 37)) (As := [.int (nI 0)]) kv_X11_416 dX11_count_118 (hO.1.ob 27 (by decide) rfl) rfl rfl (by decide) (Nat.le_of_ble_eq_true rfl) rfl (by decide) (Nat.le_of_ble_eq_true rfl) (t_X5_countInState F τ n (o + 10) s (nI 0) hO.1 e_x9) ?_
    obtain rfl := Option.some.inj h
    exact jg_ireturn dX11_count_121 rfl ⟨rfl, rfl⟩
  replace h := it_f c8 h
  by_cases c10 : a1 = nI 6
  · replace h := it_t c10 h
    refine jg_tableIn (off := 121) (tgt := 122) dX11_count_1 (by rw [c10]; decide) (by rw [c10]; decide) (by rw [c10]; rfl) (by decide) ?_
    refine jg_aload_n dX11_count_122 rfl ?_
    refine cs_get (s := s) (w := .ref (o + 10)) fl_X11_27 dX11_count_123 hO.ob0 rfl ?_
    refine cs_get (s := s) (w := .ref (o + 37)) fl_X11_123 dX11_count_126 hO.1.ob0 rfl ?_
    refine jg_iconst (v := nI 4) dX11_count_129 (by decide) ?_
    obtain ⟨x11, e_x11, h⟩ := bd_some h
    refine cs_call (q := (o + 37)) (As := [.int (nI 4)]) kv_X11_416 dX11_count_130 (hO.1.ob 27 (by decide) rfl) rfl rfl (by decide) (Nat.le_of_ble_eq_true rfl) rfl (by decide) (Nat.le_of_ble_eq_true rfl) (t_X5_countInState F τ n (o + 10) s (nI 4) hO.1 e_x11) ?_
    obtain rfl := Option.some.inj h
    exact jg_ireturn dX11_count_133 rfl ⟨rfl, rfl⟩
  replace h := it_f c10 h
  by_cases c12 : a1 = nI 7
  · replace h := it_t c12 h
    refine jg_tableIn (off := 133) (tgt := 134) dX11_count_1 (by rw [c12]; decide) (by rw [c12]; decide) (by rw [c12]; rfl) (by decide) ?_
    refine jg_aload_n dX11_count_134 rfl ?_
    refine cs_get (s := s) (w := .ref (o + 10)) fl_X11_27 dX11_count_135 hO.ob0 rfl ?_
    refine cs_get (s := s) (w := .ref (o + 37)) fl_X11_123 dX11_count_138 hO.1.ob0 rfl ?_
    obtain ⟨x13, e_x13, h⟩ := bd_some h
    refine cs_call (q := (o + 37)) (As := []) kv_X11_419 dX11_count_141 (hO.1.ob 27 (by decide) rfl) rfl rfl (by decide) (Nat.le_of_ble_eq_true rfl) rfl (by decide) (Nat.le_of_ble_eq_true rfl) (t_X5_freePilots τ n (o + 10) s hO.1 e_x13) ?_
    obtain rfl := Option.some.inj h
    exact jg_ireturn dX11_count_144 rfl ⟨rfl, rfl⟩
  replace h := it_f c12 h
  by_cases c14 : a1 = nI 8
  · replace h := it_t c14 h
    refine jg_tableIn (off := 144) (tgt := 145) dX11_count_1 (by rw [c14]; decide) (by rw [c14]; decide) (by rw [c14]; rfl) (by decide) ?_
    refine jg_aload_n dX11_count_145 rfl ?_
    refine cs_get (s := s) (w := .ref (o + 10)) fl_X11_27 dX11_count_146 hO.ob0 rfl ?_
    refine cs_get (s := s) (w := .ref (o + 37)) fl_X11_123 dX11_count_149 hO.1.ob0 rfl ?_
    obtain ⟨x15, e_x15, h⟩ := bd_some h
    refine cs_call (q := (o + 37)) (As := []) kv_X11_422 dX11_count_152 (hO.1.ob 27 (by decide) rfl) rfl rfl (by decide) (Nat.le_of_ble_eq_true rfl) rfl (by decide) (Nat.le_of_ble_eq_true rfl) (t_X5_loadOfAll F τ n (o + 10) s hO.1 e_x15) ?_
    obtain rfl := Option.some.inj h
    exact jg_ireturn dX11_count_155 rfl ⟨rfl, rfl⟩
  replace h := it_f c14 h
  by_cases c16 : a1 = nI 9
  · replace h := it_t c16 h
    refine jg_tableIn (off := 155) (tgt := 156) dX11_count_1 (by rw [c16]; decide) (by rw [c16]; decide) (by rw [c16]; rfl) (by decide) ?_
    refine jg_aload_n dX11_count_156 rfl ?_
    refine cs_get (s := s) (w := .ref (o + 10)) fl_X11_27 dX11_count_157 hO.ob0 rfl ?_
    refine cs_get (s := s) (w := .ref (o + 37)) fl_X11_123 dX11_count_160 hO.1.ob0 rfl ?_
    refine cs_get (s := s) (w := .int (s.1 (o + 37) 7)) fl_X11_425 dX11_count_163 (hO.1.ob 27 (by decide) rfl) rfl ?_
    obtain rfl := Option.some.inj h
    exact jg_ireturn dX11_count_166 rfl ⟨rfl, rfl⟩
  replace h := it_f c16 h
  by_cases c17 : a1 = nI 10
  · replace h := it_t c17 h
    refine jg_tableIn (off := 166) (tgt := 167) dX11_count_1 (by rw [c17]; decide) (by rw [c17]; decide) (by rw [c17]; rfl) (by decide) ?_
    refine jg_aload_n dX11_count_167 rfl ?_
    refine cs_get (s := s) (w := .ref (o + 10)) fl_X11_27 dX11_count_168 hO.ob0 rfl ?_
    refine cs_get (s := s) (w := .ref (o + 131)) fl_X11_141 dX11_count_171 hO.1.ob0 rfl ?_
    refine cs_get (s := s) (w := .int (s.1 (o + 131) 0)) fl_X11_352 dX11_count_174 (hO.1.ob 121 (by decide) rfl) rfl ?_
    obtain rfl := Option.some.inj h
    exact jg_ireturn dX11_count_177 rfl ⟨rfl, rfl⟩
  replace h := it_f c17 h
  by_cases c18 : a1 = nI 11
  · replace h := it_t c18 h
    refine jg_tableIn (off := 177) (tgt := 178) dX11_count_1 (by rw [c18]; decide) (by rw [c18]; decide) (by rw [c18]; rfl) (by decide) ?_
    refine jg_aload_n dX11_count_178 rfl ?_
    refine cs_get (s := s) (w := .ref (o + 10)) fl_X11_27 dX11_count_179 hO.ob0 rfl ?_
    refine cs_get (s := s) (w := .ref (o + 131)) fl_X11_141 dX11_count_182 hO.1.ob0 rfl ?_
    refine cs_get (s := s) (w := .int (s.1 (o + 131) 1)) fl_X11_428 dX11_count_185 (hO.1.ob 121 (by decide) rfl) rfl ?_
    obtain rfl := Option.some.inj h
    exact jg_ireturn dX11_count_188 rfl ⟨rfl, rfl⟩
  replace h := it_f c18 h
  refine jg_tableOut (tgt := 189) dX11_count_1 (jt_outN 0 11 (a1) (fun k h1 h2 => by rcases (show k = 0 ∨ k = 1 ∨ k = 2 ∨ k = 3 ∨ k = 4 ∨ k = 5 ∨ k = 6 ∨ k = 7 ∨ k = 8 ∨ k = 9 ∨ k = 10 ∨ k = 11 by omega) with rfl | rfl | rfl | rfl | rfl | rfl | rfl | rfl | rfl | rfl | rfl | rfl <;> assumption)) (by decide) ?_
  refine jg_aload_n dX11_count_189 rfl ?_
  refine jg_iload_n dX11_count_190 rfl ?_
  obtain ⟨x19, e_x19, h⟩ := bd_some h
  refine cs_call (q := o) (As := [.int a1]) kv_X11_431 dX11_count_191 hO.ob0 rfl rfl (by decide) (Nat.le_of_ble_eq_true rfl) rfl (by decide) (Nat.le_of_ble_eq_true rfl) (t_X11_countMore F τ n o s a1 hO e_x19) ?_
  obtain rfl := Option.some.inj h
  exact jg_ireturn dX11_count_194 rfl ⟨rfl, rfl⟩
theorem dX11_needIndex_0 : decode cX11_needIndex 0 = .ok (.iload_n 0, 1) := by decide +kernel
theorem dX11_needIndex_1 : decode cX11_needIndex 1 = .ok (.ifCond .lt 8, 3) := by decide +kernel
theorem dX11_needIndex_4 : decode cX11_needIndex 4 = .ok (.iload_n 0, 1) := by decide +kernel
theorem dX11_needIndex_5 : decode cX11_needIndex 5 = .ok (.iload_n 1, 1) := by decide +kernel
theorem dX11_needIndex_6 : decode cX11_needIndex 6 = .ok (.if_icmp .lt 14, 3) := by decide +kernel
theorem dX11_needIndex_9 : decode cX11_needIndex 9 = .ok (.new 459, 3) := by decide +kernel
theorem dX11_needIndex_12 : decode cX11_needIndex 12 = .ok (.dup, 1) := by decide +kernel
theorem dX11_needIndex_13 : decode cX11_needIndex 13 = .ok (.ldc_w 461, 3) := by decide +kernel
theorem dX11_needIndex_16 : decode cX11_needIndex 16 = .ok (.invokespecial 463, 3) := by decide +kernel
theorem dX11_needIndex_19 : decode cX11_needIndex 19 = .ok (.athrow, 1) := by decide +kernel
theorem dX11_needIndex_20 : decode cX11_needIndex 20 = .ok (.return_, 1) := by decide +kernel
noncomputable def o_X11_needIndex (τ : cT) (n : Nat) (s : cS) (a1 : Int32) (a2 : Int32) : Option ((Unit) ⊕ (Nat)) := if a1 < 0 then (some (.inr 0)) else (if a1 < a2 then (some (.inl ())) else (some (.inr 0)))
set_option maxHeartbeats 4000000 in
theorem t_X11_needIndex {Γ : jg_G} {g : Nat → jg_C} (τ : cT) (n : Nat) (s : cS) (a1 : Int32) (a2 : Int32)  {x : Unit} (h : o_X11_needIndex τ n s a1 a2 = some (.inl x)) : jc Γ mX11_needIndex 6 0 0 [some (.int a1), some (.int a2)] (ct_h g τ s, n) (.inl none) (ct_h g τ s, n) := by
  refine jc_of ?_
  rw [o_X11_needIndex] at h
  refine jg_iload_n dX11_needIndex_0 rfl ?_
  refine jg_if_lt (x := a1) (tgt := 9) dX11_needIndex_1 (by decide) (fun c1 => ?_) (fun c1 => ?_)
  · replace h := it_t c1 h
    cases h
  · replace h := it_f c1 h
    refine jg_iload_n dX11_needIndex_4 rfl ?_
    refine jg_iload_n dX11_needIndex_5 rfl ?_
    refine jg_icmp_lt (x := a1) (y := a2) (tgt := 20) dX11_needIndex_6 (by decide) (fun c2 => ?_) (fun c2 => ?_)
    · replace h := it_t c2 h
      obtain rfl := Sum.inl.inj (Option.some.inj h)
      exact jg_return dX11_needIndex_20 rfl ⟨rfl, rfl⟩
    · replace h := it_f c2 h
      cases h
set_option maxHeartbeats 4000000 in
theorem x_X11_needIndex {Γ : jg_G} {g : Nat → jg_C} (τ : cT) (n : Nat) (s : cS) (a1 : Int32) (a2 : Int32)  (hn : n < 1000000) (hT : τ n = .inr (8, 0)) {z : Nat} (h : o_X11_needIndex τ n s a1 a2 = some (.inr z)) : jc Γ mX11_needIndex 6 1 6 [some (.int a1), some (.int a2)] (ct_h g τ s, n) (.inr (exn z)) (ct_h (gx g n) τ s, n + 1) := by
  refine jc_of ?_
  rw [o_X11_needIndex] at h
  refine jg_iload_n dX11_needIndex_0 rfl ?_
  refine jg_if_lt (x := a1) (tgt := 9) dX11_needIndex_1 (by decide) (fun c1 => ?_) (fun c1 => ?_)
  · replace h := it_t c1 h
    obtain rfl := Sum.inr.inj (Option.some.inj h)
    exact jg_thrW (i := 0) rfl ex_IOOBE rfl dX11_needIndex_9 dX11_needIndex_12 dX11_needIndex_13 dX11_needIndex_16 dX11_needIndex_19 (Nat.le_refl _) (Nat.le_refl _) (by decide) (Nat.le_of_ble_eq_true rfl) hn ⟨rfl, gx_e hT⟩
  · replace h := it_f c1 h
    refine jg_iload_n dX11_needIndex_4 rfl ?_
    refine jg_iload_n dX11_needIndex_5 rfl ?_
    refine jg_icmp_lt (x := a1) (y := a2) (tgt := 20) dX11_needIndex_6 (by decide) (fun c2 => ?_) (fun c2 => ?_)
    · replace h := it_t c2 h
      cases h
    · replace h := it_f c2 h
      obtain rfl := Sum.inr.inj (Option.some.inj h)
      exact jg_thrW (i := 0) rfl ex_IOOBE rfl dX11_needIndex_9 dX11_needIndex_12 dX11_needIndex_13 dX11_needIndex_16 dX11_needIndex_19 (Nat.le_refl _) (Nat.le_refl _) (by decide) (Nat.le_of_ble_eq_true rfl) hn ⟨rfl, gx_e hT⟩
theorem dX11_needCell_0 : decode cX11_needCell 0 = .ok (.iload_n 0, 1) := by decide +kernel
theorem dX11_needCell_1 : decode cX11_needCell 1 = .ok (.bipush 24, 2) := by decide +kernel
theorem dX11_needCell_3 : decode cX11_needCell 3 = .ok (.invokestatic 90, 3) := by decide +kernel
theorem dX11_needCell_6 : decode cX11_needCell 6 = .ok (.return_, 1) := by decide +kernel
noncomputable def o_X11_needCell (τ : cT) (n : Nat) (s : cS) (a1 : Int32) : Option ((Unit) ⊕ (Nat)) := (o_X11_needIndex τ n s a1 (nI 24)).bind fun x1 => (Sum.elim (fun y2 => some (.inl ())) (fun z3 => some (.inr z3)) x1)
set_option maxHeartbeats 4000000 in
theorem t_X11_needCell {Γ : jg_G} {g : Nat → jg_C} (τ : cT) (n : Nat) (s : cS) (a1 : Int32)  {x : Unit} (h : o_X11_needCell τ n s a1 = some (.inl x)) : jc Γ mX11_needCell 7 0 0 [some (.int a1)] (ct_h g τ s, n) (.inl none) (ct_h g τ s, n) := by
  refine jc_of ?_
  rw [o_X11_needCell] at h
  refine jg_iload_n dX11_needCell_0 rfl ?_
  refine jg_bipush (v := nI 24) dX11_needCell_1 (by decide) ?_
  obtain ⟨x1, e_x1, h⟩ := bd_some h
  rcases x1 with y2 | z3
  · replace h := se_l h
    refine cs_callS (As := [.int a1, .int (nI 24)]) ks_X11_90 dX11_needCell_3 rfl (by decide) (Nat.le_of_ble_eq_true rfl) rfl (by decide) (Nat.le_of_ble_eq_true rfl) (t_X11_needIndex τ n s a1 (nI 24) e_x1) ?_
    obtain rfl := Sum.inl.inj (Option.some.inj h)
    exact jg_return dX11_needCell_6 rfl ⟨rfl, rfl⟩
  · replace h := se_r h
    cases h
set_option maxHeartbeats 4000000 in
theorem x_X11_needCell {Γ : jg_G} {g : Nat → jg_C} (τ : cT) (n : Nat) (s : cS) (a1 : Int32)  (hn : n < 1000000) (hT : τ n = .inr (8, 0)) {z : Nat} (h : o_X11_needCell τ n s a1 = some (.inr z)) : jc Γ mX11_needCell 7 1 6 [some (.int a1)] (ct_h g τ s, n) (.inr (exn z)) (ct_h (gx g n) τ s, n + 1) := by
  refine jc_of ?_
  rw [o_X11_needCell] at h
  refine jg_iload_n dX11_needCell_0 rfl ?_
  refine jg_bipush (v := nI 24) dX11_needCell_1 (by decide) ?_
  obtain ⟨x1, e_x1, h⟩ := bd_some h
  rcases x1 with y2 | z3
  · replace h := se_l h
    refine cs_callS (As := [.int a1, .int (nI 24)]) ks_X11_90 dX11_needCell_3 rfl (by decide) (Nat.le_of_ble_eq_true rfl) rfl (by decide) (Nat.le_of_ble_eq_true rfl) (t_X11_needIndex τ n s a1 (nI 24) e_x1) ?_
    cases h
  · replace h := se_r h
    obtain rfl := Sum.inr.inj (Option.some.inj h)
    exact jc_SX (As := [.int a1, .int (nI 24)]) ks_X11_90 dX11_needCell_3 rfl (by decide) (Nat.le_of_ble_eq_true rfl) rfl (by decide) (Nat.le_refl _) (Nat.le_refl _) (Nat.le_of_ble_eq_true rfl) (x_X11_needIndex τ n s a1 (nI 24) hn hT e_x1) ⟨rfl, rfl⟩
theorem dX11_needArgument_0 : decode cX11_needArgument 0 = .ok (.iload_n 0, 1) := by decide +kernel
theorem dX11_needArgument_1 : decode cX11_needArgument 1 = .ok (.ifCond .ne 14, 3) := by decide +kernel
theorem dX11_needArgument_4 : decode cX11_needArgument 4 = .ok (.new 271, 3) := by decide +kernel
theorem dX11_needArgument_7 : decode cX11_needArgument 7 = .ok (.dup, 1) := by decide +kernel
theorem dX11_needArgument_8 : decode cX11_needArgument 8 = .ok (.ldc_w 464, 3) := by decide +kernel
theorem dX11_needArgument_11 : decode cX11_needArgument 11 = .ok (.invokespecial 275, 3) := by decide +kernel
theorem dX11_needArgument_14 : decode cX11_needArgument 14 = .ok (.athrow, 1) := by decide +kernel
theorem dX11_needArgument_15 : decode cX11_needArgument 15 = .ok (.return_, 1) := by decide +kernel
noncomputable def o_X11_needArgument (τ : cT) (n : Nat) (s : cS) (a1 : Int32) : Option ((Unit) ⊕ (Nat)) := if a1 = 0 then (some (.inr 1)) else (some (.inl ()))
set_option maxHeartbeats 4000000 in
theorem t_X11_needArgument {Γ : jg_G} {g : Nat → jg_C} (τ : cT) (n : Nat) (s : cS) (a1 : Int32)  {x : Unit} (h : o_X11_needArgument τ n s a1 = some (.inl x)) : jc Γ mX11_needArgument 6 0 0 [some (.int a1)] (ct_h g τ s, n) (.inl none) (ct_h g τ s, n) := by
  refine jc_of ?_
  rw [o_X11_needArgument] at h
  refine jg_iload_n dX11_needArgument_0 rfl ?_
  refine jg_if_ne (x := a1) (tgt := 15) dX11_needArgument_1 (by decide) (fun c1 => ?_) (fun c1 => ?_)
  · replace h := it_f c1 h
    obtain rfl := Sum.inl.inj (Option.some.inj h)
    exact jg_return dX11_needArgument_15 rfl ⟨rfl, rfl⟩
  · replace h := it_t c1 h
    cases h
set_option maxHeartbeats 4000000 in
theorem x_X11_needArgument {Γ : jg_G} {g : Nat → jg_C} (τ : cT) (n : Nat) (s : cS) (a1 : Int32)  (hn : n < 1000000) (hT : τ n = .inr (8, 0)) {z : Nat} (h : o_X11_needArgument τ n s a1 = some (.inr z)) : jc Γ mX11_needArgument 6 1 6 [some (.int a1)] (ct_h g τ s, n) (.inr (exn z)) (ct_h (gx g n) τ s, n + 1) := by
  refine jc_of ?_
  rw [o_X11_needArgument] at h
  refine jg_iload_n dX11_needArgument_0 rfl ?_
  refine jg_if_ne (x := a1) (tgt := 15) dX11_needArgument_1 (by decide) (fun c1 => ?_) (fun c1 => ?_)
  · replace h := it_f c1 h
    cases h
  · replace h := it_t c1 h
    obtain rfl := Sum.inr.inj (Option.some.inj h)
    exact jg_thrW (i := 1) rfl ex_IAE rfl dX11_needArgument_4 dX11_needArgument_7 dX11_needArgument_8 dX11_needArgument_11 dX11_needArgument_14 (Nat.le_refl _) (Nat.le_refl _) (by decide) (Nat.le_of_ble_eq_true rfl) hn ⟨rfl, gx_e hT⟩
theorem dX11_needState_0 : decode cX11_needState 0 = .ok (.iload_n 0, 1) := by decide +kernel
theorem dX11_needState_1 : decode cX11_needState 1 = .ok (.ifCond .ne 14, 3) := by decide +kernel
theorem dX11_needState_4 : decode cX11_needState 4 = .ok (.new 466, 3) := by decide +kernel
theorem dX11_needState_7 : decode cX11_needState 7 = .ok (.dup, 1) := by decide +kernel
theorem dX11_needState_8 : decode cX11_needState 8 = .ok (.ldc_w 468, 3) := by decide +kernel
theorem dX11_needState_11 : decode cX11_needState 11 = .ok (.invokespecial 470, 3) := by decide +kernel
theorem dX11_needState_14 : decode cX11_needState 14 = .ok (.athrow, 1) := by decide +kernel
theorem dX11_needState_15 : decode cX11_needState 15 = .ok (.return_, 1) := by decide +kernel
noncomputable def o_X11_needState (τ : cT) (n : Nat) (s : cS) (a1 : Int32) : Option ((Unit) ⊕ (Nat)) := if a1 = 0 then (some (.inr 2)) else (some (.inl ()))
set_option maxHeartbeats 4000000 in
theorem t_X11_needState {Γ : jg_G} {g : Nat → jg_C} (τ : cT) (n : Nat) (s : cS) (a1 : Int32)  {x : Unit} (h : o_X11_needState τ n s a1 = some (.inl x)) : jc Γ mX11_needState 6 0 0 [some (.int a1)] (ct_h g τ s, n) (.inl none) (ct_h g τ s, n) := by
  refine jc_of ?_
  rw [o_X11_needState] at h
  refine jg_iload_n dX11_needState_0 rfl ?_
  refine jg_if_ne (x := a1) (tgt := 15) dX11_needState_1 (by decide) (fun c1 => ?_) (fun c1 => ?_)
  · replace h := it_f c1 h
    obtain rfl := Sum.inl.inj (Option.some.inj h)
    exact jg_return dX11_needState_15 rfl ⟨rfl, rfl⟩
  · replace h := it_t c1 h
    cases h
set_option maxHeartbeats 4000000 in
theorem x_X11_needState {Γ : jg_G} {g : Nat → jg_C} (τ : cT) (n : Nat) (s : cS) (a1 : Int32)  (hn : n < 1000000) (hT : τ n = .inr (8, 0)) {z : Nat} (h : o_X11_needState τ n s a1 = some (.inr z)) : jc Γ mX11_needState 6 1 6 [some (.int a1)] (ct_h g τ s, n) (.inr (exn z)) (ct_h (gx g n) τ s, n + 1) := by
  refine jc_of ?_
  rw [o_X11_needState] at h
  refine jg_iload_n dX11_needState_0 rfl ?_
  refine jg_if_ne (x := a1) (tgt := 15) dX11_needState_1 (by decide) (fun c1 => ?_) (fun c1 => ?_)
  · replace h := it_f c1 h
    cases h
  · replace h := it_t c1 h
    obtain rfl := Sum.inr.inj (Option.some.inj h)
    exact jg_thrW (i := 2) rfl ex_ISE rfl dX11_needState_4 dX11_needState_7 dX11_needState_8 dX11_needState_11 dX11_needState_14 (Nat.le_refl _) (Nat.le_refl _) (by decide) (Nat.le_of_ble_eq_true rfl) hn ⟨rfl, gx_e hT⟩
theorem dX11_river_0 : decode cX11_river 0 = .ok (.iload_n 1, 1) := by decide +kernel
theorem dX11_river_1 : decode cX11_river 1 = .ok (.invokestatic 38, 3) := by decide +kernel
theorem dX11_river_4 : decode cX11_river 4 = .ok (.iload_n 2, 1) := by decide +kernel
theorem dX11_river_5 : decode cX11_river 5 = .ok (.invokestatic 38, 3) := by decide +kernel
theorem dX11_river_8 : decode cX11_river 8 = .ok (.iload_n 1, 1) := by decide +kernel
theorem dX11_river_9 : decode cX11_river 9 = .ok (.iload_n 2, 1) := by decide +kernel
theorem dX11_river_10 : decode cX11_river 10 = .ok (.if_icmp .gt 30, 3) := by decide +kernel
theorem dX11_river_13 : decode cX11_river 13 = .ok (.iload_n 3, 1) := by decide +kernel
theorem dX11_river_14 : decode cX11_river 14 = .ok (.iconst 0, 1) := by decide +kernel
theorem dX11_river_15 : decode cX11_river 15 = .ok (.sipush 200, 3) := by decide +kernel
theorem dX11_river_18 : decode cX11_river 18 = .ok (.invokestatic 41, 3) := by decide +kernel
theorem dX11_river_21 : decode cX11_river 21 = .ok (.ifCond .eq 19, 3) := by decide +kernel
theorem dX11_river_24 : decode cX11_river 24 = .ok (.iload 4, 2) := by decide +kernel
theorem dX11_river_26 : decode cX11_river 26 = .ok (.iconst 0, 1) := by decide +kernel
theorem dX11_river_27 : decode cX11_river 27 = .ok (.sipush 200, 3) := by decide +kernel
theorem dX11_river_30 : decode cX11_river 30 = .ok (.invokestatic 41, 3) := by decide +kernel
theorem dX11_river_33 : decode cX11_river 33 = .ok (.ifCond .eq 7, 3) := by decide +kernel
theorem dX11_river_36 : decode cX11_river 36 = .ok (.iconst 1, 1) := by decide +kernel
theorem dX11_river_37 : decode cX11_river 37 = .ok (.goto 4, 3) := by decide +kernel
theorem dX11_river_40 : decode cX11_river 40 = .ok (.iconst 0, 1) := by decide +kernel
theorem dX11_river_41 : decode cX11_river 41 = .ok (.invokestatic 45, 3) := by decide +kernel
theorem dX11_river_44 : decode cX11_river 44 = .ok (.aload_n 0, 1) := by decide +kernel
theorem dX11_river_45 : decode cX11_river 45 = .ok (.getfield 27, 3) := by decide +kernel
theorem dX11_river_48 : decode cX11_river 48 = .ok (.getfield 49, 3) := by decide +kernel
theorem dX11_river_51 : decode cX11_river 51 = .ok (.ifCond .ne 7, 3) := by decide +kernel
theorem dX11_river_54 : decode cX11_river 54 = .ok (.iconst 1, 1) := by decide +kernel
theorem dX11_river_55 : decode cX11_river 55 = .ok (.goto 4, 3) := by decide +kernel
theorem dX11_river_58 : decode cX11_river 58 = .ok (.iconst 0, 1) := by decide +kernel
theorem dX11_river_59 : decode cX11_river 59 = .ok (.invokestatic 52, 3) := by decide +kernel
theorem dX11_river_62 : decode cX11_river 62 = .ok (.iload_n 1, 1) := by decide +kernel
theorem dX11_river_63 : decode cX11_river 63 = .ok (.istore 5, 2) := by decide +kernel
theorem dX11_river_65 : decode cX11_river 65 = .ok (.iload 5, 2) := by decide +kernel
theorem dX11_river_67 : decode cX11_river 67 = .ok (.iload_n 2, 1) := by decide +kernel
theorem dX11_river_68 : decode cX11_river 68 = .ok (.if_icmp .gt 38, 3) := by decide +kernel
theorem dX11_river_71 : decode cX11_river 71 = .ok (.aload_n 0, 1) := by decide +kernel
theorem dX11_river_72 : decode cX11_river 72 = .ok (.getfield 27, 3) := by decide +kernel
theorem dX11_river_75 : decode cX11_river 75 = .ok (.getfield 55, 3) := by decide +kernel
theorem dX11_river_78 : decode cX11_river 78 = .ok (.getfield 59, 3) := by decide +kernel
theorem dX11_river_81 : decode cX11_river 81 = .ok (.iload 5, 2) := by decide +kernel
theorem dX11_river_83 : decode cX11_river 83 = .ok (.iload_n 3, 1) := by decide +kernel
theorem dX11_river_84 : decode cX11_river 84 = .ok (.iastore, 1) := by decide +kernel
theorem dX11_river_85 : decode cX11_river 85 = .ok (.aload_n 0, 1) := by decide +kernel
theorem dX11_river_86 : decode cX11_river 86 = .ok (.getfield 27, 3) := by decide +kernel
theorem dX11_river_89 : decode cX11_river 89 = .ok (.getfield 55, 3) := by decide +kernel
theorem dX11_river_92 : decode cX11_river 92 = .ok (.getfield 65, 3) := by decide +kernel
theorem dX11_river_95 : decode cX11_river 95 = .ok (.iload 5, 2) := by decide +kernel
theorem dX11_river_97 : decode cX11_river 97 = .ok (.iload 4, 2) := by decide +kernel
theorem dX11_river_99 : decode cX11_river 99 = .ok (.iastore, 1) := by decide +kernel
theorem dX11_river_100 : decode cX11_river 100 = .ok (.iinc 5 1, 3) := by decide +kernel
theorem dX11_river_103 : decode cX11_river 103 = .ok (.goto (-38), 3) := by decide +kernel
theorem dX11_river_106 : decode cX11_river 106 = .ok (.return_, 1) := by decide +kernel
noncomputable def o_X11_river_65 (F : Nat) (τ : cT) (n : Nat) (o : Nat) (l2 : Int32) (l3 : Int32) (l4 : Int32)  : Nat → Int32 → cS → Option (cS)
  | 0, _, _ => none
  | f + 1, l5, s => if l2 < l5 then (some s) else (if iL l5 24 then (o_X11_river_65 F τ n o l2 l3 l4 f (l5 + nI 1) (ca (ca s (o + 12) l5 l3) (o + 13) l5 l4)) else none)
set_option maxHeartbeats 4000000 in
theorem t_X11_river_65 {Γ : jg_G} {g : Nat → jg_C} {a9 b9 : Nat} (F : Nat) (τ : cT) (n : Nat) (o : Nat) (l2 : Int32) (l3 : Int32) (l4 : Int32)  (hO : Sh τ n o) (Q : jg_Q) {x : cS} (K1 : jg Γ mX11_river 8 a9 b9 106 [none, none, none, none, none, none] [] (ct_h g τ x, n) Q)  : ∀ (f : Nat) (l5 : Int32) (s : cS), o_X11_river_65 F τ n o l2 l3 l4 f l5 s = some x → jg Γ mX11_river 8 a9 b9 65 [some (.ref o), none, some (.int l2), some (.int l3), some (.int l4), some (.int l5)] [] (ct_h g τ s, n) Q := by
  intro f
  induction f with
  | zero => intro l5 s h; rw [o_X11_river_65] at h; cases h
  | succ f ih =>
   intro l5 s h
   rw [o_X11_river_65] at h
   refine jg_iload dX11_river_65 rfl ?_
   refine jg_iload_n dX11_river_67 rfl ?_
   refine jg_icmp_gt (x := l5) (y := l2) (tgt := 106) dX11_river_68 (by decide) (fun c15 => ?_) (fun c15 => ?_)
   · replace h := it_t c15 h
     refine jg_fg (L' := [none, none, none, none, none, none]) (by repeat (first | exact trivial | refine ⟨rfl, ?_⟩ | show jg_le _ _)) ?_
     obtain rfl := Option.some.inj h
     exact K1
   · replace h := it_f c15 h
     refine jg_aload_n dX11_river_71 rfl ?_
     refine cs_get (s := s) (w := .ref (o + 10)) fl_X11_27 dX11_river_72 hO.ob0 rfl ?_
     refine cs_get (s := s) (w := .ref (o + 11)) fl_X11_55 dX11_river_75 hO.1.ob0 rfl ?_
     refine cs_get (s := s) (w := .ref (o + 12)) fl_X11_59 dX11_river_78 (hO.1.ob 1 (by decide) rfl) rfl ?_
     refine jg_iload dX11_river_81 rfl ?_
     refine jg_iload_n dX11_river_83 rfl ?_
     obtain ⟨q16, h⟩ := gd_some h
     refine cs_sta (s := s) (q := (o + 12)) (i := l5) (x := l3) dX11_river_84 (hO.1.ar 2 (by decide) rfl) q16 ?_
     refine jg_aload_n dX11_river_85 rfl ?_
     refine cs_get (s := (ca s (o + 12) l5 l3)) (w := .ref (o + 10)) fl_X11_27 dX11_river_86 hO.ob0 rfl ?_
     refine cs_get (s := (ca s (o + 12) l5 l3)) (w := .ref (o + 11)) fl_X11_55 dX11_river_89 hO.1.ob0 rfl ?_
     refine cs_get (s := (ca s (o + 12) l5 l3)) (w := .ref (o + 13)) fl_X11_65 dX11_river_92 (hO.1.ob 1 (by decide) rfl) rfl ?_
     refine jg_iload dX11_river_95 rfl ?_
     refine jg_iload dX11_river_97 rfl ?_
     refine cs_sta (s := (ca s (o + 12) l5 l3)) (q := (o + 13)) (i := l5) (x := l4) dX11_river_99 (hO.1.ar 3 (by decide) rfl) q16 ?_
     refine jg_iinc (x := l5) (v := l5 + nI 1) (L' := [some (.ref o), none, some (.int l2), some (.int l3), some (.int l4), some (.int (l5 + nI 1))]) dX11_river_100 rfl (ic_k _ (by decide)) (by decide) rfl ?_
     refine jg_goto (tgt := 65) dX11_river_103 (by decide) ?_
     refine jg_fg (L' := [some (.ref o), none, some (.int l2), some (.int l3), some (.int l4), some (.int (l5 + nI 1))]) (by repeat (first | exact trivial | refine ⟨rfl, ?_⟩ | show jg_le _ _)) ?_
     exact ih (l5 + nI 1) (ca (ca s (o + 12) l5 l3) (o + 13) l5 l4) h
noncomputable def o_X11_river (F : Nat) (τ : cT) (n : Nat) (o : Nat) (s : cS) (a1 : Int32) (a2 : Int32) (a3 : Int32) (a4 : Int32) : Option ((cS) ⊕ (Nat × cS)) := (o_X11_needCell τ n s a1).bind fun x1 => (Sum.elim (fun y2 => (o_X11_needCell τ n s a2).bind fun x4 => (Sum.elim (fun y5 => if a2 < a1 then ((o_X11_needArgument τ n s (nI 0)).bind fun x8 => (Sum.elim (fun y9 => if (s.1 (o + 10) 0) = 0 then ((o_X11_needState τ n s (nI 1)).bind fun x18 => (Sum.elim (fun y19 => (o_X11_river_65 F τ n o a2 a3 a4 F a1 s).bind fun x21 => (some (.inl x21))) (fun z20 => some (.inr (z20, s))) x18)) else ((o_X11_needState τ n s (nI 0)).bind fun x12 => (Sum.elim (fun y13 => (o_X11_river_65 F τ n o a2 a3 a4 F a1 s).bind fun x17 => (some (.inl x17))) (fun z14 => some (.inr (z14, s))) x12))) (fun z10 => some (.inr (z10, s))) x8)) else ((o_X11_within τ n s a3 (nI 0) (nI 200)).bind fun x22 => (if x22 = 0 then ((o_X11_needArgument τ n s (nI 0)).bind fun x24 => (Sum.elim (fun y25 => if (s.1 (o + 10) 0) = 0 then ((o_X11_needState τ n s (nI 1)).bind fun x32 => (Sum.elim (fun y33 => (o_X11_river_65 F τ n o a2 a3 a4 F a1 s).bind fun x35 => (some (.inl x35))) (fun z34 => some (.inr (z34, s))) x32)) else ((o_X11_needState τ n s (nI 0)).bind fun x28 => (Sum.elim (fun y29 => (o_X11_river_65 F τ n o a2 a3 a4 F a1 s).bind fun x31 => (some (.inl x31))) (fun z30 => some (.inr (z30, s))) x28))) (fun z26 => some (.inr (z26, s))) x24)) else ((o_X11_within τ n s a4 (nI 0) (nI 200)).bind fun x36 => (if x36 = 0 then ((o_X11_needArgument τ n s (nI 0)).bind fun x38 => (Sum.elim (fun y39 => if (s.1 (o + 10) 0) = 0 then ((o_X11_needState τ n s (nI 1)).bind fun x46 => (Sum.elim (fun y47 => (o_X11_river_65 F τ n o a2 a3 a4 F a1 s).bind fun x49 => (some (.inl x49))) (fun z48 => some (.inr (z48, s))) x46)) else ((o_X11_needState τ n s (nI 0)).bind fun x42 => (Sum.elim (fun y43 => (o_X11_river_65 F τ n o a2 a3 a4 F a1 s).bind fun x45 => (some (.inl x45))) (fun z44 => some (.inr (z44, s))) x42))) (fun z40 => some (.inr (z40, s))) x38)) else ((o_X11_needArgument τ n s (nI 1)).bind fun x50 => (Sum.elim (fun y51 => if (s.1 (o + 10) 0) = 0 then ((o_X11_needState τ n s (nI 1)).bind fun x58 => (Sum.elim (fun y59 => (o_X11_river_65 F τ n o a2 a3 a4 F a1 s).bind fun x61 => (some (.inl x61))) (fun z60 => some (.inr (z60, s))) x58)) else ((o_X11_needState τ n s (nI 0)).bind fun x54 => (Sum.elim (fun y55 => (o_X11_river_65 F τ n o a2 a3 a4 F a1 s).bind fun x57 => (some (.inl x57))) (fun z56 => some (.inr (z56, s))) x54))) (fun z52 => some (.inr (z52, s))) x50))))))) (fun z6 => some (.inr (z6, s))) x4)) (fun z3 => some (.inr (z3, s))) x1)
set_option maxHeartbeats 4000000 in
theorem t_X11_river {Γ : jg_G} {g : Nat → jg_C} (F : Nat) (τ : cT) (n : Nat) (o : Nat) (s : cS) (a1 : Int32) (a2 : Int32) (a3 : Int32) (a4 : Int32) (hO : Sh τ n o) {x : cS} (h : o_X11_river F τ n o s a1 a2 a3 a4 = some (.inl x)) : jc Γ mX11_river 8 0 0 [some (.ref o), some (.int a1), some (.int a2), some (.int a3), some (.int a4), none] (ct_h g τ s, n) (.inl none) (ct_h g τ x, n) := by
  refine jc_of ?_
  rw [o_X11_river] at h
  refine jg_iload_n dX11_river_0 rfl ?_
  obtain ⟨x1, e_x1, h⟩ := bd_some h
  rcases x1 with y2 | z3
  · replace h := se_l h
    refine cs_callS (As := [.int a1]) ks_X11_38 dX11_river_1 rfl (by decide) (Nat.le_of_ble_eq_true rfl) rfl (by decide) (Nat.le_of_ble_eq_true rfl) (t_X11_needCell τ n s a1 e_x1) ?_
    refine jg_iload_n dX11_river_4 rfl ?_
    obtain ⟨x4, e_x4, h⟩ := bd_some h
    rcases x4 with y5 | z6
    · replace h := se_l h
      refine cs_callS (As := [.int a2]) ks_X11_38 dX11_river_5 rfl (by decide) (Nat.le_of_ble_eq_true rfl) rfl (by decide) (Nat.le_of_ble_eq_true rfl) (t_X11_needCell τ n s a2 e_x4) ?_
      refine jg_iload_n dX11_river_8 rfl ?_
      refine jg_iload_n dX11_river_9 rfl ?_
      refine jg_icmp_gt (x := a1) (y := a2) (tgt := 40) dX11_river_10 (by decide) (fun c7 => ?_) (fun c7 => ?_)
      · replace h := it_t c7 h
        refine jg_iconst (v := nI 0) dX11_river_40 (by decide) ?_
        obtain ⟨x8, e_x8, h⟩ := bd_some h
        rcases x8 with y9 | z10
        · replace h := se_l h
          refine cs_callS (As := [.int (nI 0)]) ks_X11_45 dX11_river_41 rfl (by decide) (Nat.le_of_ble_eq_true rfl) rfl (by decide) (Nat.le_of_ble_eq_true rfl) (t_X11_needArgument τ n s (nI 0) e_x8) ?_
          refine jg_aload_n dX11_river_44 rfl ?_
          refine cs_get (s := s) (w := .ref (o + 10)) fl_X11_27 dX11_river_45 hO.ob0 rfl ?_
          refine cs_get (s := s) (w := .int (s.1 (o + 10) 0)) fl_X11_49 dX11_river_48 hO.1.ob0 rfl ?_
          refine jg_if_ne (x := (s.1 (o + 10) 0)) (tgt := 58) dX11_river_51 (by decide) (fun c11 => ?_) (fun c11 => ?_)
          · replace h := it_f c11 h
            refine jg_iconst (v := nI 0) dX11_river_58 (by decide) ?_
            obtain ⟨x12, e_x12, h⟩ := bd_some h
            rcases x12 with y13 | z14
            · replace h := se_l h
              refine cs_callS (As := [.int (nI 0)]) ks_X11_52 dX11_river_59 rfl (by decide) (Nat.le_of_ble_eq_true rfl) rfl (by decide) (Nat.le_of_ble_eq_true rfl) (t_X11_needState τ n s (nI 0) e_x12) ?_
              refine jg_iload_n dX11_river_62 rfl ?_
              refine jg_istore (L' := [some (.ref o), some (.int a1), some (.int a2), some (.int a3), some (.int a4), some (.int a1)]) dX11_river_63 (by decide) rfl ?_
              obtain ⟨x17, e_x17, h⟩ := bd_some h
              refine jg_fg (L' := [some (.ref o), none, some (.int a2), some (.int a3), some (.int a4), some (.int a1)]) (by repeat (first | exact trivial | refine ⟨rfl, ?_⟩ | show jg_le _ _)) ?_
              refine t_X11_river_65  F τ n o a2 a3 a4 hO _ (x := x17) ?_ F a1 s e_x17
              obtain rfl := Sum.inl.inj (Option.some.inj h)
              exact jg_return dX11_river_106 rfl ⟨rfl, rfl⟩
            · replace h := se_r h
              cases h
          · replace h := it_t c11 h
            refine jg_iconst (v := nI 1) dX11_river_54 (by decide) ?_
            refine jg_goto (tgt := 59) dX11_river_55 (by decide) ?_
            obtain ⟨x18, e_x18, h⟩ := bd_some h
            rcases x18 with y19 | z20
            · replace h := se_l h
              refine cs_callS (As := [.int (nI 1)]) ks_X11_52 dX11_river_59 rfl (by decide) (Nat.le_of_ble_eq_true rfl) rfl (by decide) (Nat.le_of_ble_eq_true rfl) (t_X11_needState τ n s (nI 1) e_x18) ?_
              refine jg_iload_n dX11_river_62 rfl ?_
              refine jg_istore (L' := [some (.ref o), some (.int a1), some (.int a2), some (.int a3), some (.int a4), some (.int a1)]) dX11_river_63 (by decide) rfl ?_
              obtain ⟨x21, e_x21, h⟩ := bd_some h
              refine jg_fg (L' := [some (.ref o), none, some (.int a2), some (.int a3), some (.int a4), some (.int a1)]) (by repeat (first | exact trivial | refine ⟨rfl, ?_⟩ | show jg_le _ _)) ?_
              refine t_X11_river_65  F τ n o a2 a3 a4 hO _ (x := x21) ?_ F a1 s e_x21
              obtain rfl := Sum.inl.inj (Option.some.inj h)
              exact jg_return dX11_river_106 rfl ⟨rfl, rfl⟩
            · replace h := se_r h
              cases h
        · replace h := se_r h
          cases h
      · replace h := it_f c7 h
        refine jg_iload_n dX11_river_13 rfl ?_
        refine jg_iconst (v := nI 0) dX11_river_14 (by decide) ?_
        refine jg_sipush (v := nI 200) dX11_river_15 (by decide) ?_
        obtain ⟨x22, e_x22, h⟩ := bd_some h
        refine cs_callS (As := [.int a3, .int (nI 0), .int (nI 200)]) ks_X11_41 dX11_river_18 rfl (by decide) (Nat.le_of_ble_eq_true rfl) rfl (by decide) (Nat.le_of_ble_eq_true rfl) (t_X11_within τ n s a3 (nI 0) (nI 200) e_x22) ?_
        refine jg_if_eq (x := x22) (tgt := 40) dX11_river_21 (by decide) (fun c23 => ?_) (fun c23 => ?_)
        · replace h := it_t c23 h
          refine jg_iconst (v := nI 0) dX11_river_40 (by decide) ?_
          obtain ⟨x24, e_x24, h⟩ := bd_some h
          rcases x24 with y25 | z26
          · replace h := se_l h
            refine cs_callS (As := [.int (nI 0)]) ks_X11_45 dX11_river_41 rfl (by decide) (Nat.le_of_ble_eq_true rfl) rfl (by decide) (Nat.le_of_ble_eq_true rfl) (t_X11_needArgument τ n s (nI 0) e_x24) ?_
            refine jg_aload_n dX11_river_44 rfl ?_
            refine cs_get (s := s) (w := .ref (o + 10)) fl_X11_27 dX11_river_45 hO.ob0 rfl ?_
            refine cs_get (s := s) (w := .int (s.1 (o + 10) 0)) fl_X11_49 dX11_river_48 hO.1.ob0 rfl ?_
            refine jg_if_ne (x := (s.1 (o + 10) 0)) (tgt := 58) dX11_river_51 (by decide) (fun c27 => ?_) (fun c27 => ?_)
            · replace h := it_f c27 h
              refine jg_iconst (v := nI 0) dX11_river_58 (by decide) ?_
              obtain ⟨x28, e_x28, h⟩ := bd_some h
              rcases x28 with y29 | z30
              · replace h := se_l h
                refine cs_callS (As := [.int (nI 0)]) ks_X11_52 dX11_river_59 rfl (by decide) (Nat.le_of_ble_eq_true rfl) rfl (by decide) (Nat.le_of_ble_eq_true rfl) (t_X11_needState τ n s (nI 0) e_x28) ?_
                refine jg_iload_n dX11_river_62 rfl ?_
                refine jg_istore (L' := [some (.ref o), some (.int a1), some (.int a2), some (.int a3), some (.int a4), some (.int a1)]) dX11_river_63 (by decide) rfl ?_
                obtain ⟨x31, e_x31, h⟩ := bd_some h
                refine jg_fg (L' := [some (.ref o), none, some (.int a2), some (.int a3), some (.int a4), some (.int a1)]) (by repeat (first | exact trivial | refine ⟨rfl, ?_⟩ | show jg_le _ _)) ?_
                refine t_X11_river_65  F τ n o a2 a3 a4 hO _ (x := x31) ?_ F a1 s e_x31
                obtain rfl := Sum.inl.inj (Option.some.inj h)
                exact jg_return dX11_river_106 rfl ⟨rfl, rfl⟩
              · replace h := se_r h
                cases h
            · replace h := it_t c27 h
              refine jg_iconst (v := nI 1) dX11_river_54 (by decide) ?_
              refine jg_goto (tgt := 59) dX11_river_55 (by decide) ?_
              obtain ⟨x32, e_x32, h⟩ := bd_some h
              rcases x32 with y33 | z34
              · replace h := se_l h
                refine cs_callS (As := [.int (nI 1)]) ks_X11_52 dX11_river_59 rfl (by decide) (Nat.le_of_ble_eq_true rfl) rfl (by decide) (Nat.le_of_ble_eq_true rfl) (t_X11_needState τ n s (nI 1) e_x32) ?_
                refine jg_iload_n dX11_river_62 rfl ?_
                refine jg_istore (L' := [some (.ref o), some (.int a1), some (.int a2), some (.int a3), some (.int a4), some (.int a1)]) dX11_river_63 (by decide) rfl ?_
                obtain ⟨x35, e_x35, h⟩ := bd_some h
                refine jg_fg (L' := [some (.ref o), none, some (.int a2), some (.int a3), some (.int a4), some (.int a1)]) (by repeat (first | exact trivial | refine ⟨rfl, ?_⟩ | show jg_le _ _)) ?_
                refine t_X11_river_65  F τ n o a2 a3 a4 hO _ (x := x35) ?_ F a1 s e_x35
                obtain rfl := Sum.inl.inj (Option.some.inj h)
                exact jg_return dX11_river_106 rfl ⟨rfl, rfl⟩
              · replace h := se_r h
                cases h
          · replace h := se_r h
            cases h
        · replace h := it_f c23 h
          refine jg_iload dX11_river_24 rfl ?_
          refine jg_iconst (v := nI 0) dX11_river_26 (by decide) ?_
          refine jg_sipush (v := nI 200) dX11_river_27 (by decide) ?_
          obtain ⟨x36, e_x36, h⟩ := bd_some h
          refine cs_callS (As := [.int a4, .int (nI 0), .int (nI 200)]) ks_X11_41 dX11_river_30 rfl (by decide) (Nat.le_of_ble_eq_true rfl) rfl (by decide) (Nat.le_of_ble_eq_true rfl) (t_X11_within τ n s a4 (nI 0) (nI 200) e_x36) ?_
          refine jg_if_eq (x := x36) (tgt := 40) dX11_river_33 (by decide) (fun c37 => ?_) (fun c37 => ?_)
          · replace h := it_t c37 h
            refine jg_iconst (v := nI 0) dX11_river_40 (by decide) ?_
            obtain ⟨x38, e_x38, h⟩ := bd_some h
            rcases x38 with y39 | z40
            · replace h := se_l h
              refine cs_callS (As := [.int (nI 0)]) ks_X11_45 dX11_river_41 rfl (by decide) (Nat.le_of_ble_eq_true rfl) rfl (by decide) (Nat.le_of_ble_eq_true rfl) (t_X11_needArgument τ n s (nI 0) e_x38) ?_
              refine jg_aload_n dX11_river_44 rfl ?_
              refine cs_get (s := s) (w := .ref (o + 10)) fl_X11_27 dX11_river_45 hO.ob0 rfl ?_
              refine cs_get (s := s) (w := .int (s.1 (o + 10) 0)) fl_X11_49 dX11_river_48 hO.1.ob0 rfl ?_
              refine jg_if_ne (x := (s.1 (o + 10) 0)) (tgt := 58) dX11_river_51 (by decide) (fun c41 => ?_) (fun c41 => ?_)
              · replace h := it_f c41 h
                refine jg_iconst (v := nI 0) dX11_river_58 (by decide) ?_
                obtain ⟨x42, e_x42, h⟩ := bd_some h
                rcases x42 with y43 | z44
                · replace h := se_l h
                  refine cs_callS (As := [.int (nI 0)]) ks_X11_52 dX11_river_59 rfl (by decide) (Nat.le_of_ble_eq_true rfl) rfl (by decide) (Nat.le_of_ble_eq_true rfl) (t_X11_needState τ n s (nI 0) e_x42) ?_
                  refine jg_iload_n dX11_river_62 rfl ?_
                  refine jg_istore (L' := [some (.ref o), some (.int a1), some (.int a2), some (.int a3), some (.int a4), some (.int a1)]) dX11_river_63 (by decide) rfl ?_
                  obtain ⟨x45, e_x45, h⟩ := bd_some h
                  refine jg_fg (L' := [some (.ref o), none, some (.int a2), some (.int a3), some (.int a4), some (.int a1)]) (by repeat (first | exact trivial | refine ⟨rfl, ?_⟩ | show jg_le _ _)) ?_
                  refine t_X11_river_65  F τ n o a2 a3 a4 hO _ (x := x45) ?_ F a1 s e_x45
                  obtain rfl := Sum.inl.inj (Option.some.inj h)
                  exact jg_return dX11_river_106 rfl ⟨rfl, rfl⟩
                · replace h := se_r h
                  cases h
              · replace h := it_t c41 h
                refine jg_iconst (v := nI 1) dX11_river_54 (by decide) ?_
                refine jg_goto (tgt := 59) dX11_river_55 (by decide) ?_
                obtain ⟨x46, e_x46, h⟩ := bd_some h
                rcases x46 with y47 | z48
                · replace h := se_l h
                  refine cs_callS (As := [.int (nI 1)]) ks_X11_52 dX11_river_59 rfl (by decide) (Nat.le_of_ble_eq_true rfl) rfl (by decide) (Nat.le_of_ble_eq_true rfl) (t_X11_needState τ n s (nI 1) e_x46) ?_
                  refine jg_iload_n dX11_river_62 rfl ?_
                  refine jg_istore (L' := [some (.ref o), some (.int a1), some (.int a2), some (.int a3), some (.int a4), some (.int a1)]) dX11_river_63 (by decide) rfl ?_
                  obtain ⟨x49, e_x49, h⟩ := bd_some h
                  refine jg_fg (L' := [some (.ref o), none, some (.int a2), some (.int a3), some (.int a4), some (.int a1)]) (by repeat (first | exact trivial | refine ⟨rfl, ?_⟩ | show jg_le _ _)) ?_
                  refine t_X11_river_65  F τ n o a2 a3 a4 hO _ (x := x49) ?_ F a1 s e_x49
                  obtain rfl := Sum.inl.inj (Option.some.inj h)
                  exact jg_return dX11_river_106 rfl ⟨rfl, rfl⟩
                · replace h := se_r h
                  cases h
            · replace h := se_r h
              cases h
          · replace h := it_f c37 h
            refine jg_iconst (v := nI 1) dX11_river_36 (by decide) ?_
            refine jg_goto (tgt := 41) dX11_river_37 (by decide) ?_
            obtain ⟨x50, e_x50, h⟩ := bd_some h
            rcases x50 with y51 | z52
            · replace h := se_l h
              refine cs_callS (As := [.int (nI 1)]) ks_X11_45 dX11_river_41 rfl (by decide) (Nat.le_of_ble_eq_true rfl) rfl (by decide) (Nat.le_of_ble_eq_true rfl) (t_X11_needArgument τ n s (nI 1) e_x50) ?_
              refine jg_aload_n dX11_river_44 rfl ?_
              refine cs_get (s := s) (w := .ref (o + 10)) fl_X11_27 dX11_river_45 hO.ob0 rfl ?_
              refine cs_get (s := s) (w := .int (s.1 (o + 10) 0)) fl_X11_49 dX11_river_48 hO.1.ob0 rfl ?_
              refine jg_if_ne (x := (s.1 (o + 10) 0)) (tgt := 58) dX11_river_51 (by decide) (fun c53 => ?_) (fun c53 => ?_)
              · replace h := it_f c53 h
                refine jg_iconst (v := nI 0) dX11_river_58 (by decide) ?_
                obtain ⟨x54, e_x54, h⟩ := bd_some h
                rcases x54 with y55 | z56
                · replace h := se_l h
                  refine cs_callS (As := [.int (nI 0)]) ks_X11_52 dX11_river_59 rfl (by decide) (Nat.le_of_ble_eq_true rfl) rfl (by decide) (Nat.le_of_ble_eq_true rfl) (t_X11_needState τ n s (nI 0) e_x54) ?_
                  refine jg_iload_n dX11_river_62 rfl ?_
                  refine jg_istore (L' := [some (.ref o), some (.int a1), some (.int a2), some (.int a3), some (.int a4), some (.int a1)]) dX11_river_63 (by decide) rfl ?_
                  obtain ⟨x57, e_x57, h⟩ := bd_some h
                  refine jg_fg (L' := [some (.ref o), none, some (.int a2), some (.int a3), some (.int a4), some (.int a1)]) (by repeat (first | exact trivial | refine ⟨rfl, ?_⟩ | show jg_le _ _)) ?_
                  refine t_X11_river_65  F τ n o a2 a3 a4 hO _ (x := x57) ?_ F a1 s e_x57
                  obtain rfl := Sum.inl.inj (Option.some.inj h)
                  exact jg_return dX11_river_106 rfl ⟨rfl, rfl⟩
                · replace h := se_r h
                  cases h
              · replace h := it_t c53 h
                refine jg_iconst (v := nI 1) dX11_river_54 (by decide) ?_
                refine jg_goto (tgt := 59) dX11_river_55 (by decide) ?_
                obtain ⟨x58, e_x58, h⟩ := bd_some h
                rcases x58 with y59 | z60
                · replace h := se_l h
                  refine cs_callS (As := [.int (nI 1)]) ks_X11_52 dX11_river_59 rfl (by decide) (Nat.le_of_ble_eq_true rfl) rfl (by decide) (Nat.le_of_ble_eq_true rfl) (t_X11_needState τ n s (nI 1) e_x58) ?_
                  refine jg_iload_n dX11_river_62 rfl ?_
                  refine jg_istore (L' := [some (.ref o), some (.int a1), some (.int a2), some (.int a3), some (.int a4), some (.int a1)]) dX11_river_63 (by decide) rfl ?_
                  obtain ⟨x61, e_x61, h⟩ := bd_some h
                  refine jg_fg (L' := [some (.ref o), none, some (.int a2), some (.int a3), some (.int a4), some (.int a1)]) (by repeat (first | exact trivial | refine ⟨rfl, ?_⟩ | show jg_le _ _)) ?_
                  refine t_X11_river_65  F τ n o a2 a3 a4 hO _ (x := x61) ?_ F a1 s e_x61
                  obtain rfl := Sum.inl.inj (Option.some.inj h)
                  exact jg_return dX11_river_106 rfl ⟨rfl, rfl⟩
                · replace h := se_r h
                  cases h
            · replace h := se_r h
              cases h
    · replace h := se_r h
      cases h
  · replace h := se_r h
    cases h
set_option maxHeartbeats 4000000 in
theorem x_X11_river {Γ : jg_G} {g : Nat → jg_C} (F : Nat) (τ : cT) (n : Nat) (o : Nat) (s : cS) (a1 : Int32) (a2 : Int32) (a3 : Int32) (a4 : Int32) (hO : Sh τ n o) (hn : n < 1000000) (hT : τ n = .inr (8, 0)) {z : Nat × cS} (h : o_X11_river F τ n o s a1 a2 a3 a4 = some (.inr z)) : jc Γ mX11_river 8 1 6 [some (.ref o), some (.int a1), some (.int a2), some (.int a3), some (.int a4), none] (ct_h g τ s, n) (.inr (exn z.1)) (ct_h (gx g n) τ z.2, n + 1) := by
  refine jc_of ?_
  rw [o_X11_river] at h
  refine jg_iload_n dX11_river_0 rfl ?_
  obtain ⟨x1, e_x1, h⟩ := bd_some h
  rcases x1 with y2 | z3
  · replace h := se_l h
    refine cs_callS (As := [.int a1]) ks_X11_38 dX11_river_1 rfl (by decide) (Nat.le_of_ble_eq_true rfl) rfl (by decide) (Nat.le_of_ble_eq_true rfl) (t_X11_needCell τ n s a1 e_x1) ?_
    refine jg_iload_n dX11_river_4 rfl ?_
    obtain ⟨x4, e_x4, h⟩ := bd_some h
    rcases x4 with y5 | z6
    · replace h := se_l h
      refine cs_callS (As := [.int a2]) ks_X11_38 dX11_river_5 rfl (by decide) (Nat.le_of_ble_eq_true rfl) rfl (by decide) (Nat.le_of_ble_eq_true rfl) (t_X11_needCell τ n s a2 e_x4) ?_
      refine jg_iload_n dX11_river_8 rfl ?_
      refine jg_iload_n dX11_river_9 rfl ?_
      refine jg_icmp_gt (x := a1) (y := a2) (tgt := 40) dX11_river_10 (by decide) (fun c7 => ?_) (fun c7 => ?_)
      · replace h := it_t c7 h
        refine jg_iconst (v := nI 0) dX11_river_40 (by decide) ?_
        obtain ⟨x8, e_x8, h⟩ := bd_some h
        rcases x8 with y9 | z10
        · replace h := se_l h
          refine cs_callS (As := [.int (nI 0)]) ks_X11_45 dX11_river_41 rfl (by decide) (Nat.le_of_ble_eq_true rfl) rfl (by decide) (Nat.le_of_ble_eq_true rfl) (t_X11_needArgument τ n s (nI 0) e_x8) ?_
          refine jg_aload_n dX11_river_44 rfl ?_
          refine cs_get (s := s) (w := .ref (o + 10)) fl_X11_27 dX11_river_45 hO.ob0 rfl ?_
          refine cs_get (s := s) (w := .int (s.1 (o + 10) 0)) fl_X11_49 dX11_river_48 hO.1.ob0 rfl ?_
          refine jg_if_ne (x := (s.1 (o + 10) 0)) (tgt := 58) dX11_river_51 (by decide) (fun c11 => ?_) (fun c11 => ?_)
          · replace h := it_f c11 h
            refine jg_iconst (v := nI 0) dX11_river_58 (by decide) ?_
            obtain ⟨x12, e_x12, h⟩ := bd_some h
            rcases x12 with y13 | z14
            · replace h := se_l h
              refine cs_callS (As := [.int (nI 0)]) ks_X11_52 dX11_river_59 rfl (by decide) (Nat.le_of_ble_eq_true rfl) rfl (by decide) (Nat.le_of_ble_eq_true rfl) (t_X11_needState τ n s (nI 0) e_x12) ?_
              refine jg_iload_n dX11_river_62 rfl ?_
              refine jg_istore (L' := [some (.ref o), some (.int a1), some (.int a2), some (.int a3), some (.int a4), some (.int a1)]) dX11_river_63 (by decide) rfl ?_
              obtain ⟨x15, e_x15, h⟩ := bd_some h
              refine jg_fg (L' := [some (.ref o), none, some (.int a2), some (.int a3), some (.int a4), some (.int a1)]) (by repeat (first | exact trivial | refine ⟨rfl, ?_⟩ | show jg_le _ _)) ?_
              refine t_X11_river_65  F τ n o a2 a3 a4 hO _ (x := x15) ?_ F a1 s e_x15
              cases h
            · replace h := se_r h
              obtain rfl := Sum.inr.inj (Option.some.inj h)
              exact jc_SX (As := [.int (nI 0)]) ks_X11_52 dX11_river_59 rfl (by decide) (Nat.le_of_ble_eq_true rfl) rfl (by decide) (Nat.le_refl _) (Nat.le_refl _) (Nat.le_of_ble_eq_true rfl) (x_X11_needState τ n s (nI 0) hn hT e_x12) ⟨rfl, rfl⟩
          · replace h := it_t c11 h
            refine jg_iconst (v := nI 1) dX11_river_54 (by decide) ?_
            refine jg_goto (tgt := 59) dX11_river_55 (by decide) ?_
            obtain ⟨x16, e_x16, h⟩ := bd_some h
            rcases x16 with y17 | z18
            · replace h := se_l h
              refine cs_callS (As := [.int (nI 1)]) ks_X11_52 dX11_river_59 rfl (by decide) (Nat.le_of_ble_eq_true rfl) rfl (by decide) (Nat.le_of_ble_eq_true rfl) (t_X11_needState τ n s (nI 1) e_x16) ?_
              refine jg_iload_n dX11_river_62 rfl ?_
              refine jg_istore (L' := [some (.ref o), some (.int a1), some (.int a2), some (.int a3), some (.int a4), some (.int a1)]) dX11_river_63 (by decide) rfl ?_
              obtain ⟨x19, e_x19, h⟩ := bd_some h
              refine jg_fg (L' := [some (.ref o), none, some (.int a2), some (.int a3), some (.int a4), some (.int a1)]) (by repeat (first | exact trivial | refine ⟨rfl, ?_⟩ | show jg_le _ _)) ?_
              refine t_X11_river_65  F τ n o a2 a3 a4 hO _ (x := x19) ?_ F a1 s e_x19
              cases h
            · replace h := se_r h
              obtain rfl := Sum.inr.inj (Option.some.inj h)
              exact jc_SX (As := [.int (nI 1)]) ks_X11_52 dX11_river_59 rfl (by decide) (Nat.le_of_ble_eq_true rfl) rfl (by decide) (Nat.le_refl _) (Nat.le_refl _) (Nat.le_of_ble_eq_true rfl) (x_X11_needState τ n s (nI 1) hn hT e_x16) ⟨rfl, rfl⟩
        · replace h := se_r h
          obtain rfl := Sum.inr.inj (Option.some.inj h)
          exact jc_SX (As := [.int (nI 0)]) ks_X11_45 dX11_river_41 rfl (by decide) (Nat.le_of_ble_eq_true rfl) rfl (by decide) (Nat.le_refl _) (Nat.le_refl _) (Nat.le_of_ble_eq_true rfl) (x_X11_needArgument τ n s (nI 0) hn hT e_x8) ⟨rfl, rfl⟩
      · replace h := it_f c7 h
        refine jg_iload_n dX11_river_13 rfl ?_
        refine jg_iconst (v := nI 0) dX11_river_14 (by decide) ?_
        refine jg_sipush (v := nI 200) dX11_river_15 (by decide) ?_
        obtain ⟨x20, e_x20, h⟩ := bd_some h
        refine cs_callS (As := [.int a3, .int (nI 0), .int (nI 200)]) ks_X11_41 dX11_river_18 rfl (by decide) (Nat.le_of_ble_eq_true rfl) rfl (by decide) (Nat.le_of_ble_eq_true rfl) (t_X11_within τ n s a3 (nI 0) (nI 200) e_x20) ?_
        refine jg_if_eq (x := x20) (tgt := 40) dX11_river_21 (by decide) (fun c21 => ?_) (fun c21 => ?_)
        · replace h := it_t c21 h
          refine jg_iconst (v := nI 0) dX11_river_40 (by decide) ?_
          obtain ⟨x22, e_x22, h⟩ := bd_some h
          rcases x22 with y23 | z24
          · replace h := se_l h
            refine cs_callS (As := [.int (nI 0)]) ks_X11_45 dX11_river_41 rfl (by decide) (Nat.le_of_ble_eq_true rfl) rfl (by decide) (Nat.le_of_ble_eq_true rfl) (t_X11_needArgument τ n s (nI 0) e_x22) ?_
            refine jg_aload_n dX11_river_44 rfl ?_
            refine cs_get (s := s) (w := .ref (o + 10)) fl_X11_27 dX11_river_45 hO.ob0 rfl ?_
            refine cs_get (s := s) (w := .int (s.1 (o + 10) 0)) fl_X11_49 dX11_river_48 hO.1.ob0 rfl ?_
            refine jg_if_ne (x := (s.1 (o + 10) 0)) (tgt := 58) dX11_river_51 (by decide) (fun c25 => ?_) (fun c25 => ?_)
            · replace h := it_f c25 h
              refine jg_iconst (v := nI 0) dX11_river_58 (by decide) ?_
              obtain ⟨x26, e_x26, h⟩ := bd_some h
              rcases x26 with y27 | z28
              · replace h := se_l h
                refine cs_callS (As := [.int (nI 0)]) ks_X11_52 dX11_river_59 rfl (by decide) (Nat.le_of_ble_eq_true rfl) rfl (by decide) (Nat.le_of_ble_eq_true rfl) (t_X11_needState τ n s (nI 0) e_x26) ?_
                refine jg_iload_n dX11_river_62 rfl ?_
                refine jg_istore (L' := [some (.ref o), some (.int a1), some (.int a2), some (.int a3), some (.int a4), some (.int a1)]) dX11_river_63 (by decide) rfl ?_
                obtain ⟨x29, e_x29, h⟩ := bd_some h
                refine jg_fg (L' := [some (.ref o), none, some (.int a2), some (.int a3), some (.int a4), some (.int a1)]) (by repeat (first | exact trivial | refine ⟨rfl, ?_⟩ | show jg_le _ _)) ?_
                refine t_X11_river_65  F τ n o a2 a3 a4 hO _ (x := x29) ?_ F a1 s e_x29
                cases h
              · replace h := se_r h
                obtain rfl := Sum.inr.inj (Option.some.inj h)
                exact jc_SX (As := [.int (nI 0)]) ks_X11_52 dX11_river_59 rfl (by decide) (Nat.le_of_ble_eq_true rfl) rfl (by decide) (Nat.le_refl _) (Nat.le_refl _) (Nat.le_of_ble_eq_true rfl) (x_X11_needState τ n s (nI 0) hn hT e_x26) ⟨rfl, rfl⟩
            · replace h := it_t c25 h
              refine jg_iconst (v := nI 1) dX11_river_54 (by decide) ?_
              refine jg_goto (tgt := 59) dX11_river_55 (by decide) ?_
              obtain ⟨x30, e_x30, h⟩ := bd_some h
              rcases x30 with y31 | z32
              · replace h := se_l h
                refine cs_callS (As := [.int (nI 1)]) ks_X11_52 dX11_river_59 rfl (by decide) (Nat.le_of_ble_eq_true rfl) rfl (by decide) (Nat.le_of_ble_eq_true rfl) (t_X11_needState τ n s (nI 1) e_x30) ?_
                refine jg_iload_n dX11_river_62 rfl ?_
                refine jg_istore (L' := [some (.ref o), some (.int a1), some (.int a2), some (.int a3), some (.int a4), some (.int a1)]) dX11_river_63 (by decide) rfl ?_
                obtain ⟨x33, e_x33, h⟩ := bd_some h
                refine jg_fg (L' := [some (.ref o), none, some (.int a2), some (.int a3), some (.int a4), some (.int a1)]) (by repeat (first | exact trivial | refine ⟨rfl, ?_⟩ | show jg_le _ _)) ?_
                refine t_X11_river_65  F τ n o a2 a3 a4 hO _ (x := x33) ?_ F a1 s e_x33
                cases h
              · replace h := se_r h
                obtain rfl := Sum.inr.inj (Option.some.inj h)
                exact jc_SX (As := [.int (nI 1)]) ks_X11_52 dX11_river_59 rfl (by decide) (Nat.le_of_ble_eq_true rfl) rfl (by decide) (Nat.le_refl _) (Nat.le_refl _) (Nat.le_of_ble_eq_true rfl) (x_X11_needState τ n s (nI 1) hn hT e_x30) ⟨rfl, rfl⟩
          · replace h := se_r h
            obtain rfl := Sum.inr.inj (Option.some.inj h)
            exact jc_SX (As := [.int (nI 0)]) ks_X11_45 dX11_river_41 rfl (by decide) (Nat.le_of_ble_eq_true rfl) rfl (by decide) (Nat.le_refl _) (Nat.le_refl _) (Nat.le_of_ble_eq_true rfl) (x_X11_needArgument τ n s (nI 0) hn hT e_x22) ⟨rfl, rfl⟩
        · replace h := it_f c21 h
          refine jg_iload dX11_river_24 rfl ?_
          refine jg_iconst (v := nI 0) dX11_river_26 (by decide) ?_
          refine jg_sipush (v := nI 200) dX11_river_27 (by decide) ?_
          obtain ⟨x34, e_x34, h⟩ := bd_some h
          refine cs_callS (As := [.int a4, .int (nI 0), .int (nI 200)]) ks_X11_41 dX11_river_30 rfl (by decide) (Nat.le_of_ble_eq_true rfl) rfl (by decide) (Nat.le_of_ble_eq_true rfl) (t_X11_within τ n s a4 (nI 0) (nI 200) e_x34) ?_
          refine jg_if_eq (x := x34) (tgt := 40) dX11_river_33 (by decide) (fun c35 => ?_) (fun c35 => ?_)
          · replace h := it_t c35 h
            refine jg_iconst (v := nI 0) dX11_river_40 (by decide) ?_
            obtain ⟨x36, e_x36, h⟩ := bd_some h
            rcases x36 with y37 | z38
            · replace h := se_l h
              refine cs_callS (As := [.int (nI 0)]) ks_X11_45 dX11_river_41 rfl (by decide) (Nat.le_of_ble_eq_true rfl) rfl (by decide) (Nat.le_of_ble_eq_true rfl) (t_X11_needArgument τ n s (nI 0) e_x36) ?_
              refine jg_aload_n dX11_river_44 rfl ?_
              refine cs_get (s := s) (w := .ref (o + 10)) fl_X11_27 dX11_river_45 hO.ob0 rfl ?_
              refine cs_get (s := s) (w := .int (s.1 (o + 10) 0)) fl_X11_49 dX11_river_48 hO.1.ob0 rfl ?_
              refine jg_if_ne (x := (s.1 (o + 10) 0)) (tgt := 58) dX11_river_51 (by decide) (fun c39 => ?_) (fun c39 => ?_)
              · replace h := it_f c39 h
                refine jg_iconst (v := nI 0) dX11_river_58 (by decide) ?_
                obtain ⟨x40, e_x40, h⟩ := bd_some h
                rcases x40 with y41 | z42
                · replace h := se_l h
                  refine cs_callS (As := [.int (nI 0)]) ks_X11_52 dX11_river_59 rfl (by decide) (Nat.le_of_ble_eq_true rfl) rfl (by decide) (Nat.le_of_ble_eq_true rfl) (t_X11_needState τ n s (nI 0) e_x40) ?_
                  refine jg_iload_n dX11_river_62 rfl ?_
                  refine jg_istore (L' := [some (.ref o), some (.int a1), some (.int a2), some (.int a3), some (.int a4), some (.int a1)]) dX11_river_63 (by decide) rfl ?_
                  obtain ⟨x43, e_x43, h⟩ := bd_some h
                  refine jg_fg (L' := [some (.ref o), none, some (.int a2), some (.int a3), some (.int a4), some (.int a1)]) (by repeat (first | exact trivial | refine ⟨rfl, ?_⟩ | show jg_le _ _)) ?_
                  refine t_X11_river_65  F τ n o a2 a3 a4 hO _ (x := x43) ?_ F a1 s e_x43
                  cases h
                · replace h := se_r h
                  obtain rfl := Sum.inr.inj (Option.some.inj h)
                  exact jc_SX (As := [.int (nI 0)]) ks_X11_52 dX11_river_59 rfl (by decide) (Nat.le_of_ble_eq_true rfl) rfl (by decide) (Nat.le_refl _) (Nat.le_refl _) (Nat.le_of_ble_eq_true rfl) (x_X11_needState τ n s (nI 0) hn hT e_x40) ⟨rfl, rfl⟩
              · replace h := it_t c39 h
                refine jg_iconst (v := nI 1) dX11_river_54 (by decide) ?_
                refine jg_goto (tgt := 59) dX11_river_55 (by decide) ?_
                obtain ⟨x44, e_x44, h⟩ := bd_some h
                rcases x44 with y45 | z46
                · replace h := se_l h
                  refine cs_callS (As := [.int (nI 1)]) ks_X11_52 dX11_river_59 rfl (by decide) (Nat.le_of_ble_eq_true rfl) rfl (by decide) (Nat.le_of_ble_eq_true rfl) (t_X11_needState τ n s (nI 1) e_x44) ?_
                  refine jg_iload_n dX11_river_62 rfl ?_
                  refine jg_istore (L' := [some (.ref o), some (.int a1), some (.int a2), some (.int a3), some (.int a4), some (.int a1)]) dX11_river_63 (by decide) rfl ?_
                  obtain ⟨x47, e_x47, h⟩ := bd_some h
                  refine jg_fg (L' := [some (.ref o), none, some (.int a2), some (.int a3), some (.int a4), some (.int a1)]) (by repeat (first | exact trivial | refine ⟨rfl, ?_⟩ | show jg_le _ _)) ?_
                  refine t_X11_river_65  F τ n o a2 a3 a4 hO _ (x := x47) ?_ F a1 s e_x47
                  cases h
                · replace h := se_r h
                  obtain rfl := Sum.inr.inj (Option.some.inj h)
                  exact jc_SX (As := [.int (nI 1)]) ks_X11_52 dX11_river_59 rfl (by decide) (Nat.le_of_ble_eq_true rfl) rfl (by decide) (Nat.le_refl _) (Nat.le_refl _) (Nat.le_of_ble_eq_true rfl) (x_X11_needState τ n s (nI 1) hn hT e_x44) ⟨rfl, rfl⟩
            · replace h := se_r h
              obtain rfl := Sum.inr.inj (Option.some.inj h)
              exact jc_SX (As := [.int (nI 0)]) ks_X11_45 dX11_river_41 rfl (by decide) (Nat.le_of_ble_eq_true rfl) rfl (by decide) (Nat.le_refl _) (Nat.le_refl _) (Nat.le_of_ble_eq_true rfl) (x_X11_needArgument τ n s (nI 0) hn hT e_x36) ⟨rfl, rfl⟩
          · replace h := it_f c35 h
            refine jg_iconst (v := nI 1) dX11_river_36 (by decide) ?_
            refine jg_goto (tgt := 41) dX11_river_37 (by decide) ?_
            obtain ⟨x48, e_x48, h⟩ := bd_some h
            rcases x48 with y49 | z50
            · replace h := se_l h
              refine cs_callS (As := [.int (nI 1)]) ks_X11_45 dX11_river_41 rfl (by decide) (Nat.le_of_ble_eq_true rfl) rfl (by decide) (Nat.le_of_ble_eq_true rfl) (t_X11_needArgument τ n s (nI 1) e_x48) ?_
              refine jg_aload_n dX11_river_44 rfl ?_
              refine cs_get (s := s) (w := .ref (o + 10)) fl_X11_27 dX11_river_45 hO.ob0 rfl ?_
              refine cs_get (s := s) (w := .int (s.1 (o + 10) 0)) fl_X11_49 dX11_river_48 hO.1.ob0 rfl ?_
              refine jg_if_ne (x := (s.1 (o + 10) 0)) (tgt := 58) dX11_river_51 (by decide) (fun c51 => ?_) (fun c51 => ?_)
              · replace h := it_f c51 h
                refine jg_iconst (v := nI 0) dX11_river_58 (by decide) ?_
                obtain ⟨x52, e_x52, h⟩ := bd_some h
                rcases x52 with y53 | z54
                · replace h := se_l h
                  refine cs_callS (As := [.int (nI 0)]) ks_X11_52 dX11_river_59 rfl (by decide) (Nat.le_of_ble_eq_true rfl) rfl (by decide) (Nat.le_of_ble_eq_true rfl) (t_X11_needState τ n s (nI 0) e_x52) ?_
                  refine jg_iload_n dX11_river_62 rfl ?_
                  refine jg_istore (L' := [some (.ref o), some (.int a1), some (.int a2), some (.int a3), some (.int a4), some (.int a1)]) dX11_river_63 (by decide) rfl ?_
                  obtain ⟨x55, e_x55, h⟩ := bd_some h
                  refine jg_fg (L' := [some (.ref o), none, some (.int a2), some (.int a3), some (.int a4), some (.int a1)]) (by repeat (first | exact trivial | refine ⟨rfl, ?_⟩ | show jg_le _ _)) ?_
                  refine t_X11_river_65  F τ n o a2 a3 a4 hO _ (x := x55) ?_ F a1 s e_x55
                  cases h
                · replace h := se_r h
                  obtain rfl := Sum.inr.inj (Option.some.inj h)
                  exact jc_SX (As := [.int (nI 0)]) ks_X11_52 dX11_river_59 rfl (by decide) (Nat.le_of_ble_eq_true rfl) rfl (by decide) (Nat.le_refl _) (Nat.le_refl _) (Nat.le_of_ble_eq_true rfl) (x_X11_needState τ n s (nI 0) hn hT e_x52) ⟨rfl, rfl⟩
              · replace h := it_t c51 h
                refine jg_iconst (v := nI 1) dX11_river_54 (by decide) ?_
                refine jg_goto (tgt := 59) dX11_river_55 (by decide) ?_
                obtain ⟨x56, e_x56, h⟩ := bd_some h
                rcases x56 with y57 | z58
                · replace h := se_l h
                  refine cs_callS (As := [.int (nI 1)]) ks_X11_52 dX11_river_59 rfl (by decide) (Nat.le_of_ble_eq_true rfl) rfl (by decide) (Nat.le_of_ble_eq_true rfl) (t_X11_needState τ n s (nI 1) e_x56) ?_
                  refine jg_iload_n dX11_river_62 rfl ?_
                  refine jg_istore (L' := [some (.ref o), some (.int a1), some (.int a2), some (.int a3), some (.int a4), some (.int a1)]) dX11_river_63 (by decide) rfl ?_
                  obtain ⟨x59, e_x59, h⟩ := bd_some h
                  refine jg_fg (L' := [some (.ref o), none, some (.int a2), some (.int a3), some (.int a4), some (.int a1)]) (by repeat (first | exact trivial | refine ⟨rfl, ?_⟩ | show jg_le _ _)) ?_
                  refine t_X11_river_65  F τ n o a2 a3 a4 hO _ (x := x59) ?_ F a1 s e_x59
                  cases h
                · replace h := se_r h
                  obtain rfl := Sum.inr.inj (Option.some.inj h)
                  exact jc_SX (As := [.int (nI 1)]) ks_X11_52 dX11_river_59 rfl (by decide) (Nat.le_of_ble_eq_true rfl) rfl (by decide) (Nat.le_refl _) (Nat.le_refl _) (Nat.le_of_ble_eq_true rfl) (x_X11_needState τ n s (nI 1) hn hT e_x56) ⟨rfl, rfl⟩
            · replace h := se_r h
              obtain rfl := Sum.inr.inj (Option.some.inj h)
              exact jc_SX (As := [.int (nI 1)]) ks_X11_45 dX11_river_41 rfl (by decide) (Nat.le_of_ble_eq_true rfl) rfl (by decide) (Nat.le_refl _) (Nat.le_refl _) (Nat.le_of_ble_eq_true rfl) (x_X11_needArgument τ n s (nI 1) hn hT e_x48) ⟨rfl, rfl⟩
    · replace h := se_r h
      obtain rfl := Sum.inr.inj (Option.some.inj h)
      exact jc_SX (As := [.int a2]) ks_X11_38 dX11_river_5 rfl (by decide) (Nat.le_of_ble_eq_true rfl) rfl (by decide) (Nat.le_refl _) (Nat.le_refl _) (Nat.le_of_ble_eq_true rfl) (x_X11_needCell τ n s a2 hn hT e_x4) ⟨rfl, rfl⟩
  · replace h := se_r h
    obtain rfl := Sum.inr.inj (Option.some.inj h)
    exact jc_SX (As := [.int a1]) ks_X11_38 dX11_river_1 rfl (by decide) (Nat.le_of_ble_eq_true rfl) rfl (by decide) (Nat.le_refl _) (Nat.le_refl _) (Nat.le_of_ble_eq_true rfl) (x_X11_needCell τ n s a1 hn hT e_x1) ⟨rfl, rfl⟩
theorem dX11_tide_0 : decode cX11_tide 0 = .ok (.iload_n 1, 1) := by decide +kernel
theorem dX11_tide_1 : decode cX11_tide 1 = .ok (.iconst 0, 1) := by decide +kernel
theorem dX11_tide_2 : decode cX11_tide 2 = .ok (.bipush 24, 2) := by decide +kernel
theorem dX11_tide_4 : decode cX11_tide 4 = .ok (.invokestatic 41, 3) := by decide +kernel
theorem dX11_tide_7 : decode cX11_tide 7 = .ok (.ifCond .eq 18, 3) := by decide +kernel
theorem dX11_tide_10 : decode cX11_tide 10 = .ok (.iload_n 2, 1) := by decide +kernel
theorem dX11_tide_11 : decode cX11_tide 11 = .ok (.bipush (-20), 2) := by decide +kernel
theorem dX11_tide_13 : decode cX11_tide 13 = .ok (.bipush 60, 2) := by decide +kernel
theorem dX11_tide_15 : decode cX11_tide 15 = .ok (.invokestatic 41, 3) := by decide +kernel
theorem dX11_tide_18 : decode cX11_tide 18 = .ok (.ifCond .eq 7, 3) := by decide +kernel
theorem dX11_tide_21 : decode cX11_tide 21 = .ok (.iconst 1, 1) := by decide +kernel
theorem dX11_tide_22 : decode cX11_tide 22 = .ok (.goto 4, 3) := by decide +kernel
theorem dX11_tide_25 : decode cX11_tide 25 = .ok (.iconst 0, 1) := by decide +kernel
theorem dX11_tide_26 : decode cX11_tide 26 = .ok (.invokestatic 45, 3) := by decide +kernel
theorem dX11_tide_29 : decode cX11_tide 29 = .ok (.aload_n 0, 1) := by decide +kernel
theorem dX11_tide_30 : decode cX11_tide 30 = .ok (.getfield 27, 3) := by decide +kernel
theorem dX11_tide_33 : decode cX11_tide 33 = .ok (.getfield 55, 3) := by decide +kernel
theorem dX11_tide_36 : decode cX11_tide 36 = .ok (.getfield 68, 3) := by decide +kernel
theorem dX11_tide_39 : decode cX11_tide 39 = .ok (.iload_n 1, 1) := by decide +kernel
theorem dX11_tide_40 : decode cX11_tide 40 = .ok (.iload_n 2, 1) := by decide +kernel
theorem dX11_tide_41 : decode cX11_tide 41 = .ok (.iastore, 1) := by decide +kernel
theorem dX11_tide_42 : decode cX11_tide 42 = .ok (.return_, 1) := by decide +kernel
noncomputable def o_X11_tide (τ : cT) (n : Nat) (o : Nat) (s : cS) (a1 : Int32) (a2 : Int32) : Option ((cS) ⊕ (Nat × cS)) := (o_X11_within τ n s a1 (nI 0) (nI 24)).bind fun x1 => (if x1 = 0 then ((o_X11_needArgument τ n s (nI 0)).bind fun x3 => (Sum.elim (fun y4 => if iL a1 25 then (some (.inl (ca s (o + 15) a1 a2))) else none) (fun z5 => some (.inr (z5, s))) x3)) else ((o_X11_within τ n s a2 (-20) (nI 60)).bind fun x7 => (if x7 = 0 then ((o_X11_needArgument τ n s (nI 0)).bind fun x9 => (Sum.elim (fun y10 => if iL a1 25 then (some (.inl (ca s (o + 15) a1 a2))) else none) (fun z11 => some (.inr (z11, s))) x9)) else ((o_X11_needArgument τ n s (nI 1)).bind fun x13 => (Sum.elim (fun y14 => if iL a1 25 then (some (.inl (ca s (o + 15) a1 a2))) else none) (fun z15 => some (.inr (z15, s))) x13)))))
set_option maxHeartbeats 4000000 in
theorem t_X11_tide {Γ : jg_G} {g : Nat → jg_C} (τ : cT) (n : Nat) (o : Nat) (s : cS) (a1 : Int32) (a2 : Int32) (hO : Sh τ n o) {x : cS} (h : o_X11_tide τ n o s a1 a2 = some (.inl x)) : jc Γ mX11_tide 7 0 0 [some (.ref o), some (.int a1), some (.int a2)] (ct_h g τ s, n) (.inl none) (ct_h g τ x, n) := by
  refine jc_of ?_
  rw [o_X11_tide] at h
  refine jg_iload_n dX11_tide_0 rfl ?_
  refine jg_iconst (v := nI 0) dX11_tide_1 (by decide) ?_
  refine jg_bipush (v := nI 24) dX11_tide_2 (by decide) ?_
  obtain ⟨x1, e_x1, h⟩ := bd_some h
  refine cs_callS (As := [.int a1, .int (nI 0), .int (nI 24)]) ks_X11_41 dX11_tide_4 rfl (by decide) (Nat.le_of_ble_eq_true rfl) rfl (by decide) (Nat.le_of_ble_eq_true rfl) (t_X11_within τ n s a1 (nI 0) (nI 24) e_x1) ?_
  refine jg_if_eq (x := x1) (tgt := 25) dX11_tide_7 (by decide) (fun c2 => ?_) (fun c2 => ?_)
  · replace h := it_t c2 h
    refine jg_iconst (v := nI 0) dX11_tide_25 (by decide) ?_
    obtain ⟨x3, e_x3, h⟩ := bd_some h
    rcases x3 with y4 | z5
    · replace h := se_l h
      refine cs_callS (As := [.int (nI 0)]) ks_X11_45 dX11_tide_26 rfl (by decide) (Nat.le_of_ble_eq_true rfl) rfl (by decide) (Nat.le_of_ble_eq_true rfl) (t_X11_needArgument τ n s (nI 0) e_x3) ?_
      refine jg_aload_n dX11_tide_29 rfl ?_
      refine cs_get (s := s) (w := .ref (o + 10)) fl_X11_27 dX11_tide_30 hO.ob0 rfl ?_
      refine cs_get (s := s) (w := .ref (o + 11)) fl_X11_55 dX11_tide_33 hO.1.ob0 rfl ?_
      refine cs_get (s := s) (w := .ref (o + 15)) fl_X11_68 dX11_tide_36 (hO.1.ob 1 (by decide) rfl) rfl ?_
      refine jg_iload_n dX11_tide_39 rfl ?_
      refine jg_iload_n dX11_tide_40 rfl ?_
      obtain ⟨q6, h⟩ := gd_some h
      refine cs_sta (s := s) (q := (o + 15)) (i := a1) (x := a2) dX11_tide_41 (hO.1.ar 5 (by decide) rfl) q6 ?_
      obtain rfl := Sum.inl.inj (Option.some.inj h)
      exact jg_return dX11_tide_42 rfl ⟨rfl, rfl⟩
    · replace h := se_r h
      cases h
  · replace h := it_f c2 h
    refine jg_iload_n dX11_tide_10 rfl ?_
    refine jg_bipush (v := (-20)) dX11_tide_11 (by decide) ?_
    refine jg_bipush (v := nI 60) dX11_tide_13 (by decide) ?_
    obtain ⟨x7, e_x7, h⟩ := bd_some h
    refine cs_callS (As := [.int a2, .int (-20), .int (nI 60)]) ks_X11_41 dX11_tide_15 rfl (by decide) (Nat.le_of_ble_eq_true rfl) rfl (by decide) (Nat.le_of_ble_eq_true rfl) (t_X11_within τ n s a2 (-20) (nI 60) e_x7) ?_
    refine jg_if_eq (x := x7) (tgt := 25) dX11_tide_18 (by decide) (fun c8 => ?_) (fun c8 => ?_)
    · replace h := it_t c8 h
      refine jg_iconst (v := nI 0) dX11_tide_25 (by decide) ?_
      obtain ⟨x9, e_x9, h⟩ := bd_some h
      rcases x9 with y10 | z11
      · replace h := se_l h
        refine cs_callS (As := [.int (nI 0)]) ks_X11_45 dX11_tide_26 rfl (by decide) (Nat.le_of_ble_eq_true rfl) rfl (by decide) (Nat.le_of_ble_eq_true rfl) (t_X11_needArgument τ n s (nI 0) e_x9) ?_
        refine jg_aload_n dX11_tide_29 rfl ?_
        refine cs_get (s := s) (w := .ref (o + 10)) fl_X11_27 dX11_tide_30 hO.ob0 rfl ?_
        refine cs_get (s := s) (w := .ref (o + 11)) fl_X11_55 dX11_tide_33 hO.1.ob0 rfl ?_
        refine cs_get (s := s) (w := .ref (o + 15)) fl_X11_68 dX11_tide_36 (hO.1.ob 1 (by decide) rfl) rfl ?_
        refine jg_iload_n dX11_tide_39 rfl ?_
        refine jg_iload_n dX11_tide_40 rfl ?_
        obtain ⟨q12, h⟩ := gd_some h
        refine cs_sta (s := s) (q := (o + 15)) (i := a1) (x := a2) dX11_tide_41 (hO.1.ar 5 (by decide) rfl) q12 ?_
        obtain rfl := Sum.inl.inj (Option.some.inj h)
        exact jg_return dX11_tide_42 rfl ⟨rfl, rfl⟩
      · replace h := se_r h
        cases h
    · replace h := it_f c8 h
      refine jg_iconst (v := nI 1) dX11_tide_21 (by decide) ?_
      refine jg_goto (tgt := 26) dX11_tide_22 (by decide) ?_
      obtain ⟨x13, e_x13, h⟩ := bd_some h
      rcases x13 with y14 | z15
      · replace h := se_l h
        refine cs_callS (As := [.int (nI 1)]) ks_X11_45 dX11_tide_26 rfl (by decide) (Nat.le_of_ble_eq_true rfl) rfl (by decide) (Nat.le_of_ble_eq_true rfl) (t_X11_needArgument τ n s (nI 1) e_x13) ?_
        refine jg_aload_n dX11_tide_29 rfl ?_
        refine cs_get (s := s) (w := .ref (o + 10)) fl_X11_27 dX11_tide_30 hO.ob0 rfl ?_
        refine cs_get (s := s) (w := .ref (o + 11)) fl_X11_55 dX11_tide_33 hO.1.ob0 rfl ?_
        refine cs_get (s := s) (w := .ref (o + 15)) fl_X11_68 dX11_tide_36 (hO.1.ob 1 (by decide) rfl) rfl ?_
        refine jg_iload_n dX11_tide_39 rfl ?_
        refine jg_iload_n dX11_tide_40 rfl ?_
        obtain ⟨q16, h⟩ := gd_some h
        refine cs_sta (s := s) (q := (o + 15)) (i := a1) (x := a2) dX11_tide_41 (hO.1.ar 5 (by decide) rfl) q16 ?_
        obtain rfl := Sum.inl.inj (Option.some.inj h)
        exact jg_return dX11_tide_42 rfl ⟨rfl, rfl⟩
      · replace h := se_r h
        cases h
set_option maxHeartbeats 4000000 in
theorem x_X11_tide {Γ : jg_G} {g : Nat → jg_C} (τ : cT) (n : Nat) (o : Nat) (s : cS) (a1 : Int32) (a2 : Int32) (hO : Sh τ n o) (hn : n < 1000000) (hT : τ n = .inr (8, 0)) {z : Nat × cS} (h : o_X11_tide τ n o s a1 a2 = some (.inr z)) : jc Γ mX11_tide 7 1 6 [some (.ref o), some (.int a1), some (.int a2)] (ct_h g τ s, n) (.inr (exn z.1)) (ct_h (gx g n) τ z.2, n + 1) := by
  refine jc_of ?_
  rw [o_X11_tide] at h
  refine jg_iload_n dX11_tide_0 rfl ?_
  refine jg_iconst (v := nI 0) dX11_tide_1 (by decide) ?_
  refine jg_bipush (v := nI 24) dX11_tide_2 (by decide) ?_
  obtain ⟨x1, e_x1, h⟩ := bd_some h
  refine cs_callS (As := [.int a1, .int (nI 0), .int (nI 24)]) ks_X11_41 dX11_tide_4 rfl (by decide) (Nat.le_of_ble_eq_true rfl) rfl (by decide) (Nat.le_of_ble_eq_true rfl) (t_X11_within τ n s a1 (nI 0) (nI 24) e_x1) ?_
  refine jg_if_eq (x := x1) (tgt := 25) dX11_tide_7 (by decide) (fun c2 => ?_) (fun c2 => ?_)
  · replace h := it_t c2 h
    refine jg_iconst (v := nI 0) dX11_tide_25 (by decide) ?_
    obtain ⟨x3, e_x3, h⟩ := bd_some h
    rcases x3 with y4 | z5
    · replace h := se_l h
      refine cs_callS (As := [.int (nI 0)]) ks_X11_45 dX11_tide_26 rfl (by decide) (Nat.le_of_ble_eq_true rfl) rfl (by decide) (Nat.le_of_ble_eq_true rfl) (t_X11_needArgument τ n s (nI 0) e_x3) ?_
      refine jg_aload_n dX11_tide_29 rfl ?_
      refine cs_get (s := s) (w := .ref (o + 10)) fl_X11_27 dX11_tide_30 hO.ob0 rfl ?_
      refine cs_get (s := s) (w := .ref (o + 11)) fl_X11_55 dX11_tide_33 hO.1.ob0 rfl ?_
      refine cs_get (s := s) (w := .ref (o + 15)) fl_X11_68 dX11_tide_36 (hO.1.ob 1 (by decide) rfl) rfl ?_
      refine jg_iload_n dX11_tide_39 rfl ?_
      refine jg_iload_n dX11_tide_40 rfl ?_
      obtain ⟨q6, h⟩ := gd_some h
      refine cs_sta (s := s) (q := (o + 15)) (i := a1) (x := a2) dX11_tide_41 (hO.1.ar 5 (by decide) rfl) q6 ?_
      cases h
    · replace h := se_r h
      obtain rfl := Sum.inr.inj (Option.some.inj h)
      exact jc_SX (As := [.int (nI 0)]) ks_X11_45 dX11_tide_26 rfl (by decide) (Nat.le_of_ble_eq_true rfl) rfl (by decide) (Nat.le_refl _) (Nat.le_refl _) (Nat.le_of_ble_eq_true rfl) (x_X11_needArgument τ n s (nI 0) hn hT e_x3) ⟨rfl, rfl⟩
  · replace h := it_f c2 h
    refine jg_iload_n dX11_tide_10 rfl ?_
    refine jg_bipush (v := (-20)) dX11_tide_11 (by decide) ?_
    refine jg_bipush (v := nI 60) dX11_tide_13 (by decide) ?_
    obtain ⟨x7, e_x7, h⟩ := bd_some h
    refine cs_callS (As := [.int a2, .int (-20), .int (nI 60)]) ks_X11_41 dX11_tide_15 rfl (by decide) (Nat.le_of_ble_eq_true rfl) rfl (by decide) (Nat.le_of_ble_eq_true rfl) (t_X11_within τ n s a2 (-20) (nI 60) e_x7) ?_
    refine jg_if_eq (x := x7) (tgt := 25) dX11_tide_18 (by decide) (fun c8 => ?_) (fun c8 => ?_)
    · replace h := it_t c8 h
      refine jg_iconst (v := nI 0) dX11_tide_25 (by decide) ?_
      obtain ⟨x9, e_x9, h⟩ := bd_some h
      rcases x9 with y10 | z11
      · replace h := se_l h
        refine cs_callS (As := [.int (nI 0)]) ks_X11_45 dX11_tide_26 rfl (by decide) (Nat.le_of_ble_eq_true rfl) rfl (by decide) (Nat.le_of_ble_eq_true rfl) (t_X11_needArgument τ n s (nI 0) e_x9) ?_
        refine jg_aload_n dX11_tide_29 rfl ?_
        refine cs_get (s := s) (w := .ref (o + 10)) fl_X11_27 dX11_tide_30 hO.ob0 rfl ?_
        refine cs_get (s := s) (w := .ref (o + 11)) fl_X11_55 dX11_tide_33 hO.1.ob0 rfl ?_
        refine cs_get (s := s) (w := .ref (o + 15)) fl_X11_68 dX11_tide_36 (hO.1.ob 1 (by decide) rfl) rfl ?_
        refine jg_iload_n dX11_tide_39 rfl ?_
        refine jg_iload_n dX11_tide_40 rfl ?_
        obtain ⟨q12, h⟩ := gd_some h
        refine cs_sta (s := s) (q := (o + 15)) (i := a1) (x := a2) dX11_tide_41 (hO.1.ar 5 (by decide) rfl) q12 ?_
        cases h
      · replace h := se_r h
        obtain rfl := Sum.inr.inj (Option.some.inj h)
        exact jc_SX (As := [.int (nI 0)]) ks_X11_45 dX11_tide_26 rfl (by decide) (Nat.le_of_ble_eq_true rfl) rfl (by decide) (Nat.le_refl _) (Nat.le_refl _) (Nat.le_of_ble_eq_true rfl) (x_X11_needArgument τ n s (nI 0) hn hT e_x9) ⟨rfl, rfl⟩
    · replace h := it_f c8 h
      refine jg_iconst (v := nI 1) dX11_tide_21 (by decide) ?_
      refine jg_goto (tgt := 26) dX11_tide_22 (by decide) ?_
      obtain ⟨x13, e_x13, h⟩ := bd_some h
      rcases x13 with y14 | z15
      · replace h := se_l h
        refine cs_callS (As := [.int (nI 1)]) ks_X11_45 dX11_tide_26 rfl (by decide) (Nat.le_of_ble_eq_true rfl) rfl (by decide) (Nat.le_of_ble_eq_true rfl) (t_X11_needArgument τ n s (nI 1) e_x13) ?_
        refine jg_aload_n dX11_tide_29 rfl ?_
        refine cs_get (s := s) (w := .ref (o + 10)) fl_X11_27 dX11_tide_30 hO.ob0 rfl ?_
        refine cs_get (s := s) (w := .ref (o + 11)) fl_X11_55 dX11_tide_33 hO.1.ob0 rfl ?_
        refine cs_get (s := s) (w := .ref (o + 15)) fl_X11_68 dX11_tide_36 (hO.1.ob 1 (by decide) rfl) rfl ?_
        refine jg_iload_n dX11_tide_39 rfl ?_
        refine jg_iload_n dX11_tide_40 rfl ?_
        obtain ⟨q16, h⟩ := gd_some h
        refine cs_sta (s := s) (q := (o + 15)) (i := a1) (x := a2) dX11_tide_41 (hO.1.ar 5 (by decide) rfl) q16 ?_
        cases h
      · replace h := se_r h
        obtain rfl := Sum.inr.inj (Option.some.inj h)
        exact jc_SX (As := [.int (nI 1)]) ks_X11_45 dX11_tide_26 rfl (by decide) (Nat.le_of_ble_eq_true rfl) rfl (by decide) (Nat.le_refl _) (Nat.le_refl _) (Nat.le_of_ble_eq_true rfl) (x_X11_needArgument τ n s (nI 1) hn hT e_x13) ⟨rfl, rfl⟩
theorem dX11_run_0 : decode cX11_run 0 = .ok (.iload_n 1, 1) := by decide +kernel
theorem dX11_run_1 : decode cX11_run 1 = .ok (.aload_n 0, 1) := by decide +kernel
theorem dX11_run_2 : decode cX11_run 2 = .ok (.getfield 27, 3) := by decide +kernel
theorem dX11_run_5 : decode cX11_run 5 = .ok (.invokevirtual 71, 3) := by decide +kernel
theorem dX11_run_8 : decode cX11_run 8 = .ok (.sipush 1250, 3) := by decide +kernel
theorem dX11_run_11 : decode cX11_run 11 = .ok (.invokestatic 41, 3) := by decide +kernel
theorem dX11_run_14 : decode cX11_run 14 = .ok (.ifCond .eq 18, 3) := by decide +kernel
theorem dX11_run_17 : decode cX11_run 17 = .ok (.iload_n 2, 1) := by decide +kernel
theorem dX11_run_18 : decode cX11_run 18 = .ok (.iconst 0, 1) := by decide +kernel
theorem dX11_run_19 : decode cX11_run 19 = .ok (.sipush 2000, 3) := by decide +kernel
theorem dX11_run_22 : decode cX11_run 22 = .ok (.invokestatic 41, 3) := by decide +kernel
theorem dX11_run_25 : decode cX11_run 25 = .ok (.ifCond .eq 7, 3) := by decide +kernel
theorem dX11_run_28 : decode cX11_run 28 = .ok (.iconst 1, 1) := by decide +kernel
theorem dX11_run_29 : decode cX11_run 29 = .ok (.goto 4, 3) := by decide +kernel
theorem dX11_run_32 : decode cX11_run 32 = .ok (.iconst 0, 1) := by decide +kernel
theorem dX11_run_33 : decode cX11_run 33 = .ok (.invokestatic 45, 3) := by decide +kernel
theorem dX11_run_36 : decode cX11_run 36 = .ok (.aload_n 0, 1) := by decide +kernel
theorem dX11_run_37 : decode cX11_run 37 = .ok (.getfield 27, 3) := by decide +kernel
theorem dX11_run_40 : decode cX11_run 40 = .ok (.getfield 55, 3) := by decide +kernel
theorem dX11_run_43 : decode cX11_run 43 = .ok (.iload_n 1, 1) := by decide +kernel
theorem dX11_run_44 : decode cX11_run 44 = .ok (.iload_n 2, 1) := by decide +kernel
theorem dX11_run_45 : decode cX11_run 45 = .ok (.invokevirtual 75, 3) := by decide +kernel
theorem dX11_run_48 : decode cX11_run 48 = .ok (.ireturn, 1) := by decide +kernel
noncomputable def o_X11_run (τ : cT) (n : Nat) (o : Nat) (s : cS) (a1 : Int32) (a2 : Int32) : Option ((Int32 × cS) ⊕ (Nat × cS)) := (o_X2_today τ n (o + 10) s).bind fun x1 => ((o_X11_within τ n s a1 x1 (nI 1250)).bind fun x2 => (if x2 = 0 then ((o_X11_needArgument τ n s (nI 0)).bind fun x4 => (Sum.elim (fun y5 => (o_X8_tellRun τ n (o + 10) s a1 a2).bind fun x7 => (some (.inl (x7.1, x7.2)))) (fun z6 => some (.inr (z6, s))) x4)) else ((o_X11_within τ n s a2 (nI 0) (nI 2000)).bind fun x8 => (if x8 = 0 then ((o_X11_needArgument τ n s (nI 0)).bind fun x10 => (Sum.elim (fun y11 => (o_X8_tellRun τ n (o + 10) s a1 a2).bind fun x13 => (some (.inl (x13.1, x13.2)))) (fun z12 => some (.inr (z12, s))) x10)) else ((o_X11_needArgument τ n s (nI 1)).bind fun x14 => (Sum.elim (fun y15 => (o_X8_tellRun τ n (o + 10) s a1 a2).bind fun x17 => (some (.inl (x17.1, x17.2)))) (fun z16 => some (.inr (z16, s))) x14))))))
set_option maxHeartbeats 4000000 in
theorem t_X11_run {Γ : jg_G} {g : Nat → jg_C} (τ : cT) (n : Nat) (o : Nat) (s : cS) (a1 : Int32) (a2 : Int32) (hO : Sh τ n o) {x : Int32 × cS} (h : o_X11_run τ n o s a1 a2 = some (.inl x)) : jc Γ mX11_run 7 0 0 [some (.ref o), some (.int a1), some (.int a2)] (ct_h g τ s, n) (.inl (some (.int x.1))) (ct_h g τ x.2, n) := by
  refine jc_of ?_
  rw [o_X11_run] at h
  refine jg_iload_n dX11_run_0 rfl ?_
  refine jg_aload_n dX11_run_1 rfl ?_
  refine cs_get (s := s) (w := .ref (o + 10)) fl_X11_27 dX11_run_2 hO.ob0 rfl ?_
  obtain ⟨x1, e_x1, h⟩ := bd_some h
  refine cs_call (q := (o + 10)) (As := []) kv_X11_71 dX11_run_5 hO.1.ob0 rfl rfl (by decide) (Nat.le_of_ble_eq_true rfl) rfl (by decide) (Nat.le_of_ble_eq_true rfl) (t_X2_today τ n (o + 10) s hO.1 e_x1) ?_
  refine jg_sipush (v := nI 1250) dX11_run_8 (by decide) ?_
  obtain ⟨x2, e_x2, h⟩ := bd_some h
  refine cs_callS (As := [.int a1, .int x1, .int (nI 1250)]) ks_X11_41 dX11_run_11 rfl (by decide) (Nat.le_of_ble_eq_true rfl) rfl (by decide) (Nat.le_of_ble_eq_true rfl) (t_X11_within τ n s a1 x1 (nI 1250) e_x2) ?_
  refine jg_if_eq (x := x2) (tgt := 32) dX11_run_14 (by decide) (fun c3 => ?_) (fun c3 => ?_)
  · replace h := it_t c3 h
    refine jg_iconst (v := nI 0) dX11_run_32 (by decide) ?_
    obtain ⟨x4, e_x4, h⟩ := bd_some h
    rcases x4 with y5 | z6
    · replace h := se_l h
      refine cs_callS (As := [.int (nI 0)]) ks_X11_45 dX11_run_33 rfl (by decide) (Nat.le_of_ble_eq_true rfl) rfl (by decide) (Nat.le_of_ble_eq_true rfl) (t_X11_needArgument τ n s (nI 0) e_x4) ?_
      refine jg_aload_n dX11_run_36 rfl ?_
      refine cs_get (s := s) (w := .ref (o + 10)) fl_X11_27 dX11_run_37 hO.ob0 rfl ?_
      refine cs_get (s := s) (w := .ref (o + 11)) fl_X11_55 dX11_run_40 hO.1.ob0 rfl ?_
      refine jg_iload_n dX11_run_43 rfl ?_
      refine jg_iload_n dX11_run_44 rfl ?_
      obtain ⟨x7, e_x7, h⟩ := bd_some h
      refine cs_call (q := (o + 11)) (As := [.int a1, .int a2]) kv_X11_75 dX11_run_45 (hO.1.ob 1 (by decide) rfl) rfl rfl (by decide) (Nat.le_of_ble_eq_true rfl) rfl (by decide) (Nat.le_of_ble_eq_true rfl) (t_X8_tellRun τ n (o + 10) s a1 a2 hO.1 e_x7) ?_
      obtain rfl := Sum.inl.inj (Option.some.inj h)
      exact jg_ireturn dX11_run_48 rfl ⟨rfl, rfl⟩
    · replace h := se_r h
      cases h
  · replace h := it_f c3 h
    refine jg_iload_n dX11_run_17 rfl ?_
    refine jg_iconst (v := nI 0) dX11_run_18 (by decide) ?_
    refine jg_sipush (v := nI 2000) dX11_run_19 (by decide) ?_
    obtain ⟨x8, e_x8, h⟩ := bd_some h
    refine cs_callS (As := [.int a2, .int (nI 0), .int (nI 2000)]) ks_X11_41 dX11_run_22 rfl (by decide) (Nat.le_of_ble_eq_true rfl) rfl (by decide) (Nat.le_of_ble_eq_true rfl) (t_X11_within τ n s a2 (nI 0) (nI 2000) e_x8) ?_
    refine jg_if_eq (x := x8) (tgt := 32) dX11_run_25 (by decide) (fun c9 => ?_) (fun c9 => ?_)
    · replace h := it_t c9 h
      refine jg_iconst (v := nI 0) dX11_run_32 (by decide) ?_
      obtain ⟨x10, e_x10, h⟩ := bd_some h
      rcases x10 with y11 | z12
      · replace h := se_l h
        refine cs_callS (As := [.int (nI 0)]) ks_X11_45 dX11_run_33 rfl (by decide) (Nat.le_of_ble_eq_true rfl) rfl (by decide) (Nat.le_of_ble_eq_true rfl) (t_X11_needArgument τ n s (nI 0) e_x10) ?_
        refine jg_aload_n dX11_run_36 rfl ?_
        refine cs_get (s := s) (w := .ref (o + 10)) fl_X11_27 dX11_run_37 hO.ob0 rfl ?_
        refine cs_get (s := s) (w := .ref (o + 11)) fl_X11_55 dX11_run_40 hO.1.ob0 rfl ?_
        refine jg_iload_n dX11_run_43 rfl ?_
        refine jg_iload_n dX11_run_44 rfl ?_
        obtain ⟨x13, e_x13, h⟩ := bd_some h
        refine cs_call (q := (o + 11)) (As := [.int a1, .int a2]) kv_X11_75 dX11_run_45 (hO.1.ob 1 (by decide) rfl) rfl rfl (by decide) (Nat.le_of_ble_eq_true rfl) rfl (by decide) (Nat.le_of_ble_eq_true rfl) (t_X8_tellRun τ n (o + 10) s a1 a2 hO.1 e_x13) ?_
        obtain rfl := Sum.inl.inj (Option.some.inj h)
        exact jg_ireturn dX11_run_48 rfl ⟨rfl, rfl⟩
      · replace h := se_r h
        cases h
    · replace h := it_f c9 h
      refine jg_iconst (v := nI 1) dX11_run_28 (by decide) ?_
      refine jg_goto (tgt := 33) dX11_run_29 (by decide) ?_
      obtain ⟨x14, e_x14, h⟩ := bd_some h
      rcases x14 with y15 | z16
      · replace h := se_l h
        refine cs_callS (As := [.int (nI 1)]) ks_X11_45 dX11_run_33 rfl (by decide) (Nat.le_of_ble_eq_true rfl) rfl (by decide) (Nat.le_of_ble_eq_true rfl) (t_X11_needArgument τ n s (nI 1) e_x14) ?_
        refine jg_aload_n dX11_run_36 rfl ?_
        refine cs_get (s := s) (w := .ref (o + 10)) fl_X11_27 dX11_run_37 hO.ob0 rfl ?_
        refine cs_get (s := s) (w := .ref (o + 11)) fl_X11_55 dX11_run_40 hO.1.ob0 rfl ?_
        refine jg_iload_n dX11_run_43 rfl ?_
        refine jg_iload_n dX11_run_44 rfl ?_
        obtain ⟨x17, e_x17, h⟩ := bd_some h
        refine cs_call (q := (o + 11)) (As := [.int a1, .int a2]) kv_X11_75 dX11_run_45 (hO.1.ob 1 (by decide) rfl) rfl rfl (by decide) (Nat.le_of_ble_eq_true rfl) rfl (by decide) (Nat.le_of_ble_eq_true rfl) (t_X8_tellRun τ n (o + 10) s a1 a2 hO.1 e_x17) ?_
        obtain rfl := Sum.inl.inj (Option.some.inj h)
        exact jg_ireturn dX11_run_48 rfl ⟨rfl, rfl⟩
      · replace h := se_r h
        cases h
set_option maxHeartbeats 4000000 in
theorem x_X11_run {Γ : jg_G} {g : Nat → jg_C} (τ : cT) (n : Nat) (o : Nat) (s : cS) (a1 : Int32) (a2 : Int32) (hO : Sh τ n o) (hn : n < 1000000) (hT : τ n = .inr (8, 0)) {z : Nat × cS} (h : o_X11_run τ n o s a1 a2 = some (.inr z)) : jc Γ mX11_run 7 1 6 [some (.ref o), some (.int a1), some (.int a2)] (ct_h g τ s, n) (.inr (exn z.1)) (ct_h (gx g n) τ z.2, n + 1) := by
  refine jc_of ?_
  rw [o_X11_run] at h
  refine jg_iload_n dX11_run_0 rfl ?_
  refine jg_aload_n dX11_run_1 rfl ?_
  refine cs_get (s := s) (w := .ref (o + 10)) fl_X11_27 dX11_run_2 hO.ob0 rfl ?_
  obtain ⟨x1, e_x1, h⟩ := bd_some h
  refine cs_call (q := (o + 10)) (As := []) kv_X11_71 dX11_run_5 hO.1.ob0 rfl rfl (by decide) (Nat.le_of_ble_eq_true rfl) rfl (by decide) (Nat.le_of_ble_eq_true rfl) (t_X2_today τ n (o + 10) s hO.1 e_x1) ?_
  refine jg_sipush (v := nI 1250) dX11_run_8 (by decide) ?_
  obtain ⟨x2, e_x2, h⟩ := bd_some h
  refine cs_callS (As := [.int a1, .int x1, .int (nI 1250)]) ks_X11_41 dX11_run_11 rfl (by decide) (Nat.le_of_ble_eq_true rfl) rfl (by decide) (Nat.le_of_ble_eq_true rfl) (t_X11_within τ n s a1 x1 (nI 1250) e_x2) ?_
  refine jg_if_eq (x := x2) (tgt := 32) dX11_run_14 (by decide) (fun c3 => ?_) (fun c3 => ?_)
  · replace h := it_t c3 h
    refine jg_iconst (v := nI 0) dX11_run_32 (by decide) ?_
    obtain ⟨x4, e_x4, h⟩ := bd_some h
    rcases x4 with y5 | z6
    · replace h := se_l h
      refine cs_callS (As := [.int (nI 0)]) ks_X11_45 dX11_run_33 rfl (by decide) (Nat.le_of_ble_eq_true rfl) rfl (by decide) (Nat.le_of_ble_eq_true rfl) (t_X11_needArgument τ n s (nI 0) e_x4) ?_
      refine jg_aload_n dX11_run_36 rfl ?_
      refine cs_get (s := s) (w := .ref (o + 10)) fl_X11_27 dX11_run_37 hO.ob0 rfl ?_
      refine cs_get (s := s) (w := .ref (o + 11)) fl_X11_55 dX11_run_40 hO.1.ob0 rfl ?_
      refine jg_iload_n dX11_run_43 rfl ?_
      refine jg_iload_n dX11_run_44 rfl ?_
      obtain ⟨x7, e_x7, h⟩ := bd_some h
      refine cs_call (q := (o + 11)) (As := [.int a1, .int a2]) kv_X11_75 dX11_run_45 (hO.1.ob 1 (by decide) rfl) rfl rfl (by decide) (Nat.le_of_ble_eq_true rfl) rfl (by decide) (Nat.le_of_ble_eq_true rfl) (t_X8_tellRun τ n (o + 10) s a1 a2 hO.1 e_x7) ?_
      cases h
    · replace h := se_r h
      obtain rfl := Sum.inr.inj (Option.some.inj h)
      exact jc_SX (As := [.int (nI 0)]) ks_X11_45 dX11_run_33 rfl (by decide) (Nat.le_of_ble_eq_true rfl) rfl (by decide) (Nat.le_refl _) (Nat.le_refl _) (Nat.le_of_ble_eq_true rfl) (x_X11_needArgument τ n s (nI 0) hn hT e_x4) ⟨rfl, rfl⟩
  · replace h := it_f c3 h
    refine jg_iload_n dX11_run_17 rfl ?_
    refine jg_iconst (v := nI 0) dX11_run_18 (by decide) ?_
    refine jg_sipush (v := nI 2000) dX11_run_19 (by decide) ?_
    obtain ⟨x8, e_x8, h⟩ := bd_some h
    refine cs_callS (As := [.int a2, .int (nI 0), .int (nI 2000)]) ks_X11_41 dX11_run_22 rfl (by decide) (Nat.le_of_ble_eq_true rfl) rfl (by decide) (Nat.le_of_ble_eq_true rfl) (t_X11_within τ n s a2 (nI 0) (nI 2000) e_x8) ?_
    refine jg_if_eq (x := x8) (tgt := 32) dX11_run_25 (by decide) (fun c9 => ?_) (fun c9 => ?_)
    · replace h := it_t c9 h
      refine jg_iconst (v := nI 0) dX11_run_32 (by decide) ?_
      obtain ⟨x10, e_x10, h⟩ := bd_some h
      rcases x10 with y11 | z12
      · replace h := se_l h
        refine cs_callS (As := [.int (nI 0)]) ks_X11_45 dX11_run_33 rfl (by decide) (Nat.le_of_ble_eq_true rfl) rfl (by decide) (Nat.le_of_ble_eq_true rfl) (t_X11_needArgument τ n s (nI 0) e_x10) ?_
        refine jg_aload_n dX11_run_36 rfl ?_
        refine cs_get (s := s) (w := .ref (o + 10)) fl_X11_27 dX11_run_37 hO.ob0 rfl ?_
        refine cs_get (s := s) (w := .ref (o + 11)) fl_X11_55 dX11_run_40 hO.1.ob0 rfl ?_
        refine jg_iload_n dX11_run_43 rfl ?_
        refine jg_iload_n dX11_run_44 rfl ?_
        obtain ⟨x13, e_x13, h⟩ := bd_some h
        refine cs_call (q := (o + 11)) (As := [.int a1, .int a2]) kv_X11_75 dX11_run_45 (hO.1.ob 1 (by decide) rfl) rfl rfl (by decide) (Nat.le_of_ble_eq_true rfl) rfl (by decide) (Nat.le_of_ble_eq_true rfl) (t_X8_tellRun τ n (o + 10) s a1 a2 hO.1 e_x13) ?_
        cases h
      · replace h := se_r h
        obtain rfl := Sum.inr.inj (Option.some.inj h)
        exact jc_SX (As := [.int (nI 0)]) ks_X11_45 dX11_run_33 rfl (by decide) (Nat.le_of_ble_eq_true rfl) rfl (by decide) (Nat.le_refl _) (Nat.le_refl _) (Nat.le_of_ble_eq_true rfl) (x_X11_needArgument τ n s (nI 0) hn hT e_x10) ⟨rfl, rfl⟩
    · replace h := it_f c9 h
      refine jg_iconst (v := nI 1) dX11_run_28 (by decide) ?_
      refine jg_goto (tgt := 33) dX11_run_29 (by decide) ?_
      obtain ⟨x14, e_x14, h⟩ := bd_some h
      rcases x14 with y15 | z16
      · replace h := se_l h
        refine cs_callS (As := [.int (nI 1)]) ks_X11_45 dX11_run_33 rfl (by decide) (Nat.le_of_ble_eq_true rfl) rfl (by decide) (Nat.le_of_ble_eq_true rfl) (t_X11_needArgument τ n s (nI 1) e_x14) ?_
        refine jg_aload_n dX11_run_36 rfl ?_
        refine cs_get (s := s) (w := .ref (o + 10)) fl_X11_27 dX11_run_37 hO.ob0 rfl ?_
        refine cs_get (s := s) (w := .ref (o + 11)) fl_X11_55 dX11_run_40 hO.1.ob0 rfl ?_
        refine jg_iload_n dX11_run_43 rfl ?_
        refine jg_iload_n dX11_run_44 rfl ?_
        obtain ⟨x17, e_x17, h⟩ := bd_some h
        refine cs_call (q := (o + 11)) (As := [.int a1, .int a2]) kv_X11_75 dX11_run_45 (hO.1.ob 1 (by decide) rfl) rfl rfl (by decide) (Nat.le_of_ble_eq_true rfl) rfl (by decide) (Nat.le_of_ble_eq_true rfl) (t_X8_tellRun τ n (o + 10) s a1 a2 hO.1 e_x17) ?_
        cases h
      · replace h := se_r h
        obtain rfl := Sum.inr.inj (Option.some.inj h)
        exact jc_SX (As := [.int (nI 1)]) ks_X11_45 dX11_run_33 rfl (by decide) (Nat.le_of_ble_eq_true rfl) rfl (by decide) (Nat.le_refl _) (Nat.le_refl _) (Nat.le_of_ble_eq_true rfl) (x_X11_needArgument τ n s (nI 1) hn hT e_x14) ⟨rfl, rfl⟩
theorem dX11_needRoom_0 : decode cX11_needRoom 0 = .ok (.iload_n 0, 1) := by decide +kernel
theorem dX11_needRoom_1 : decode cX11_needRoom 1 = .ok (.iload_n 1, 1) := by decide +kernel
theorem dX11_needRoom_2 : decode cX11_needRoom 2 = .ok (.if_icmp .lt 14, 3) := by decide +kernel
theorem dX11_needRoom_5 : decode cX11_needRoom 5 = .ok (.new 471, 3) := by decide +kernel
theorem dX11_needRoom_8 : decode cX11_needRoom 8 = .ok (.dup, 1) := by decide +kernel
theorem dX11_needRoom_9 : decode cX11_needRoom 9 = .ok (.ldc_w 473, 3) := by decide +kernel
theorem dX11_needRoom_12 : decode cX11_needRoom 12 = .ok (.invokespecial 475, 3) := by decide +kernel
theorem dX11_needRoom_15 : decode cX11_needRoom 15 = .ok (.athrow, 1) := by decide +kernel
theorem dX11_needRoom_16 : decode cX11_needRoom 16 = .ok (.return_, 1) := by decide +kernel
noncomputable def o_X11_needRoom (τ : cT) (n : Nat) (s : cS) (a1 : Int32) (a2 : Int32) : Option ((Unit) ⊕ (Nat)) := if a1 < a2 then (some (.inl ())) else (some (.inr 3))
set_option maxHeartbeats 4000000 in
theorem t_X11_needRoom {Γ : jg_G} {g : Nat → jg_C} (τ : cT) (n : Nat) (s : cS) (a1 : Int32) (a2 : Int32)  {x : Unit} (h : o_X11_needRoom τ n s a1 a2 = some (.inl x)) : jc Γ mX11_needRoom 6 0 0 [some (.int a1), some (.int a2)] (ct_h g τ s, n) (.inl none) (ct_h g τ s, n) := by
  refine jc_of ?_
  rw [o_X11_needRoom] at h
  refine jg_iload_n dX11_needRoom_0 rfl ?_
  refine jg_iload_n dX11_needRoom_1 rfl ?_
  refine jg_icmp_lt (x := a1) (y := a2) (tgt := 16) dX11_needRoom_2 (by decide) (fun c1 => ?_) (fun c1 => ?_)
  · replace h := it_t c1 h
    obtain rfl := Sum.inl.inj (Option.some.inj h)
    exact jg_return dX11_needRoom_16 rfl ⟨rfl, rfl⟩
  · replace h := it_f c1 h
    cases h
set_option maxHeartbeats 4000000 in
theorem x_X11_needRoom {Γ : jg_G} {g : Nat → jg_C} (τ : cT) (n : Nat) (s : cS) (a1 : Int32) (a2 : Int32)  (hn : n < 1000000) (hT : τ n = .inr (8, 0)) {z : Nat} (h : o_X11_needRoom τ n s a1 a2 = some (.inr z)) : jc Γ mX11_needRoom 6 1 6 [some (.int a1), some (.int a2)] (ct_h g τ s, n) (.inr (exn z)) (ct_h (gx g n) τ s, n + 1) := by
  refine jc_of ?_
  rw [o_X11_needRoom] at h
  refine jg_iload_n dX11_needRoom_0 rfl ?_
  refine jg_iload_n dX11_needRoom_1 rfl ?_
  refine jg_icmp_lt (x := a1) (y := a2) (tgt := 16) dX11_needRoom_2 (by decide) (fun c1 => ?_) (fun c1 => ?_)
  · replace h := it_t c1 h
    cases h
  · replace h := it_f c1 h
    obtain rfl := Sum.inr.inj (Option.some.inj h)
    exact jg_thrW (i := 3) rfl ex_UOE rfl dX11_needRoom_5 dX11_needRoom_8 dX11_needRoom_9 dX11_needRoom_12 dX11_needRoom_15 (Nat.le_refl _) (Nat.le_refl _) (by decide) (Nat.le_of_ble_eq_true rfl) hn ⟨rfl, gx_e hT⟩
theorem dX11_dredger_0 : decode cX11_dredger 0 = .ok (.iload_n 1, 1) := by decide +kernel
theorem dX11_dredger_1 : decode cX11_dredger 1 = .ok (.iconst 1, 1) := by decide +kernel
theorem dX11_dredger_2 : decode cX11_dredger 2 = .ok (.sipush 500, 3) := by decide +kernel
theorem dX11_dredger_5 : decode cX11_dredger 5 = .ok (.invokestatic 41, 3) := by decide +kernel
theorem dX11_dredger_8 : decode cX11_dredger 8 = .ok (.invokestatic 45, 3) := by decide +kernel
theorem dX11_dredger_11 : decode cX11_dredger 11 = .ok (.aload_n 0, 1) := by decide +kernel
theorem dX11_dredger_12 : decode cX11_dredger 12 = .ok (.getfield 27, 3) := by decide +kernel
theorem dX11_dredger_15 : decode cX11_dredger 15 = .ok (.getfield 55, 3) := by decide +kernel
theorem dX11_dredger_18 : decode cX11_dredger 18 = .ok (.getfield 79, 3) := by decide +kernel
theorem dX11_dredger_21 : decode cX11_dredger 21 = .ok (.bipush 6, 2) := by decide +kernel
theorem dX11_dredger_23 : decode cX11_dredger 23 = .ok (.invokestatic 82, 3) := by decide +kernel
theorem dX11_dredger_26 : decode cX11_dredger 26 = .ok (.aload_n 0, 1) := by decide +kernel
theorem dX11_dredger_27 : decode cX11_dredger 27 = .ok (.getfield 27, 3) := by decide +kernel
theorem dX11_dredger_30 : decode cX11_dredger 30 = .ok (.getfield 55, 3) := by decide +kernel
theorem dX11_dredger_33 : decode cX11_dredger 33 = .ok (.iload_n 1, 1) := by decide +kernel
theorem dX11_dredger_34 : decode cX11_dredger 34 = .ok (.invokevirtual 86, 3) := by decide +kernel
theorem dX11_dredger_37 : decode cX11_dredger 37 = .ok (.ireturn, 1) := by decide +kernel
noncomputable def o_X11_dredger (τ : cT) (n : Nat) (o : Nat) (s : cS) (a1 : Int32) : Option ((Int32 × cS) ⊕ (Nat × cS)) := (o_X11_within τ n s a1 (nI 1) (nI 500)).bind fun x1 => ((o_X11_needArgument τ n s x1).bind fun x2 => (Sum.elim (fun y3 => (o_X11_needRoom τ n s (s.1 (o + 11) 10) (nI 6)).bind fun x5 => (Sum.elim (fun y6 => (o_X8_addDredger τ n (o + 10) s a1).bind fun x8 => (some (.inl (x8.1, x8.2)))) (fun z7 => some (.inr (z7, s))) x5)) (fun z4 => some (.inr (z4, s))) x2))
set_option maxHeartbeats 4000000 in
theorem t_X11_dredger {Γ : jg_G} {g : Nat → jg_C} (τ : cT) (n : Nat) (o : Nat) (s : cS) (a1 : Int32) (hO : Sh τ n o) {x : Int32 × cS} (h : o_X11_dredger τ n o s a1 = some (.inl x)) : jc Γ mX11_dredger 7 0 0 [some (.ref o), some (.int a1)] (ct_h g τ s, n) (.inl (some (.int x.1))) (ct_h g τ x.2, n) := by
  refine jc_of ?_
  rw [o_X11_dredger] at h
  refine jg_iload_n dX11_dredger_0 rfl ?_
  refine jg_iconst (v := nI 1) dX11_dredger_1 (by decide) ?_
  refine jg_sipush (v := nI 500) dX11_dredger_2 (by decide) ?_
  obtain ⟨x1, e_x1, h⟩ := bd_some h
  refine cs_callS (As := [.int a1, .int (nI 1), .int (nI 500)]) ks_X11_41 dX11_dredger_5 rfl (by decide) (Nat.le_of_ble_eq_true rfl) rfl (by decide) (Nat.le_of_ble_eq_true rfl) (t_X11_within τ n s a1 (nI 1) (nI 500) e_x1) ?_
  obtain ⟨x2, e_x2, h⟩ := bd_some h
  rcases x2 with y3 | z4
  · replace h := se_l h
    refine cs_callS (As := [.int x1]) ks_X11_45 dX11_dredger_8 rfl (by decide) (Nat.le_of_ble_eq_true rfl) rfl (by decide) (Nat.le_of_ble_eq_true rfl) (t_X11_needArgument τ n s x1 e_x2) ?_
    refine jg_aload_n dX11_dredger_11 rfl ?_
    refine cs_get (s := s) (w := .ref (o + 10)) fl_X11_27 dX11_dredger_12 hO.ob0 rfl ?_
    refine cs_get (s := s) (w := .ref (o + 11)) fl_X11_55 dX11_dredger_15 hO.1.ob0 rfl ?_
    refine cs_get (s := s) (w := .int (s.1 (o + 11) 10)) fl_X11_79 dX11_dredger_18 (hO.1.ob 1 (by decide) rfl) rfl ?_
    refine jg_bipush (v := nI 6) dX11_dredger_21 (by decide) ?_
    obtain ⟨x5, e_x5, h⟩ := bd_some h
    rcases x5 with y6 | z7
    · replace h := se_l h
      refine cs_callS (As := [.int (s.1 (o + 11) 10), .int (nI 6)]) ks_X11_82 dX11_dredger_23 rfl (by decide) (Nat.le_of_ble_eq_true rfl) rfl (by decide) (Nat.le_of_ble_eq_true rfl) (t_X11_needRoom τ n s (s.1 (o + 11) 10) (nI 6) e_x5) ?_
      refine jg_aload_n dX11_dredger_26 rfl ?_
      refine cs_get (s := s) (w := .ref (o + 10)) fl_X11_27 dX11_dredger_27 hO.ob0 rfl ?_
      refine cs_get (s := s) (w := .ref (o + 11)) fl_X11_55 dX11_dredger_30 hO.1.ob0 rfl ?_
      refine jg_iload_n dX11_dredger_33 rfl ?_
      obtain ⟨x8, e_x8, h⟩ := bd_some h
      refine cs_call (q := (o + 11)) (As := [.int a1]) kv_X11_86 dX11_dredger_34 (hO.1.ob 1 (by decide) rfl) rfl rfl (by decide) (Nat.le_of_ble_eq_true rfl) rfl (by decide) (Nat.le_of_ble_eq_true rfl) (t_X8_addDredger τ n (o + 10) s a1 hO.1 e_x8) ?_
      obtain rfl := Sum.inl.inj (Option.some.inj h)
      exact jg_ireturn dX11_dredger_37 rfl ⟨rfl, rfl⟩
    · replace h := se_r h
      cases h
  · replace h := se_r h
    cases h
set_option maxHeartbeats 4000000 in
theorem x_X11_dredger {Γ : jg_G} {g : Nat → jg_C} (τ : cT) (n : Nat) (o : Nat) (s : cS) (a1 : Int32) (hO : Sh τ n o) (hn : n < 1000000) (hT : τ n = .inr (8, 0)) {z : Nat × cS} (h : o_X11_dredger τ n o s a1 = some (.inr z)) : jc Γ mX11_dredger 7 1 6 [some (.ref o), some (.int a1)] (ct_h g τ s, n) (.inr (exn z.1)) (ct_h (gx g n) τ z.2, n + 1) := by
  refine jc_of ?_
  rw [o_X11_dredger] at h
  refine jg_iload_n dX11_dredger_0 rfl ?_
  refine jg_iconst (v := nI 1) dX11_dredger_1 (by decide) ?_
  refine jg_sipush (v := nI 500) dX11_dredger_2 (by decide) ?_
  obtain ⟨x1, e_x1, h⟩ := bd_some h
  refine cs_callS (As := [.int a1, .int (nI 1), .int (nI 500)]) ks_X11_41 dX11_dredger_5 rfl (by decide) (Nat.le_of_ble_eq_true rfl) rfl (by decide) (Nat.le_of_ble_eq_true rfl) (t_X11_within τ n s a1 (nI 1) (nI 500) e_x1) ?_
  obtain ⟨x2, e_x2, h⟩ := bd_some h
  rcases x2 with y3 | z4
  · replace h := se_l h
    refine cs_callS (As := [.int x1]) ks_X11_45 dX11_dredger_8 rfl (by decide) (Nat.le_of_ble_eq_true rfl) rfl (by decide) (Nat.le_of_ble_eq_true rfl) (t_X11_needArgument τ n s x1 e_x2) ?_
    refine jg_aload_n dX11_dredger_11 rfl ?_
    refine cs_get (s := s) (w := .ref (o + 10)) fl_X11_27 dX11_dredger_12 hO.ob0 rfl ?_
    refine cs_get (s := s) (w := .ref (o + 11)) fl_X11_55 dX11_dredger_15 hO.1.ob0 rfl ?_
    refine cs_get (s := s) (w := .int (s.1 (o + 11) 10)) fl_X11_79 dX11_dredger_18 (hO.1.ob 1 (by decide) rfl) rfl ?_
    refine jg_bipush (v := nI 6) dX11_dredger_21 (by decide) ?_
    obtain ⟨x5, e_x5, h⟩ := bd_some h
    rcases x5 with y6 | z7
    · replace h := se_l h
      refine cs_callS (As := [.int (s.1 (o + 11) 10), .int (nI 6)]) ks_X11_82 dX11_dredger_23 rfl (by decide) (Nat.le_of_ble_eq_true rfl) rfl (by decide) (Nat.le_of_ble_eq_true rfl) (t_X11_needRoom τ n s (s.1 (o + 11) 10) (nI 6) e_x5) ?_
      refine jg_aload_n dX11_dredger_26 rfl ?_
      refine cs_get (s := s) (w := .ref (o + 10)) fl_X11_27 dX11_dredger_27 hO.ob0 rfl ?_
      refine cs_get (s := s) (w := .ref (o + 11)) fl_X11_55 dX11_dredger_30 hO.1.ob0 rfl ?_
      refine jg_iload_n dX11_dredger_33 rfl ?_
      obtain ⟨x8, e_x8, h⟩ := bd_some h
      refine cs_call (q := (o + 11)) (As := [.int a1]) kv_X11_86 dX11_dredger_34 (hO.1.ob 1 (by decide) rfl) rfl rfl (by decide) (Nat.le_of_ble_eq_true rfl) rfl (by decide) (Nat.le_of_ble_eq_true rfl) (t_X8_addDredger τ n (o + 10) s a1 hO.1 e_x8) ?_
      cases h
    · replace h := se_r h
      obtain rfl := Sum.inr.inj (Option.some.inj h)
      exact jc_SX (As := [.int (s.1 (o + 11) 10), .int (nI 6)]) ks_X11_82 dX11_dredger_23 rfl (by decide) (Nat.le_of_ble_eq_true rfl) rfl (by decide) (Nat.le_refl _) (Nat.le_refl _) (Nat.le_of_ble_eq_true rfl) (x_X11_needRoom τ n s (s.1 (o + 11) 10) (nI 6) hn hT e_x5) ⟨rfl, rfl⟩
  · replace h := se_r h
    obtain rfl := Sum.inr.inj (Option.some.inj h)
    exact jc_SX (As := [.int x1]) ks_X11_45 dX11_dredger_8 rfl (by decide) (Nat.le_of_ble_eq_true rfl) rfl (by decide) (Nat.le_refl _) (Nat.le_refl _) (Nat.le_of_ble_eq_true rfl) (x_X11_needArgument τ n s x1 hn hT e_x2) ⟨rfl, rfl⟩
theorem dX11_needCellOrNone_0 : decode cX11_needCellOrNone 0 = .ok (.iload_n 0, 1) := by decide +kernel
theorem dX11_needCellOrNone_1 : decode cX11_needCellOrNone 1 = .ok (.iconst (-1), 1) := by decide +kernel
theorem dX11_needCellOrNone_2 : decode cX11_needCellOrNone 2 = .ok (.if_icmp .eq 9, 3) := by decide +kernel
theorem dX11_needCellOrNone_5 : decode cX11_needCellOrNone 5 = .ok (.iload_n 0, 1) := by decide +kernel
theorem dX11_needCellOrNone_6 : decode cX11_needCellOrNone 6 = .ok (.bipush 24, 2) := by decide +kernel
theorem dX11_needCellOrNone_8 : decode cX11_needCellOrNone 8 = .ok (.invokestatic 90, 3) := by decide +kernel
theorem dX11_needCellOrNone_11 : decode cX11_needCellOrNone 11 = .ok (.return_, 1) := by decide +kernel
noncomputable def o_X11_needCellOrNone (τ : cT) (n : Nat) (s : cS) (a1 : Int32) : Option ((Unit) ⊕ (Nat)) := if a1 = (-1) then (some (.inl ())) else ((o_X11_needIndex τ n s a1 (nI 24)).bind fun x2 => (Sum.elim (fun y3 => some (.inl ())) (fun z4 => some (.inr z4)) x2))
set_option maxHeartbeats 4000000 in
theorem t_X11_needCellOrNone {Γ : jg_G} {g : Nat → jg_C} (τ : cT) (n : Nat) (s : cS) (a1 : Int32)  {x : Unit} (h : o_X11_needCellOrNone τ n s a1 = some (.inl x)) : jc Γ mX11_needCellOrNone 7 0 0 [some (.int a1)] (ct_h g τ s, n) (.inl none) (ct_h g τ s, n) := by
  refine jc_of ?_
  rw [o_X11_needCellOrNone] at h
  refine jg_iload_n dX11_needCellOrNone_0 rfl ?_
  refine jg_iconst (v := (-1)) dX11_needCellOrNone_1 (by decide) ?_
  refine jg_icmp_eq (x := a1) (y := (-1)) (tgt := 11) dX11_needCellOrNone_2 (by decide) (fun c1 => ?_) (fun c1 => ?_)
  · replace h := it_t c1 h
    obtain rfl := Sum.inl.inj (Option.some.inj h)
    exact jg_return dX11_needCellOrNone_11 rfl ⟨rfl, rfl⟩
  · replace h := it_f c1 h
    refine jg_iload_n dX11_needCellOrNone_5 rfl ?_
    refine jg_bipush (v := nI 24) dX11_needCellOrNone_6 (by decide) ?_
    obtain ⟨x2, e_x2, h⟩ := bd_some h
    rcases x2 with y3 | z4
    · replace h := se_l h
      refine cs_callS (As := [.int a1, .int (nI 24)]) ks_X11_90 dX11_needCellOrNone_8 rfl (by decide) (Nat.le_of_ble_eq_true rfl) rfl (by decide) (Nat.le_of_ble_eq_true rfl) (t_X11_needIndex τ n s a1 (nI 24) e_x2) ?_
      obtain rfl := Sum.inl.inj (Option.some.inj h)
      exact jg_return dX11_needCellOrNone_11 rfl ⟨rfl, rfl⟩
    · replace h := se_r h
      cases h
set_option maxHeartbeats 4000000 in
theorem x_X11_needCellOrNone {Γ : jg_G} {g : Nat → jg_C} (τ : cT) (n : Nat) (s : cS) (a1 : Int32)  (hn : n < 1000000) (hT : τ n = .inr (8, 0)) {z : Nat} (h : o_X11_needCellOrNone τ n s a1 = some (.inr z)) : jc Γ mX11_needCellOrNone 7 1 6 [some (.int a1)] (ct_h g τ s, n) (.inr (exn z)) (ct_h (gx g n) τ s, n + 1) := by
  refine jc_of ?_
  rw [o_X11_needCellOrNone] at h
  refine jg_iload_n dX11_needCellOrNone_0 rfl ?_
  refine jg_iconst (v := (-1)) dX11_needCellOrNone_1 (by decide) ?_
  refine jg_icmp_eq (x := a1) (y := (-1)) (tgt := 11) dX11_needCellOrNone_2 (by decide) (fun c1 => ?_) (fun c1 => ?_)
  · replace h := it_t c1 h
    cases h
  · replace h := it_f c1 h
    refine jg_iload_n dX11_needCellOrNone_5 rfl ?_
    refine jg_bipush (v := nI 24) dX11_needCellOrNone_6 (by decide) ?_
    obtain ⟨x2, e_x2, h⟩ := bd_some h
    rcases x2 with y3 | z4
    · replace h := se_l h
      refine cs_callS (As := [.int a1, .int (nI 24)]) ks_X11_90 dX11_needCellOrNone_8 rfl (by decide) (Nat.le_of_ble_eq_true rfl) rfl (by decide) (Nat.le_of_ble_eq_true rfl) (t_X11_needIndex τ n s a1 (nI 24) e_x2) ?_
      cases h
    · replace h := se_r h
      obtain rfl := Sum.inr.inj (Option.some.inj h)
      exact jc_SX (As := [.int a1, .int (nI 24)]) ks_X11_90 dX11_needCellOrNone_8 rfl (by decide) (Nat.le_of_ble_eq_true rfl) rfl (by decide) (Nat.le_refl _) (Nat.le_refl _) (Nat.le_of_ble_eq_true rfl) (x_X11_needIndex τ n s a1 (nI 24) hn hT e_x2) ⟨rfl, rfl⟩
theorem dX11_station_0 : decode cX11_station 0 = .ok (.iload_n 1, 1) := by decide +kernel
theorem dX11_station_1 : decode cX11_station 1 = .ok (.aload_n 0, 1) := by decide +kernel
theorem dX11_station_2 : decode cX11_station 2 = .ok (.getfield 27, 3) := by decide +kernel
theorem dX11_station_5 : decode cX11_station 5 = .ok (.getfield 55, 3) := by decide +kernel
theorem dX11_station_8 : decode cX11_station 8 = .ok (.getfield 79, 3) := by decide +kernel
theorem dX11_station_11 : decode cX11_station 11 = .ok (.invokestatic 90, 3) := by decide +kernel
theorem dX11_station_14 : decode cX11_station 14 = .ok (.iload_n 2, 1) := by decide +kernel
theorem dX11_station_15 : decode cX11_station 15 = .ok (.invokestatic 93, 3) := by decide +kernel
theorem dX11_station_18 : decode cX11_station 18 = .ok (.iload_n 3, 1) := by decide +kernel
theorem dX11_station_19 : decode cX11_station 19 = .ok (.invokestatic 93, 3) := by decide +kernel
theorem dX11_station_22 : decode cX11_station 22 = .ok (.aload_n 0, 1) := by decide +kernel
theorem dX11_station_23 : decode cX11_station 23 = .ok (.getfield 27, 3) := by decide +kernel
theorem dX11_station_26 : decode cX11_station 26 = .ok (.getfield 55, 3) := by decide +kernel
theorem dX11_station_29 : decode cX11_station 29 = .ok (.iload_n 1, 1) := by decide +kernel
theorem dX11_station_30 : decode cX11_station 30 = .ok (.iload_n 2, 1) := by decide +kernel
theorem dX11_station_31 : decode cX11_station 31 = .ok (.iload_n 3, 1) := by decide +kernel
theorem dX11_station_32 : decode cX11_station 32 = .ok (.invokevirtual 96, 3) := by decide +kernel
theorem dX11_station_35 : decode cX11_station 35 = .ok (.ireturn, 1) := by decide +kernel
noncomputable def o_X11_station (τ : cT) (n : Nat) (o : Nat) (s : cS) (a1 : Int32) (a2 : Int32) (a3 : Int32) : Option ((Int32 × cS) ⊕ (Nat × cS)) := (o_X11_needIndex τ n s a1 (s.1 (o + 11) 10)).bind fun x1 => (Sum.elim (fun y2 => (o_X11_needCellOrNone τ n s a2).bind fun x4 => (Sum.elim (fun y5 => (o_X11_needCellOrNone τ n s a3).bind fun x7 => (Sum.elim (fun y8 => (o_X8_send τ n (o + 10) s a1 a2 a3).bind fun x10 => (if zb x10.1 then some (.inl (x10.1, x10.2)) else none)) (fun z9 => some (.inr (z9, s))) x7)) (fun z6 => some (.inr (z6, s))) x4)) (fun z3 => some (.inr (z3, s))) x1)
set_option maxHeartbeats 4000000 in
theorem t_X11_station {Γ : jg_G} {g : Nat → jg_C} (τ : cT) (n : Nat) (o : Nat) (s : cS) (a1 : Int32) (a2 : Int32) (a3 : Int32) (hO : Sh τ n o) {x : Int32 × cS} (h : o_X11_station τ n o s a1 a2 a3 = some (.inl x)) : jc Γ mX11_station 8 0 0 [some (.ref o), some (.int a1), some (.int a2), some (.int a3)] (ct_h g τ s, n) (.inl (some (.int x.1))) (ct_h g τ x.2, n) := by
  refine jc_of ?_
  rw [o_X11_station] at h
  refine jg_iload_n dX11_station_0 rfl ?_
  refine jg_aload_n dX11_station_1 rfl ?_
  refine cs_get (s := s) (w := .ref (o + 10)) fl_X11_27 dX11_station_2 hO.ob0 rfl ?_
  refine cs_get (s := s) (w := .ref (o + 11)) fl_X11_55 dX11_station_5 hO.1.ob0 rfl ?_
  refine cs_get (s := s) (w := .int (s.1 (o + 11) 10)) fl_X11_79 dX11_station_8 (hO.1.ob 1 (by decide) rfl) rfl ?_
  obtain ⟨x1, e_x1, h⟩ := bd_some h
  rcases x1 with y2 | z3
  · replace h := se_l h
    refine cs_callS (As := [.int a1, .int (s.1 (o + 11) 10)]) ks_X11_90 dX11_station_11 rfl (by decide) (Nat.le_of_ble_eq_true rfl) rfl (by decide) (Nat.le_of_ble_eq_true rfl) (t_X11_needIndex τ n s a1 (s.1 (o + 11) 10) e_x1) ?_
    refine jg_iload_n dX11_station_14 rfl ?_
    obtain ⟨x4, e_x4, h⟩ := bd_some h
    rcases x4 with y5 | z6
    · replace h := se_l h
      refine cs_callS (As := [.int a2]) ks_X11_93 dX11_station_15 rfl (by decide) (Nat.le_of_ble_eq_true rfl) rfl (by decide) (Nat.le_of_ble_eq_true rfl) (t_X11_needCellOrNone τ n s a2 e_x4) ?_
      refine jg_iload_n dX11_station_18 rfl ?_
      obtain ⟨x7, e_x7, h⟩ := bd_some h
      rcases x7 with y8 | z9
      · replace h := se_l h
        refine cs_callS (As := [.int a3]) ks_X11_93 dX11_station_19 rfl (by decide) (Nat.le_of_ble_eq_true rfl) rfl (by decide) (Nat.le_of_ble_eq_true rfl) (t_X11_needCellOrNone τ n s a3 e_x7) ?_
        refine jg_aload_n dX11_station_22 rfl ?_
        refine cs_get (s := s) (w := .ref (o + 10)) fl_X11_27 dX11_station_23 hO.ob0 rfl ?_
        refine cs_get (s := s) (w := .ref (o + 11)) fl_X11_55 dX11_station_26 hO.1.ob0 rfl ?_
        refine jg_iload_n dX11_station_29 rfl ?_
        refine jg_iload_n dX11_station_30 rfl ?_
        refine jg_iload_n dX11_station_31 rfl ?_
        obtain ⟨x10, e_x10, h⟩ := bd_some h
        refine cs_call (q := (o + 11)) (As := [.int a1, .int a2, .int a3]) kv_X11_96 dX11_station_32 (hO.1.ob 1 (by decide) rfl) rfl rfl (by decide) (Nat.le_of_ble_eq_true rfl) rfl (by decide) (Nat.le_of_ble_eq_true rfl) (t_X8_send τ n (o + 10) s a1 a2 a3 hO.1 e_x10) ?_
        obtain ⟨q9, h⟩ := gd_some h
        obtain rfl := Sum.inl.inj (Option.some.inj h)
        exact jg_zreturn dX11_station_35 rfl (zb_nar q9) ⟨rfl, rfl⟩
      · replace h := se_r h
        cases h
    · replace h := se_r h
      cases h
  · replace h := se_r h
    cases h
set_option maxHeartbeats 4000000 in
theorem x_X11_station {Γ : jg_G} {g : Nat → jg_C} (τ : cT) (n : Nat) (o : Nat) (s : cS) (a1 : Int32) (a2 : Int32) (a3 : Int32) (hO : Sh τ n o) (hn : n < 1000000) (hT : τ n = .inr (8, 0)) {z : Nat × cS} (h : o_X11_station τ n o s a1 a2 a3 = some (.inr z)) : jc Γ mX11_station 8 1 6 [some (.ref o), some (.int a1), some (.int a2), some (.int a3)] (ct_h g τ s, n) (.inr (exn z.1)) (ct_h (gx g n) τ z.2, n + 1) := by
  refine jc_of ?_
  rw [o_X11_station] at h
  refine jg_iload_n dX11_station_0 rfl ?_
  refine jg_aload_n dX11_station_1 rfl ?_
  refine cs_get (s := s) (w := .ref (o + 10)) fl_X11_27 dX11_station_2 hO.ob0 rfl ?_
  refine cs_get (s := s) (w := .ref (o + 11)) fl_X11_55 dX11_station_5 hO.1.ob0 rfl ?_
  refine cs_get (s := s) (w := .int (s.1 (o + 11) 10)) fl_X11_79 dX11_station_8 (hO.1.ob 1 (by decide) rfl) rfl ?_
  obtain ⟨x1, e_x1, h⟩ := bd_some h
  rcases x1 with y2 | z3
  · replace h := se_l h
    refine cs_callS (As := [.int a1, .int (s.1 (o + 11) 10)]) ks_X11_90 dX11_station_11 rfl (by decide) (Nat.le_of_ble_eq_true rfl) rfl (by decide) (Nat.le_of_ble_eq_true rfl) (t_X11_needIndex τ n s a1 (s.1 (o + 11) 10) e_x1) ?_
    refine jg_iload_n dX11_station_14 rfl ?_
    obtain ⟨x4, e_x4, h⟩ := bd_some h
    rcases x4 with y5 | z6
    · replace h := se_l h
      refine cs_callS (As := [.int a2]) ks_X11_93 dX11_station_15 rfl (by decide) (Nat.le_of_ble_eq_true rfl) rfl (by decide) (Nat.le_of_ble_eq_true rfl) (t_X11_needCellOrNone τ n s a2 e_x4) ?_
      refine jg_iload_n dX11_station_18 rfl ?_
      obtain ⟨x7, e_x7, h⟩ := bd_some h
      rcases x7 with y8 | z9
      · replace h := se_l h
        refine cs_callS (As := [.int a3]) ks_X11_93 dX11_station_19 rfl (by decide) (Nat.le_of_ble_eq_true rfl) rfl (by decide) (Nat.le_of_ble_eq_true rfl) (t_X11_needCellOrNone τ n s a3 e_x7) ?_
        refine jg_aload_n dX11_station_22 rfl ?_
        refine cs_get (s := s) (w := .ref (o + 10)) fl_X11_27 dX11_station_23 hO.ob0 rfl ?_
        refine cs_get (s := s) (w := .ref (o + 11)) fl_X11_55 dX11_station_26 hO.1.ob0 rfl ?_
        refine jg_iload_n dX11_station_29 rfl ?_
        refine jg_iload_n dX11_station_30 rfl ?_
        refine jg_iload_n dX11_station_31 rfl ?_
        obtain ⟨x10, e_x10, h⟩ := bd_some h
        refine cs_call (q := (o + 11)) (As := [.int a1, .int a2, .int a3]) kv_X11_96 dX11_station_32 (hO.1.ob 1 (by decide) rfl) rfl rfl (by decide) (Nat.le_of_ble_eq_true rfl) rfl (by decide) (Nat.le_of_ble_eq_true rfl) (t_X8_send τ n (o + 10) s a1 a2 a3 hO.1 e_x10) ?_
        obtain ⟨q9, h⟩ := gd_some h
        cases h
      · replace h := se_r h
        obtain rfl := Sum.inr.inj (Option.some.inj h)
        exact jc_SX (As := [.int a3]) ks_X11_93 dX11_station_19 rfl (by decide) (Nat.le_of_ble_eq_true rfl) rfl (by decide) (Nat.le_refl _) (Nat.le_refl _) (Nat.le_of_ble_eq_true rfl) (x_X11_needCellOrNone τ n s a3 hn hT e_x7) ⟨rfl, rfl⟩
    · replace h := se_r h
      obtain rfl := Sum.inr.inj (Option.some.inj h)
      exact jc_SX (As := [.int a2]) ks_X11_93 dX11_station_15 rfl (by decide) (Nat.le_of_ble_eq_true rfl) rfl (by decide) (Nat.le_refl _) (Nat.le_refl _) (Nat.le_of_ble_eq_true rfl) (x_X11_needCellOrNone τ n s a2 hn hT e_x4) ⟨rfl, rfl⟩
  · replace h := se_r h
    obtain rfl := Sum.inr.inj (Option.some.inj h)
    exact jc_SX (As := [.int a1, .int (s.1 (o + 11) 10)]) ks_X11_90 dX11_station_11 rfl (by decide) (Nat.le_of_ble_eq_true rfl) rfl (by decide) (Nat.le_refl _) (Nat.le_refl _) (Nat.le_of_ble_eq_true rfl) (x_X11_needIndex τ n s a1 (s.1 (o + 11) 10) hn hT e_x1) ⟨rfl, rfl⟩
theorem dX11_cell_0 : decode cX11_cell 0 = .ok (.iload_n 1, 1) := by decide +kernel
theorem dX11_cell_1 : decode cX11_cell 1 = .ok (.invokestatic 38, 3) := by decide +kernel
theorem dX11_cell_4 : decode cX11_cell 4 = .ok (.iload_n 2, 1) := by decide +kernel
theorem dX11_cell_5 : decode cX11_cell 5 = .ok (.tableswitch 86 0 3 #[31, 44, 57, 70], 31) := by decide +kernel
theorem dX11_cell_36 : decode cX11_cell 36 = .ok (.aload_n 0, 1) := by decide +kernel
theorem dX11_cell_37 : decode cX11_cell 37 = .ok (.getfield 27, 3) := by decide +kernel
theorem dX11_cell_40 : decode cX11_cell 40 = .ok (.getfield 55, 3) := by decide +kernel
theorem dX11_cell_43 : decode cX11_cell 43 = .ok (.getfield 59, 3) := by decide +kernel
theorem dX11_cell_46 : decode cX11_cell 46 = .ok (.iload_n 1, 1) := by decide +kernel
theorem dX11_cell_47 : decode cX11_cell 47 = .ok (.iaload, 1) := by decide +kernel
theorem dX11_cell_48 : decode cX11_cell 48 = .ok (.ireturn, 1) := by decide +kernel
theorem dX11_cell_49 : decode cX11_cell 49 = .ok (.aload_n 0, 1) := by decide +kernel
theorem dX11_cell_50 : decode cX11_cell 50 = .ok (.getfield 27, 3) := by decide +kernel
theorem dX11_cell_53 : decode cX11_cell 53 = .ok (.getfield 55, 3) := by decide +kernel
theorem dX11_cell_56 : decode cX11_cell 56 = .ok (.getfield 65, 3) := by decide +kernel
theorem dX11_cell_59 : decode cX11_cell 59 = .ok (.iload_n 1, 1) := by decide +kernel
theorem dX11_cell_60 : decode cX11_cell 60 = .ok (.iaload, 1) := by decide +kernel
theorem dX11_cell_61 : decode cX11_cell 61 = .ok (.ireturn, 1) := by decide +kernel
theorem dX11_cell_62 : decode cX11_cell 62 = .ok (.aload_n 0, 1) := by decide +kernel
theorem dX11_cell_63 : decode cX11_cell 63 = .ok (.getfield 27, 3) := by decide +kernel
theorem dX11_cell_66 : decode cX11_cell 66 = .ok (.getfield 55, 3) := by decide +kernel
theorem dX11_cell_69 : decode cX11_cell 69 = .ok (.getfield 99, 3) := by decide +kernel
theorem dX11_cell_72 : decode cX11_cell 72 = .ok (.iload_n 1, 1) := by decide +kernel
theorem dX11_cell_73 : decode cX11_cell 73 = .ok (.iaload, 1) := by decide +kernel
theorem dX11_cell_74 : decode cX11_cell 74 = .ok (.ireturn, 1) := by decide +kernel
theorem dX11_cell_75 : decode cX11_cell 75 = .ok (.aload_n 0, 1) := by decide +kernel
theorem dX11_cell_76 : decode cX11_cell 76 = .ok (.getfield 27, 3) := by decide +kernel
theorem dX11_cell_79 : decode cX11_cell 79 = .ok (.iload_n 1, 1) := by decide +kernel
theorem dX11_cell_80 : decode cX11_cell 80 = .ok (.aload_n 0, 1) := by decide +kernel
theorem dX11_cell_81 : decode cX11_cell 81 = .ok (.getfield 27, 3) := by decide +kernel
theorem dX11_cell_84 : decode cX11_cell 84 = .ok (.getfield 49, 3) := by decide +kernel
theorem dX11_cell_87 : decode cX11_cell 87 = .ok (.invokevirtual 102, 3) := by decide +kernel
theorem dX11_cell_90 : decode cX11_cell 90 = .ok (.ireturn, 1) := by decide +kernel
theorem dX11_cell_91 : decode cX11_cell 91 = .ok (.new 105, 3) := by decide +kernel
theorem dX11_cell_94 : decode cX11_cell 94 = .ok (.dup, 1) := by decide +kernel
theorem dX11_cell_95 : decode cX11_cell 95 = .ok (.ldc 107, 2) := by decide +kernel
theorem dX11_cell_97 : decode cX11_cell 97 = .ok (.invokespecial 109, 3) := by decide +kernel
theorem dX11_cell_100 : decode cX11_cell 100 = .ok (.athrow, 1) := by decide +kernel
noncomputable def o_X11_cell (F : Nat) (τ : cT) (n : Nat) (o : Nat) (s : cS) (a1 : Int32) (a2 : Int32) : Option ((Int32) ⊕ (Nat)) := (o_X11_needCell τ n s a1).bind fun x1 => (Sum.elim (fun y2 => if a2 = nI 0 then (if iL a1 24 then (some (.inl (cg s (o + 12) a1))) else none) else (if a2 = nI 1 then (if iL a1 24 then (some (.inl (cg s (o + 13) a1))) else none) else (if a2 = nI 2 then (if iL a1 24 then (some (.inl (cg s (o + 14) a1))) else none) else (if a2 = nI 3 then ((o_X2_depthAsOf F τ n (o + 10) s a1 (s.1 (o + 10) 0)).bind fun x11 => (some (.inl x11))) else (some (.inr 4)))))) (fun z3 => some (.inr z3)) x1)
set_option maxHeartbeats 4000000 in
theorem t_X11_cell {Γ : jg_G} {g : Nat → jg_C} (F : Nat) (τ : cT) (n : Nat) (o : Nat) (s : cS) (a1 : Int32) (a2 : Int32) (hO : Sh τ n o) {x : Int32} (h : o_X11_cell F τ n o s a1 a2 = some (.inl x)) : jc Γ mX11_cell 8 0 0 [some (.ref o), some (.int a1), some (.int a2)] (ct_h g τ s, n) (.inl (some (.int x))) (ct_h g τ s, n) := by
  refine jc_of ?_
  rw [o_X11_cell] at h
  refine jg_iload_n dX11_cell_0 rfl ?_
  obtain ⟨x1, e_x1, h⟩ := bd_some h
  rcases x1 with y2 | z3
  · replace h := se_l h
    refine cs_callS (As := [.int a1]) ks_X11_38 dX11_cell_1 rfl (by decide) (Nat.le_of_ble_eq_true rfl) rfl (by decide) (Nat.le_of_ble_eq_true rfl) (t_X11_needCell τ n s a1 e_x1) ?_
    refine jg_iload_n dX11_cell_4 rfl ?_
    by_cases c4 : a2 = nI 0
    · replace h := it_t c4 h
      refine jg_tableIn (off := 31) (tgt := 36) dX11_cell_5 (by rw [c4]; decide) (by rw [c4]; decide) (by rw [c4]; rfl) (by decide) ?_
      refine jg_aload_n dX11_cell_36 rfl ?_
      refine cs_get (s := s) (w := .ref (o + 10)) fl_X11_27 dX11_cell_37 hO.ob0 rfl ?_
      refine cs_get (s := s) (w := .ref (o + 11)) fl_X11_55 dX11_cell_40 hO.1.ob0 rfl ?_
      refine cs_get (s := s) (w := .ref (o + 12)) fl_X11_59 dX11_cell_43 (hO.1.ob 1 (by decide) rfl) rfl ?_
      refine jg_iload_n dX11_cell_46 rfl ?_
      obtain ⟨q5, h⟩ := gd_some h
      refine cs_lda (s := s) (q := (o + 12)) (i := a1) dX11_cell_47 (hO.1.ar 2 (by decide) rfl) q5 ?_
      obtain rfl := Sum.inl.inj (Option.some.inj h)
      exact jg_ireturn dX11_cell_48 rfl ⟨rfl, rfl⟩
    replace h := it_f c4 h
    by_cases c6 : a2 = nI 1
    · replace h := it_t c6 h
      refine jg_tableIn (off := 44) (tgt := 49) dX11_cell_5 (by rw [c6]; decide) (by rw [c6]; decide) (by rw [c6]; rfl) (by decide) ?_
      refine jg_aload_n dX11_cell_49 rfl ?_
      refine cs_get (s := s) (w := .ref (o + 10)) fl_X11_27 dX11_cell_50 hO.ob0 rfl ?_
      refine cs_get (s := s) (w := .ref (o + 11)) fl_X11_55 dX11_cell_53 hO.1.ob0 rfl ?_
      refine cs_get (s := s) (w := .ref (o + 13)) fl_X11_65 dX11_cell_56 (hO.1.ob 1 (by decide) rfl) rfl ?_
      refine jg_iload_n dX11_cell_59 rfl ?_
      obtain ⟨q7, h⟩ := gd_some h
      refine cs_lda (s := s) (q := (o + 13)) (i := a1) dX11_cell_60 (hO.1.ar 3 (by decide) rfl) q7 ?_
      obtain rfl := Sum.inl.inj (Option.some.inj h)
      exact jg_ireturn dX11_cell_61 rfl ⟨rfl, rfl⟩
    replace h := it_f c6 h
    by_cases c8 : a2 = nI 2
    · replace h := it_t c8 h
      refine jg_tableIn (off := 57) (tgt := 62) dX11_cell_5 (by rw [c8]; decide) (by rw [c8]; decide) (by rw [c8]; rfl) (by decide) ?_
      refine jg_aload_n dX11_cell_62 rfl ?_
      refine cs_get (s := s) (w := .ref (o + 10)) fl_X11_27 dX11_cell_63 hO.ob0 rfl ?_
      refine cs_get (s := s) (w := .ref (o + 11)) fl_X11_55 dX11_cell_66 hO.1.ob0 rfl ?_
      refine cs_get (s := s) (w := .ref (o + 14)) fl_X11_99 dX11_cell_69 (hO.1.ob 1 (by decide) rfl) rfl ?_
      refine jg_iload_n dX11_cell_72 rfl ?_
      obtain ⟨q9, h⟩ := gd_some h
      refine cs_lda (s := s) (q := (o + 14)) (i := a1) dX11_cell_73 (hO.1.ar 4 (by decide) rfl) q9 ?_
      obtain rfl := Sum.inl.inj (Option.some.inj h)
      exact jg_ireturn dX11_cell_74 rfl ⟨rfl, rfl⟩
    replace h := it_f c8 h
    by_cases c10 : a2 = nI 3
    · replace h := it_t c10 h
      refine jg_tableIn (off := 70) (tgt := 75) dX11_cell_5 (by rw [c10]; decide) (by rw [c10]; decide) (by rw [c10]; rfl) (by decide) ?_
      refine jg_aload_n dX11_cell_75 rfl ?_
      refine cs_get (s := s) (w := .ref (o + 10)) fl_X11_27 dX11_cell_76 hO.ob0 rfl ?_
      refine jg_iload_n dX11_cell_79 rfl ?_
      refine jg_aload_n dX11_cell_80 rfl ?_
      refine cs_get (s := s) (w := .ref (o + 10)) fl_X11_27 dX11_cell_81 hO.ob0 rfl ?_
      refine cs_get (s := s) (w := .int (s.1 (o + 10) 0)) fl_X11_49 dX11_cell_84 hO.1.ob0 rfl ?_
      obtain ⟨x11, e_x11, h⟩ := bd_some h
      refine cs_call (q := (o + 10)) (As := [.int a1, .int (s.1 (o + 10) 0)]) kv_X11_102 dX11_cell_87 hO.1.ob0 rfl rfl (by decide) (Nat.le_of_ble_eq_true rfl) rfl (by decide) (Nat.le_of_ble_eq_true rfl) (t_X2_depthAsOf F τ n (o + 10) s a1 (s.1 (o + 10) 0) hO.1 e_x11) ?_
      obtain rfl := Sum.inl.inj (Option.some.inj h)
      exact jg_ireturn dX11_cell_90 rfl ⟨rfl, rfl⟩
    replace h := it_f c10 h
    refine jg_tableOut (tgt := 91) dX11_cell_5 (jt_outN 0 3 (a2) (fun k h1 h2 => by rcases (show k = 0 ∨ k = 1 ∨ k = 2 ∨ k = 3 by omega) with rfl | rfl | rfl | rfl <;> assumption)) (by decide) ?_
    cases h
  · replace h := se_r h
    cases h
set_option maxHeartbeats 4000000 in
theorem x_X11_cell {Γ : jg_G} {g : Nat → jg_C} (F : Nat) (τ : cT) (n : Nat) (o : Nat) (s : cS) (a1 : Int32) (a2 : Int32) (hO : Sh τ n o) (hn : n < 1000000) (hT : τ n = .inr (8, 0)) {z : Nat} (h : o_X11_cell F τ n o s a1 a2 = some (.inr z)) : jc Γ mX11_cell 8 1 6 [some (.ref o), some (.int a1), some (.int a2)] (ct_h g τ s, n) (.inr (exn z)) (ct_h (gx g n) τ s, n + 1) := by
  refine jc_of ?_
  rw [o_X11_cell] at h
  refine jg_iload_n dX11_cell_0 rfl ?_
  obtain ⟨x1, e_x1, h⟩ := bd_some h
  rcases x1 with y2 | z3
  · replace h := se_l h
    refine cs_callS (As := [.int a1]) ks_X11_38 dX11_cell_1 rfl (by decide) (Nat.le_of_ble_eq_true rfl) rfl (by decide) (Nat.le_of_ble_eq_true rfl) (t_X11_needCell τ n s a1 e_x1) ?_
    refine jg_iload_n dX11_cell_4 rfl ?_
    by_cases c4 : a2 = nI 0
    · replace h := it_t c4 h
      refine jg_tableIn (off := 31) (tgt := 36) dX11_cell_5 (by rw [c4]; decide) (by rw [c4]; decide) (by rw [c4]; rfl) (by decide) ?_
      refine jg_aload_n dX11_cell_36 rfl ?_
      refine cs_get (s := s) (w := .ref (o + 10)) fl_X11_27 dX11_cell_37 hO.ob0 rfl ?_
      refine cs_get (s := s) (w := .ref (o + 11)) fl_X11_55 dX11_cell_40 hO.1.ob0 rfl ?_
      refine cs_get (s := s) (w := .ref (o + 12)) fl_X11_59 dX11_cell_43 (hO.1.ob 1 (by decide) rfl) rfl ?_
      refine jg_iload_n dX11_cell_46 rfl ?_
      obtain ⟨q5, h⟩ := gd_some h
      refine cs_lda (s := s) (q := (o + 12)) (i := a1) dX11_cell_47 (hO.1.ar 2 (by decide) rfl) q5 ?_
      cases h
    replace h := it_f c4 h
    by_cases c6 : a2 = nI 1
    · replace h := it_t c6 h
      refine jg_tableIn (off := 44) (tgt := 49) dX11_cell_5 (by rw [c6]; decide) (by rw [c6]; decide) (by rw [c6]; rfl) (by decide) ?_
      refine jg_aload_n dX11_cell_49 rfl ?_
      refine cs_get (s := s) (w := .ref (o + 10)) fl_X11_27 dX11_cell_50 hO.ob0 rfl ?_
      refine cs_get (s := s) (w := .ref (o + 11)) fl_X11_55 dX11_cell_53 hO.1.ob0 rfl ?_
      refine cs_get (s := s) (w := .ref (o + 13)) fl_X11_65 dX11_cell_56 (hO.1.ob 1 (by decide) rfl) rfl ?_
      refine jg_iload_n dX11_cell_59 rfl ?_
      obtain ⟨q7, h⟩ := gd_some h
      refine cs_lda (s := s) (q := (o + 13)) (i := a1) dX11_cell_60 (hO.1.ar 3 (by decide) rfl) q7 ?_
      cases h
    replace h := it_f c6 h
    by_cases c8 : a2 = nI 2
    · replace h := it_t c8 h
      refine jg_tableIn (off := 57) (tgt := 62) dX11_cell_5 (by rw [c8]; decide) (by rw [c8]; decide) (by rw [c8]; rfl) (by decide) ?_
      refine jg_aload_n dX11_cell_62 rfl ?_
      refine cs_get (s := s) (w := .ref (o + 10)) fl_X11_27 dX11_cell_63 hO.ob0 rfl ?_
      refine cs_get (s := s) (w := .ref (o + 11)) fl_X11_55 dX11_cell_66 hO.1.ob0 rfl ?_
      refine cs_get (s := s) (w := .ref (o + 14)) fl_X11_99 dX11_cell_69 (hO.1.ob 1 (by decide) rfl) rfl ?_
      refine jg_iload_n dX11_cell_72 rfl ?_
      obtain ⟨q9, h⟩ := gd_some h
      refine cs_lda (s := s) (q := (o + 14)) (i := a1) dX11_cell_73 (hO.1.ar 4 (by decide) rfl) q9 ?_
      cases h
    replace h := it_f c8 h
    by_cases c10 : a2 = nI 3
    · replace h := it_t c10 h
      refine jg_tableIn (off := 70) (tgt := 75) dX11_cell_5 (by rw [c10]; decide) (by rw [c10]; decide) (by rw [c10]; rfl) (by decide) ?_
      refine jg_aload_n dX11_cell_75 rfl ?_
      refine cs_get (s := s) (w := .ref (o + 10)) fl_X11_27 dX11_cell_76 hO.ob0 rfl ?_
      refine jg_iload_n dX11_cell_79 rfl ?_
      refine jg_aload_n dX11_cell_80 rfl ?_
      refine cs_get (s := s) (w := .ref (o + 10)) fl_X11_27 dX11_cell_81 hO.ob0 rfl ?_
      refine cs_get (s := s) (w := .int (s.1 (o + 10) 0)) fl_X11_49 dX11_cell_84 hO.1.ob0 rfl ?_
      obtain ⟨x11, e_x11, h⟩ := bd_some h
      refine cs_call (q := (o + 10)) (As := [.int a1, .int (s.1 (o + 10) 0)]) kv_X11_102 dX11_cell_87 hO.1.ob0 rfl rfl (by decide) (Nat.le_of_ble_eq_true rfl) rfl (by decide) (Nat.le_of_ble_eq_true rfl) (t_X2_depthAsOf F τ n (o + 10) s a1 (s.1 (o + 10) 0) hO.1 e_x11) ?_
      cases h
    replace h := it_f c10 h
    refine jg_tableOut (tgt := 91) dX11_cell_5 (jt_outN 0 3 (a2) (fun k h1 h2 => by rcases (show k = 0 ∨ k = 1 ∨ k = 2 ∨ k = 3 by omega) with rfl | rfl | rfl | rfl <;> assumption)) (by decide) ?_
    obtain rfl := Sum.inr.inj (Option.some.inj h)
    exact jg_nsS (i := 4) rfl ex_NSEE rfl dX11_cell_91 dX11_cell_94 dX11_cell_95 dX11_cell_97 dX11_cell_100 (Nat.le_refl _) (Nat.le_refl _) (by decide) (Nat.le_of_ble_eq_true rfl) hn ⟨rfl, gx_e hT⟩
  · replace h := se_r h
    obtain rfl := Sum.inr.inj (Option.some.inj h)
    exact jc_SX (As := [.int a1]) ks_X11_38 dX11_cell_1 rfl (by decide) (Nat.le_of_ble_eq_true rfl) rfl (by decide) (Nat.le_refl _) (Nat.le_refl _) (Nat.le_of_ble_eq_true rfl) (x_X11_needCell τ n s a1 hn hT e_x1) ⟨rfl, rfl⟩
theorem dX11_sound_0 : decode cX11_sound 0 = .ok (.iload_n 1, 1) := by decide +kernel
theorem dX11_sound_1 : decode cX11_sound 1 = .ok (.invokestatic 38, 3) := by decide +kernel
theorem dX11_sound_4 : decode cX11_sound 4 = .ok (.iload_n 2, 1) := by decide +kernel
theorem dX11_sound_5 : decode cX11_sound 5 = .ok (.iconst 0, 1) := by decide +kernel
theorem dX11_sound_6 : decode cX11_sound 6 = .ok (.aload_n 0, 1) := by decide +kernel
theorem dX11_sound_7 : decode cX11_sound 7 = .ok (.getfield 27, 3) := by decide +kernel
theorem dX11_sound_10 : decode cX11_sound 10 = .ok (.invokevirtual 71, 3) := by decide +kernel
theorem dX11_sound_13 : decode cX11_sound 13 = .ok (.invokestatic 41, 3) := by decide +kernel
theorem dX11_sound_16 : decode cX11_sound 16 = .ok (.ifCond .eq 18, 3) := by decide +kernel
theorem dX11_sound_19 : decode cX11_sound 19 = .ok (.iload_n 3, 1) := by decide +kernel
theorem dX11_sound_20 : decode cX11_sound 20 = .ok (.iconst 0, 1) := by decide +kernel
theorem dX11_sound_21 : decode cX11_sound 21 = .ok (.sipush 250, 3) := by decide +kernel
theorem dX11_sound_24 : decode cX11_sound 24 = .ok (.invokestatic 41, 3) := by decide +kernel
theorem dX11_sound_27 : decode cX11_sound 27 = .ok (.ifCond .eq 7, 3) := by decide +kernel
theorem dX11_sound_30 : decode cX11_sound 30 = .ok (.iconst 1, 1) := by decide +kernel
theorem dX11_sound_31 : decode cX11_sound 31 = .ok (.goto 4, 3) := by decide +kernel
theorem dX11_sound_34 : decode cX11_sound 34 = .ok (.iconst 0, 1) := by decide +kernel
theorem dX11_sound_35 : decode cX11_sound 35 = .ok (.invokestatic 45, 3) := by decide +kernel
theorem dX11_sound_38 : decode cX11_sound 38 = .ok (.aload_n 0, 1) := by decide +kernel
theorem dX11_sound_39 : decode cX11_sound 39 = .ok (.getfield 27, 3) := by decide +kernel
theorem dX11_sound_42 : decode cX11_sound 42 = .ok (.getfield 112, 3) := by decide +kernel
theorem dX11_sound_45 : decode cX11_sound 45 = .ok (.iload_n 1, 1) := by decide +kernel
theorem dX11_sound_46 : decode cX11_sound 46 = .ok (.iload_n 2, 1) := by decide +kernel
theorem dX11_sound_47 : decode cX11_sound 47 = .ok (.iload_n 3, 1) := by decide +kernel
theorem dX11_sound_48 : decode cX11_sound 48 = .ok (.aload_n 0, 1) := by decide +kernel
theorem dX11_sound_49 : decode cX11_sound 49 = .ok (.getfield 27, 3) := by decide +kernel
theorem dX11_sound_52 : decode cX11_sound 52 = .ok (.getfield 49, 3) := by decide +kernel
theorem dX11_sound_55 : decode cX11_sound 55 = .ok (.invokevirtual 116, 3) := by decide +kernel
theorem dX11_sound_58 : decode cX11_sound 58 = .ok (.ireturn, 1) := by decide +kernel
noncomputable def o_X11_sound (F : Nat) (τ : cT) (n : Nat) (o : Nat) (s : cS) (a1 : Int32) (a2 : Int32) (a3 : Int32) : Option ((Int32 × cS) ⊕ (Nat × cS)) := (o_X11_needCell τ n s a1).bind fun x1 => (Sum.elim (fun y2 => (o_X2_today τ n (o + 10) s).bind fun x4 => ((o_X11_within τ n s a2 (nI 0) x4).bind fun x5 => (if x5 = 0 then ((o_X11_needArgument τ n s (nI 0)).bind fun x7 => (Sum.elim (fun y8 => (o_X10_tell F τ n (o + 10) s a1 a2 a3 (s.1 (o + 10) 0)).bind fun x10 => (some (.inl (x10.1, x10.2)))) (fun z9 => some (.inr (z9, s))) x7)) else ((o_X11_within τ n s a3 (nI 0) (nI 250)).bind fun x11 => (if x11 = 0 then ((o_X11_needArgument τ n s (nI 0)).bind fun x13 => (Sum.elim (fun y14 => (o_X10_tell F τ n (o + 10) s a1 a2 a3 (s.1 (o + 10) 0)).bind fun x16 => (some (.inl (x16.1, x16.2)))) (fun z15 => some (.inr (z15, s))) x13)) else ((o_X11_needArgument τ n s (nI 1)).bind fun x17 => (Sum.elim (fun y18 => (o_X10_tell F τ n (o + 10) s a1 a2 a3 (s.1 (o + 10) 0)).bind fun x20 => (some (.inl (x20.1, x20.2)))) (fun z19 => some (.inr (z19, s))) x17))))))) (fun z3 => some (.inr (z3, s))) x1)
set_option maxHeartbeats 4000000 in
theorem t_X11_sound {Γ : jg_G} {g : Nat → jg_C} (F : Nat) (τ : cT) (n : Nat) (o : Nat) (s : cS) (a1 : Int32) (a2 : Int32) (a3 : Int32) (hO : Sh τ n o) {x : Int32 × cS} (h : o_X11_sound F τ n o s a1 a2 a3 = some (.inl x)) : jc Γ mX11_sound 8 0 0 [some (.ref o), some (.int a1), some (.int a2), some (.int a3)] (ct_h g τ s, n) (.inl (some (.int x.1))) (ct_h g τ x.2, n) := by
  refine jc_of ?_
  rw [o_X11_sound] at h
  refine jg_iload_n dX11_sound_0 rfl ?_
  obtain ⟨x1, e_x1, h⟩ := bd_some h
  rcases x1 with y2 | z3
  · replace h := se_l h
    refine cs_callS (As := [.int a1]) ks_X11_38 dX11_sound_1 rfl (by decide) (Nat.le_of_ble_eq_true rfl) rfl (by decide) (Nat.le_of_ble_eq_true rfl) (t_X11_needCell τ n s a1 e_x1) ?_
    refine jg_iload_n dX11_sound_4 rfl ?_
    refine jg_iconst (v := nI 0) dX11_sound_5 (by decide) ?_
    refine jg_aload_n dX11_sound_6 rfl ?_
    refine cs_get (s := s) (w := .ref (o + 10)) fl_X11_27 dX11_sound_7 hO.ob0 rfl ?_
    obtain ⟨x4, e_x4, h⟩ := bd_some h
    refine cs_call (q := (o + 10)) (As := []) kv_X11_71 dX11_sound_10 hO.1.ob0 rfl rfl (by decide) (Nat.le_of_ble_eq_true rfl) rfl (by decide) (Nat.le_of_ble_eq_true rfl) (t_X2_today τ n (o + 10) s hO.1 e_x4) ?_
    obtain ⟨x5, e_x5, h⟩ := bd_some h
    refine cs_callS (As := [.int a2, .int (nI 0), .int x4]) ks_X11_41 dX11_sound_13 rfl (by decide) (Nat.le_of_ble_eq_true rfl) rfl (by decide) (Nat.le_of_ble_eq_true rfl) (t_X11_within τ n s a2 (nI 0) x4 e_x5) ?_
    refine jg_if_eq (x := x5) (tgt := 34) dX11_sound_16 (by decide) (fun c6 => ?_) (fun c6 => ?_)
    · replace h := it_t c6 h
      refine jg_iconst (v := nI 0) dX11_sound_34 (by decide) ?_
      obtain ⟨x7, e_x7, h⟩ := bd_some h
      rcases x7 with y8 | z9
      · replace h := se_l h
        refine cs_callS (As := [.int (nI 0)]) ks_X11_45 dX11_sound_35 rfl (by decide) (Nat.le_of_ble_eq_true rfl) rfl (by decide) (Nat.le_of_ble_eq_true rfl) (t_X11_needArgument τ n s (nI 0) e_x7) ?_
        refine jg_aload_n dX11_sound_38 rfl ?_
        refine cs_get (s := s) (w := .ref (o + 10)) fl_X11_27 dX11_sound_39 hO.ob0 rfl ?_
        refine cs_get (s := s) (w := .ref (o + 21)) fl_X11_112 dX11_sound_42 hO.1.ob0 rfl ?_
        refine jg_iload_n dX11_sound_45 rfl ?_
        refine jg_iload_n dX11_sound_46 rfl ?_
        refine jg_iload_n dX11_sound_47 rfl ?_
        refine jg_aload_n dX11_sound_48 rfl ?_
        refine cs_get (s := s) (w := .ref (o + 10)) fl_X11_27 dX11_sound_49 hO.ob0 rfl ?_
        refine cs_get (s := s) (w := .int (s.1 (o + 10) 0)) fl_X11_49 dX11_sound_52 hO.1.ob0 rfl ?_
        obtain ⟨x10, e_x10, h⟩ := bd_some h
        refine cs_call (q := (o + 21)) (As := [.int a1, .int a2, .int a3, .int (s.1 (o + 10) 0)]) kv_X11_116 dX11_sound_55 (hO.1.ob 11 (by decide) rfl) rfl rfl (by decide) (Nat.le_of_ble_eq_true rfl) rfl (by decide) (Nat.le_of_ble_eq_true rfl) (t_X10_tell F τ n (o + 10) s a1 a2 a3 (s.1 (o + 10) 0) hO.1 e_x10) ?_
        obtain rfl := Sum.inl.inj (Option.some.inj h)
        exact jg_ireturn dX11_sound_58 rfl ⟨rfl, rfl⟩
      · replace h := se_r h
        cases h
    · replace h := it_f c6 h
      refine jg_iload_n dX11_sound_19 rfl ?_
      refine jg_iconst (v := nI 0) dX11_sound_20 (by decide) ?_
      refine jg_sipush (v := nI 250) dX11_sound_21 (by decide) ?_
      obtain ⟨x11, e_x11, h⟩ := bd_some h
      refine cs_callS (As := [.int a3, .int (nI 0), .int (nI 250)]) ks_X11_41 dX11_sound_24 rfl (by decide) (Nat.le_of_ble_eq_true rfl) rfl (by decide) (Nat.le_of_ble_eq_true rfl) (t_X11_within τ n s a3 (nI 0) (nI 250) e_x11) ?_
      refine jg_if_eq (x := x11) (tgt := 34) dX11_sound_27 (by decide) (fun c12 => ?_) (fun c12 => ?_)
      · replace h := it_t c12 h
        refine jg_iconst (v := nI 0) dX11_sound_34 (by decide) ?_
        obtain ⟨x13, e_x13, h⟩ := bd_some h
        rcases x13 with y14 | z15
        · replace h := se_l h
          refine cs_callS (As := [.int (nI 0)]) ks_X11_45 dX11_sound_35 rfl (by decide) (Nat.le_of_ble_eq_true rfl) rfl (by decide) (Nat.le_of_ble_eq_true rfl) (t_X11_needArgument τ n s (nI 0) e_x13) ?_
          refine jg_aload_n dX11_sound_38 rfl ?_
          refine cs_get (s := s) (w := .ref (o + 10)) fl_X11_27 dX11_sound_39 hO.ob0 rfl ?_
          refine cs_get (s := s) (w := .ref (o + 21)) fl_X11_112 dX11_sound_42 hO.1.ob0 rfl ?_
          refine jg_iload_n dX11_sound_45 rfl ?_
          refine jg_iload_n dX11_sound_46 rfl ?_
          refine jg_iload_n dX11_sound_47 rfl ?_
          refine jg_aload_n dX11_sound_48 rfl ?_
          refine cs_get (s := s) (w := .ref (o + 10)) fl_X11_27 dX11_sound_49 hO.ob0 rfl ?_
          refine cs_get (s := s) (w := .int (s.1 (o + 10) 0)) fl_X11_49 dX11_sound_52 hO.1.ob0 rfl ?_
          obtain ⟨x16, e_x16, h⟩ := bd_some h
          refine cs_call (q := (o + 21)) (As := [.int a1, .int a2, .int a3, .int (s.1 (o + 10) 0)]) kv_X11_116 dX11_sound_55 (hO.1.ob 11 (by decide) rfl) rfl rfl (by decide) (Nat.le_of_ble_eq_true rfl) rfl (by decide) (Nat.le_of_ble_eq_true rfl) (t_X10_tell F τ n (o + 10) s a1 a2 a3 (s.1 (o + 10) 0) hO.1 e_x16) ?_
          obtain rfl := Sum.inl.inj (Option.some.inj h)
          exact jg_ireturn dX11_sound_58 rfl ⟨rfl, rfl⟩
        · replace h := se_r h
          cases h
      · replace h := it_f c12 h
        refine jg_iconst (v := nI 1) dX11_sound_30 (by decide) ?_
        refine jg_goto (tgt := 35) dX11_sound_31 (by decide) ?_
        obtain ⟨x17, e_x17, h⟩ := bd_some h
        rcases x17 with y18 | z19
        · replace h := se_l h
          refine cs_callS (As := [.int (nI 1)]) ks_X11_45 dX11_sound_35 rfl (by decide) (Nat.le_of_ble_eq_true rfl) rfl (by decide) (Nat.le_of_ble_eq_true rfl) (t_X11_needArgument τ n s (nI 1) e_x17) ?_
          refine jg_aload_n dX11_sound_38 rfl ?_
          refine cs_get (s := s) (w := .ref (o + 10)) fl_X11_27 dX11_sound_39 hO.ob0 rfl ?_
          refine cs_get (s := s) (w := .ref (o + 21)) fl_X11_112 dX11_sound_42 hO.1.ob0 rfl ?_
          refine jg_iload_n dX11_sound_45 rfl ?_
          refine jg_iload_n dX11_sound_46 rfl ?_
          refine jg_iload_n dX11_sound_47 rfl ?_
          refine jg_aload_n dX11_sound_48 rfl ?_
          refine cs_get (s := s) (w := .ref (o + 10)) fl_X11_27 dX11_sound_49 hO.ob0 rfl ?_
          refine cs_get (s := s) (w := .int (s.1 (o + 10) 0)) fl_X11_49 dX11_sound_52 hO.1.ob0 rfl ?_
          obtain ⟨x20, e_x20, h⟩ := bd_some h
          refine cs_call (q := (o + 21)) (As := [.int a1, .int a2, .int a3, .int (s.1 (o + 10) 0)]) kv_X11_116 dX11_sound_55 (hO.1.ob 11 (by decide) rfl) rfl rfl (by decide) (Nat.le_of_ble_eq_true rfl) rfl (by decide) (Nat.le_of_ble_eq_true rfl) (t_X10_tell F τ n (o + 10) s a1 a2 a3 (s.1 (o + 10) 0) hO.1 e_x20) ?_
          obtain rfl := Sum.inl.inj (Option.some.inj h)
          exact jg_ireturn dX11_sound_58 rfl ⟨rfl, rfl⟩
        · replace h := se_r h
          cases h
  · replace h := se_r h
    cases h
set_option maxHeartbeats 4000000 in
theorem x_X11_sound {Γ : jg_G} {g : Nat → jg_C} (F : Nat) (τ : cT) (n : Nat) (o : Nat) (s : cS) (a1 : Int32) (a2 : Int32) (a3 : Int32) (hO : Sh τ n o) (hn : n < 1000000) (hT : τ n = .inr (8, 0)) {z : Nat × cS} (h : o_X11_sound F τ n o s a1 a2 a3 = some (.inr z)) : jc Γ mX11_sound 8 1 6 [some (.ref o), some (.int a1), some (.int a2), some (.int a3)] (ct_h g τ s, n) (.inr (exn z.1)) (ct_h (gx g n) τ z.2, n + 1) := by
  refine jc_of ?_
  rw [o_X11_sound] at h
  refine jg_iload_n dX11_sound_0 rfl ?_
  obtain ⟨x1, e_x1, h⟩ := bd_some h
  rcases x1 with y2 | z3
  · replace h := se_l h
    refine cs_callS (As := [.int a1]) ks_X11_38 dX11_sound_1 rfl (by decide) (Nat.le_of_ble_eq_true rfl) rfl (by decide) (Nat.le_of_ble_eq_true rfl) (t_X11_needCell τ n s a1 e_x1) ?_
    refine jg_iload_n dX11_sound_4 rfl ?_
    refine jg_iconst (v := nI 0) dX11_sound_5 (by decide) ?_
    refine jg_aload_n dX11_sound_6 rfl ?_
    refine cs_get (s := s) (w := .ref (o + 10)) fl_X11_27 dX11_sound_7 hO.ob0 rfl ?_
    obtain ⟨x4, e_x4, h⟩ := bd_some h
    refine cs_call (q := (o + 10)) (As := []) kv_X11_71 dX11_sound_10 hO.1.ob0 rfl rfl (by decide) (Nat.le_of_ble_eq_true rfl) rfl (by decide) (Nat.le_of_ble_eq_true rfl) (t_X2_today τ n (o + 10) s hO.1 e_x4) ?_
    obtain ⟨x5, e_x5, h⟩ := bd_some h
    refine cs_callS (As := [.int a2, .int (nI 0), .int x4]) ks_X11_41 dX11_sound_13 rfl (by decide) (Nat.le_of_ble_eq_true rfl) rfl (by decide) (Nat.le_of_ble_eq_true rfl) (t_X11_within τ n s a2 (nI 0) x4 e_x5) ?_
    refine jg_if_eq (x := x5) (tgt := 34) dX11_sound_16 (by decide) (fun c6 => ?_) (fun c6 => ?_)
    · replace h := it_t c6 h
      refine jg_iconst (v := nI 0) dX11_sound_34 (by decide) ?_
      obtain ⟨x7, e_x7, h⟩ := bd_some h
      rcases x7 with y8 | z9
      · replace h := se_l h
        refine cs_callS (As := [.int (nI 0)]) ks_X11_45 dX11_sound_35 rfl (by decide) (Nat.le_of_ble_eq_true rfl) rfl (by decide) (Nat.le_of_ble_eq_true rfl) (t_X11_needArgument τ n s (nI 0) e_x7) ?_
        refine jg_aload_n dX11_sound_38 rfl ?_
        refine cs_get (s := s) (w := .ref (o + 10)) fl_X11_27 dX11_sound_39 hO.ob0 rfl ?_
        refine cs_get (s := s) (w := .ref (o + 21)) fl_X11_112 dX11_sound_42 hO.1.ob0 rfl ?_
        refine jg_iload_n dX11_sound_45 rfl ?_
        refine jg_iload_n dX11_sound_46 rfl ?_
        refine jg_iload_n dX11_sound_47 rfl ?_
        refine jg_aload_n dX11_sound_48 rfl ?_
        refine cs_get (s := s) (w := .ref (o + 10)) fl_X11_27 dX11_sound_49 hO.ob0 rfl ?_
        refine cs_get (s := s) (w := .int (s.1 (o + 10) 0)) fl_X11_49 dX11_sound_52 hO.1.ob0 rfl ?_
        obtain ⟨x10, e_x10, h⟩ := bd_some h
        refine cs_call (q := (o + 21)) (As := [.int a1, .int a2, .int a3, .int (s.1 (o + 10) 0)]) kv_X11_116 dX11_sound_55 (hO.1.ob 11 (by decide) rfl) rfl rfl (by decide) (Nat.le_of_ble_eq_true rfl) rfl (by decide) (Nat.le_of_ble_eq_true rfl) (t_X10_tell F τ n (o + 10) s a1 a2 a3 (s.1 (o + 10) 0) hO.1 e_x10) ?_
        cases h
      · replace h := se_r h
        obtain rfl := Sum.inr.inj (Option.some.inj h)
        exact jc_SX (As := [.int (nI 0)]) ks_X11_45 dX11_sound_35 rfl (by decide) (Nat.le_of_ble_eq_true rfl) rfl (by decide) (Nat.le_refl _) (Nat.le_refl _) (Nat.le_of_ble_eq_true rfl) (x_X11_needArgument τ n s (nI 0) hn hT e_x7) ⟨rfl, rfl⟩
    · replace h := it_f c6 h
      refine jg_iload_n dX11_sound_19 rfl ?_
      refine jg_iconst (v := nI 0) dX11_sound_20 (by decide) ?_
      refine jg_sipush (v := nI 250) dX11_sound_21 (by decide) ?_
      obtain ⟨x11, e_x11, h⟩ := bd_some h
      refine cs_callS (As := [.int a3, .int (nI 0), .int (nI 250)]) ks_X11_41 dX11_sound_24 rfl (by decide) (Nat.le_of_ble_eq_true rfl) rfl (by decide) (Nat.le_of_ble_eq_true rfl) (t_X11_within τ n s a3 (nI 0) (nI 250) e_x11) ?_
      refine jg_if_eq (x := x11) (tgt := 34) dX11_sound_27 (by decide) (fun c12 => ?_) (fun c12 => ?_)
      · replace h := it_t c12 h
        refine jg_iconst (v := nI 0) dX11_sound_34 (by decide) ?_
        obtain ⟨x13, e_x13, h⟩ := bd_some h
        rcases x13 with y14 | z15
        · replace h := se_l h
          refine cs_callS (As := [.int (nI 0)]) ks_X11_45 dX11_sound_35 rfl (by decide) (Nat.le_of_ble_eq_true rfl) rfl (by decide) (Nat.le_of_ble_eq_true rfl) (t_X11_needArgument τ n s (nI 0) e_x13) ?_
          refine jg_aload_n dX11_sound_38 rfl ?_
          refine cs_get (s := s) (w := .ref (o + 10)) fl_X11_27 dX11_sound_39 hO.ob0 rfl ?_
          refine cs_get (s := s) (w := .ref (o + 21)) fl_X11_112 dX11_sound_42 hO.1.ob0 rfl ?_
          refine jg_iload_n dX11_sound_45 rfl ?_
          refine jg_iload_n dX11_sound_46 rfl ?_
          refine jg_iload_n dX11_sound_47 rfl ?_
          refine jg_aload_n dX11_sound_48 rfl ?_
          refine cs_get (s := s) (w := .ref (o + 10)) fl_X11_27 dX11_sound_49 hO.ob0 rfl ?_
          refine cs_get (s := s) (w := .int (s.1 (o + 10) 0)) fl_X11_49 dX11_sound_52 hO.1.ob0 rfl ?_
          obtain ⟨x16, e_x16, h⟩ := bd_some h
          refine cs_call (q := (o + 21)) (As := [.int a1, .int a2, .int a3, .int (s.1 (o + 10) 0)]) kv_X11_116 dX11_sound_55 (hO.1.ob 11 (by decide) rfl) rfl rfl (by decide) (Nat.le_of_ble_eq_true rfl) rfl (by decide) (Nat.le_of_ble_eq_true rfl) (t_X10_tell F τ n (o + 10) s a1 a2 a3 (s.1 (o + 10) 0) hO.1 e_x16) ?_
          cases h
        · replace h := se_r h
          obtain rfl := Sum.inr.inj (Option.some.inj h)
          exact jc_SX (As := [.int (nI 0)]) ks_X11_45 dX11_sound_35 rfl (by decide) (Nat.le_of_ble_eq_true rfl) rfl (by decide) (Nat.le_refl _) (Nat.le_refl _) (Nat.le_of_ble_eq_true rfl) (x_X11_needArgument τ n s (nI 0) hn hT e_x13) ⟨rfl, rfl⟩
      · replace h := it_f c12 h
        refine jg_iconst (v := nI 1) dX11_sound_30 (by decide) ?_
        refine jg_goto (tgt := 35) dX11_sound_31 (by decide) ?_
        obtain ⟨x17, e_x17, h⟩ := bd_some h
        rcases x17 with y18 | z19
        · replace h := se_l h
          refine cs_callS (As := [.int (nI 1)]) ks_X11_45 dX11_sound_35 rfl (by decide) (Nat.le_of_ble_eq_true rfl) rfl (by decide) (Nat.le_of_ble_eq_true rfl) (t_X11_needArgument τ n s (nI 1) e_x17) ?_
          refine jg_aload_n dX11_sound_38 rfl ?_
          refine cs_get (s := s) (w := .ref (o + 10)) fl_X11_27 dX11_sound_39 hO.ob0 rfl ?_
          refine cs_get (s := s) (w := .ref (o + 21)) fl_X11_112 dX11_sound_42 hO.1.ob0 rfl ?_
          refine jg_iload_n dX11_sound_45 rfl ?_
          refine jg_iload_n dX11_sound_46 rfl ?_
          refine jg_iload_n dX11_sound_47 rfl ?_
          refine jg_aload_n dX11_sound_48 rfl ?_
          refine cs_get (s := s) (w := .ref (o + 10)) fl_X11_27 dX11_sound_49 hO.ob0 rfl ?_
          refine cs_get (s := s) (w := .int (s.1 (o + 10) 0)) fl_X11_49 dX11_sound_52 hO.1.ob0 rfl ?_
          obtain ⟨x20, e_x20, h⟩ := bd_some h
          refine cs_call (q := (o + 21)) (As := [.int a1, .int a2, .int a3, .int (s.1 (o + 10) 0)]) kv_X11_116 dX11_sound_55 (hO.1.ob 11 (by decide) rfl) rfl rfl (by decide) (Nat.le_of_ble_eq_true rfl) rfl (by decide) (Nat.le_of_ble_eq_true rfl) (t_X10_tell F τ n (o + 10) s a1 a2 a3 (s.1 (o + 10) 0) hO.1 e_x20) ?_
          cases h
        · replace h := se_r h
          obtain rfl := Sum.inr.inj (Option.some.inj h)
          exact jc_SX (As := [.int (nI 1)]) ks_X11_45 dX11_sound_35 rfl (by decide) (Nat.le_of_ble_eq_true rfl) rfl (by decide) (Nat.le_refl _) (Nat.le_refl _) (Nat.le_of_ble_eq_true rfl) (x_X11_needArgument τ n s (nI 1) hn hT e_x17) ⟨rfl, rfl⟩
  · replace h := se_r h
    obtain rfl := Sum.inr.inj (Option.some.inj h)
    exact jc_SX (As := [.int a1]) ks_X11_38 dX11_sound_1 rfl (by decide) (Nat.le_of_ble_eq_true rfl) rfl (by decide) (Nat.le_refl _) (Nat.le_refl _) (Nat.le_of_ble_eq_true rfl) (x_X11_needCell τ n s a1 hn hT e_x1) ⟨rfl, rfl⟩
theorem dX11_known_0 : decode cX11_known 0 = .ok (.iload_n 1, 1) := by decide +kernel
theorem dX11_known_1 : decode cX11_known 1 = .ok (.invokestatic 38, 3) := by decide +kernel
theorem dX11_known_4 : decode cX11_known 4 = .ok (.aload_n 0, 1) := by decide +kernel
theorem dX11_known_5 : decode cX11_known 5 = .ok (.getfield 27, 3) := by decide +kernel
theorem dX11_known_8 : decode cX11_known 8 = .ok (.iload_n 1, 1) := by decide +kernel
theorem dX11_known_9 : decode cX11_known 9 = .ok (.iload_n 2, 1) := by decide +kernel
theorem dX11_known_10 : decode cX11_known 10 = .ok (.invokevirtual 102, 3) := by decide +kernel
theorem dX11_known_13 : decode cX11_known 13 = .ok (.ireturn, 1) := by decide +kernel
noncomputable def o_X11_known (F : Nat) (τ : cT) (n : Nat) (o : Nat) (s : cS) (a1 : Int32) (a2 : Int32) : Option ((Int32) ⊕ (Nat)) := (o_X11_needCell τ n s a1).bind fun x1 => (Sum.elim (fun y2 => (o_X2_depthAsOf F τ n (o + 10) s a1 a2).bind fun x4 => (some (.inl x4))) (fun z3 => some (.inr z3)) x1)
set_option maxHeartbeats 4000000 in
theorem t_X11_known {Γ : jg_G} {g : Nat → jg_C} (F : Nat) (τ : cT) (n : Nat) (o : Nat) (s : cS) (a1 : Int32) (a2 : Int32) (hO : Sh τ n o) {x : Int32} (h : o_X11_known F τ n o s a1 a2 = some (.inl x)) : jc Γ mX11_known 8 0 0 [some (.ref o), some (.int a1), some (.int a2)] (ct_h g τ s, n) (.inl (some (.int x))) (ct_h g τ s, n) := by
  refine jc_of ?_
  rw [o_X11_known] at h
  refine jg_iload_n dX11_known_0 rfl ?_
  obtain ⟨x1, e_x1, h⟩ := bd_some h
  rcases x1 with y2 | z3
  · replace h := se_l h
    refine cs_callS (As := [.int a1]) ks_X11_38 dX11_known_1 rfl (by decide) (Nat.le_of_ble_eq_true rfl) rfl (by decide) (Nat.le_of_ble_eq_true rfl) (t_X11_needCell τ n s a1 e_x1) ?_
    refine jg_aload_n dX11_known_4 rfl ?_
    refine cs_get (s := s) (w := .ref (o + 10)) fl_X11_27 dX11_known_5 hO.ob0 rfl ?_
    refine jg_iload_n dX11_known_8 rfl ?_
    refine jg_iload_n dX11_known_9 rfl ?_
    obtain ⟨x4, e_x4, h⟩ := bd_some h
    refine cs_call (q := (o + 10)) (As := [.int a1, .int a2]) kv_X11_102 dX11_known_10 hO.1.ob0 rfl rfl (by decide) (Nat.le_of_ble_eq_true rfl) rfl (by decide) (Nat.le_of_ble_eq_true rfl) (t_X2_depthAsOf F τ n (o + 10) s a1 a2 hO.1 e_x4) ?_
    obtain rfl := Sum.inl.inj (Option.some.inj h)
    exact jg_ireturn dX11_known_13 rfl ⟨rfl, rfl⟩
  · replace h := se_r h
    cases h
set_option maxHeartbeats 4000000 in
theorem x_X11_known {Γ : jg_G} {g : Nat → jg_C} (F : Nat) (τ : cT) (n : Nat) (o : Nat) (s : cS) (a1 : Int32) (a2 : Int32) (hO : Sh τ n o) (hn : n < 1000000) (hT : τ n = .inr (8, 0)) {z : Nat} (h : o_X11_known F τ n o s a1 a2 = some (.inr z)) : jc Γ mX11_known 8 1 6 [some (.ref o), some (.int a1), some (.int a2)] (ct_h g τ s, n) (.inr (exn z)) (ct_h (gx g n) τ s, n + 1) := by
  refine jc_of ?_
  rw [o_X11_known] at h
  refine jg_iload_n dX11_known_0 rfl ?_
  obtain ⟨x1, e_x1, h⟩ := bd_some h
  rcases x1 with y2 | z3
  · replace h := se_l h
    refine cs_callS (As := [.int a1]) ks_X11_38 dX11_known_1 rfl (by decide) (Nat.le_of_ble_eq_true rfl) rfl (by decide) (Nat.le_of_ble_eq_true rfl) (t_X11_needCell τ n s a1 e_x1) ?_
    refine jg_aload_n dX11_known_4 rfl ?_
    refine cs_get (s := s) (w := .ref (o + 10)) fl_X11_27 dX11_known_5 hO.ob0 rfl ?_
    refine jg_iload_n dX11_known_8 rfl ?_
    refine jg_iload_n dX11_known_9 rfl ?_
    obtain ⟨x4, e_x4, h⟩ := bd_some h
    refine cs_call (q := (o + 10)) (As := [.int a1, .int a2]) kv_X11_102 dX11_known_10 hO.1.ob0 rfl rfl (by decide) (Nat.le_of_ble_eq_true rfl) rfl (by decide) (Nat.le_of_ble_eq_true rfl) (t_X2_depthAsOf F τ n (o + 10) s a1 a2 hO.1 e_x4) ?_
    cases h
  · replace h := se_r h
    obtain rfl := Sum.inr.inj (Option.some.inj h)
    exact jc_SX (As := [.int a1]) ks_X11_38 dX11_known_1 rfl (by decide) (Nat.le_of_ble_eq_true rfl) rfl (by decide) (Nat.le_refl _) (Nat.le_refl _) (Nat.le_of_ble_eq_true rfl) (x_X11_needCell τ n s a1 hn hT e_x1) ⟨rfl, rfl⟩
theorem dX11_berth_0 : decode cX11_berth 0 = .ok (.iload_n 1, 1) := by decide +kernel
theorem dX11_berth_1 : decode cX11_berth 1 = .ok (.invokestatic 38, 3) := by decide +kernel
theorem dX11_berth_4 : decode cX11_berth 4 = .ok (.iload_n 2, 1) := by decide +kernel
theorem dX11_berth_5 : decode cX11_berth 5 = .ok (.iconst 1, 1) := by decide +kernel
theorem dX11_berth_6 : decode cX11_berth 6 = .ok (.sipush 900, 3) := by decide +kernel
theorem dX11_berth_9 : decode cX11_berth 9 = .ok (.invokestatic 41, 3) := by decide +kernel
theorem dX11_berth_12 : decode cX11_berth 12 = .ok (.ifCond .eq 29, 3) := by decide +kernel
theorem dX11_berth_15 : decode cX11_berth 15 = .ok (.iload_n 3, 1) := by decide +kernel
theorem dX11_berth_16 : decode cX11_berth 16 = .ok (.iconst 1, 1) := by decide +kernel
theorem dX11_berth_17 : decode cX11_berth 17 = .ok (.sipush 500, 3) := by decide +kernel
theorem dX11_berth_20 : decode cX11_berth 20 = .ok (.invokestatic 41, 3) := by decide +kernel
theorem dX11_berth_23 : decode cX11_berth 23 = .ok (.ifCond .eq 18, 3) := by decide +kernel
theorem dX11_berth_26 : decode cX11_berth 26 = .ok (.iload 4, 2) := by decide +kernel
theorem dX11_berth_28 : decode cX11_berth 28 = .ok (.iconst 1, 1) := by decide +kernel
theorem dX11_berth_29 : decode cX11_berth 29 = .ok (.ldc 122, 2) := by decide +kernel
theorem dX11_berth_31 : decode cX11_berth 31 = .ok (.invokestatic 41, 3) := by decide +kernel
theorem dX11_berth_34 : decode cX11_berth 34 = .ok (.ifCond .eq 7, 3) := by decide +kernel
theorem dX11_berth_37 : decode cX11_berth 37 = .ok (.iconst 1, 1) := by decide +kernel
theorem dX11_berth_38 : decode cX11_berth 38 = .ok (.goto 4, 3) := by decide +kernel
theorem dX11_berth_41 : decode cX11_berth 41 = .ok (.iconst 0, 1) := by decide +kernel
theorem dX11_berth_42 : decode cX11_berth 42 = .ok (.invokestatic 45, 3) := by decide +kernel
theorem dX11_berth_45 : decode cX11_berth 45 = .ok (.aload_n 0, 1) := by decide +kernel
theorem dX11_berth_46 : decode cX11_berth 46 = .ok (.getfield 27, 3) := by decide +kernel
theorem dX11_berth_49 : decode cX11_berth 49 = .ok (.getfield 123, 3) := by decide +kernel
theorem dX11_berth_52 : decode cX11_berth 52 = .ok (.getfield 127, 3) := by decide +kernel
theorem dX11_berth_55 : decode cX11_berth 55 = .ok (.bipush 10, 2) := by decide +kernel
theorem dX11_berth_57 : decode cX11_berth 57 = .ok (.invokestatic 82, 3) := by decide +kernel
theorem dX11_berth_60 : decode cX11_berth 60 = .ok (.aload_n 0, 1) := by decide +kernel
theorem dX11_berth_61 : decode cX11_berth 61 = .ok (.getfield 27, 3) := by decide +kernel
theorem dX11_berth_64 : decode cX11_berth 64 = .ok (.getfield 123, 3) := by decide +kernel
theorem dX11_berth_67 : decode cX11_berth 67 = .ok (.iload_n 1, 1) := by decide +kernel
theorem dX11_berth_68 : decode cX11_berth 68 = .ok (.iload_n 2, 1) := by decide +kernel
theorem dX11_berth_69 : decode cX11_berth 69 = .ok (.iload_n 3, 1) := by decide +kernel
theorem dX11_berth_70 : decode cX11_berth 70 = .ok (.iload 4, 2) := by decide +kernel
theorem dX11_berth_72 : decode cX11_berth 72 = .ok (.invokevirtual 132, 3) := by decide +kernel
theorem dX11_berth_75 : decode cX11_berth 75 = .ok (.ireturn, 1) := by decide +kernel
noncomputable def o_X11_berth (τ : cT) (n : Nat) (o : Nat) (s : cS) (a1 : Int32) (a2 : Int32) (a3 : Int32) (a4 : Int32) : Option ((Int32 × cS) ⊕ (Nat × cS)) := (o_X11_needCell τ n s a1).bind fun x1 => (Sum.elim (fun y2 => (o_X11_within τ n s a2 (nI 1) (nI 900)).bind fun x4 => (if x4 = 0 then ((o_X11_needArgument τ n s (nI 0)).bind fun x6 => (Sum.elim (fun y7 => (o_X11_needRoom τ n s (s.1 (o + 37) 1) (nI 10)).bind fun x9 => (Sum.elim (fun y10 => (o_X5_addBerth τ n (o + 10) s a1 a2 a3 a4).bind fun x12 => (some (.inl (x12.1, x12.2)))) (fun z11 => some (.inr (z11, s))) x9)) (fun z8 => some (.inr (z8, s))) x6)) else ((o_X11_within τ n s a3 (nI 1) (nI 500)).bind fun x13 => (if x13 = 0 then ((o_X11_needArgument τ n s (nI 0)).bind fun x15 => (Sum.elim (fun y16 => (o_X11_needRoom τ n s (s.1 (o + 37) 1) (nI 10)).bind fun x18 => (Sum.elim (fun y19 => (o_X5_addBerth τ n (o + 10) s a1 a2 a3 a4).bind fun x21 => (some (.inl (x21.1, x21.2)))) (fun z20 => some (.inr (z20, s))) x18)) (fun z17 => some (.inr (z17, s))) x15)) else ((o_X11_within τ n s a4 (nI 1) (nI 50000)).bind fun x22 => (if x22 = 0 then ((o_X11_needArgument τ n s (nI 0)).bind fun x24 => (Sum.elim (fun y25 => (o_X11_needRoom τ n s (s.1 (o + 37) 1) (nI 10)).bind fun x27 => (Sum.elim (fun y28 => (o_X5_addBerth τ n (o + 10) s a1 a2 a3 a4).bind fun x30 => (some (.inl (x30.1, x30.2)))) (fun z29 => some (.inr (z29, s))) x27)) (fun z26 => some (.inr (z26, s))) x24)) else ((o_X11_needArgument τ n s (nI 1)).bind fun x31 => (Sum.elim (fun y32 => (o_X11_needRoom τ n s (s.1 (o + 37) 1) (nI 10)).bind fun x34 => (Sum.elim (fun y35 => (o_X5_addBerth τ n (o + 10) s a1 a2 a3 a4).bind fun x37 => (some (.inl (x37.1, x37.2)))) (fun z36 => some (.inr (z36, s))) x34)) (fun z33 => some (.inr (z33, s))) x31)))))))) (fun z3 => some (.inr (z3, s))) x1)
set_option maxHeartbeats 4000000 in
theorem t_X11_berth {Γ : jg_G} {g : Nat → jg_C} (τ : cT) (n : Nat) (o : Nat) (s : cS) (a1 : Int32) (a2 : Int32) (a3 : Int32) (a4 : Int32) (hO : Sh τ n o) {x : Int32 × cS} (h : o_X11_berth τ n o s a1 a2 a3 a4 = some (.inl x)) : jc Γ mX11_berth 8 0 0 [some (.ref o), some (.int a1), some (.int a2), some (.int a3), some (.int a4)] (ct_h g τ s, n) (.inl (some (.int x.1))) (ct_h g τ x.2, n) := by
  refine jc_of ?_
  rw [o_X11_berth] at h
  refine jg_iload_n dX11_berth_0 rfl ?_
  obtain ⟨x1, e_x1, h⟩ := bd_some h
  rcases x1 with y2 | z3
  · replace h := se_l h
    refine cs_callS (As := [.int a1]) ks_X11_38 dX11_berth_1 rfl (by decide) (Nat.le_of_ble_eq_true rfl) rfl (by decide) (Nat.le_of_ble_eq_true rfl) (t_X11_needCell τ n s a1 e_x1) ?_
    refine jg_iload_n dX11_berth_4 rfl ?_
    refine jg_iconst (v := nI 1) dX11_berth_5 (by decide) ?_
    refine jg_sipush (v := nI 900) dX11_berth_6 (by decide) ?_
    obtain ⟨x4, e_x4, h⟩ := bd_some h
    refine cs_callS (As := [.int a2, .int (nI 1), .int (nI 900)]) ks_X11_41 dX11_berth_9 rfl (by decide) (Nat.le_of_ble_eq_true rfl) rfl (by decide) (Nat.le_of_ble_eq_true rfl) (t_X11_within τ n s a2 (nI 1) (nI 900) e_x4) ?_
    refine jg_if_eq (x := x4) (tgt := 41) dX11_berth_12 (by decide) (fun c5 => ?_) (fun c5 => ?_)
    · replace h := it_t c5 h
      refine jg_iconst (v := nI 0) dX11_berth_41 (by decide) ?_
      obtain ⟨x6, e_x6, h⟩ := bd_some h
      rcases x6 with y7 | z8
      · replace h := se_l h
        refine cs_callS (As := [.int (nI 0)]) ks_X11_45 dX11_berth_42 rfl (by decide) (Nat.le_of_ble_eq_true rfl) rfl (by decide) (Nat.le_of_ble_eq_true rfl) (t_X11_needArgument τ n s (nI 0) e_x6) ?_
        refine jg_aload_n dX11_berth_45 rfl ?_
        refine cs_get (s := s) (w := .ref (o + 10)) fl_X11_27 dX11_berth_46 hO.ob0 rfl ?_
        refine cs_get (s := s) (w := .ref (o + 37)) fl_X11_123 dX11_berth_49 hO.1.ob0 rfl ?_
        refine cs_get (s := s) (w := .int (s.1 (o + 37) 1)) fl_X11_127 dX11_berth_52 (hO.1.ob 27 (by decide) rfl) rfl ?_
        refine jg_bipush (v := nI 10) dX11_berth_55 (by decide) ?_
        obtain ⟨x9, e_x9, h⟩ := bd_some h
        rcases x9 with y10 | z11
        · replace h := se_l h
          refine cs_callS (As := [.int (s.1 (o + 37) 1), .int (nI 10)]) ks_X11_82 dX11_berth_57 rfl (by decide) (Nat.le_of_ble_eq_true rfl) rfl (by decide) (Nat.le_of_ble_eq_true rfl) (t_X11_needRoom τ n s (s.1 (o + 37) 1) (nI 10) e_x9) ?_
          refine jg_aload_n dX11_berth_60 rfl ?_
          refine cs_get (s := s) (w := .ref (o + 10)) fl_X11_27 dX11_berth_61 hO.ob0 rfl ?_
          refine cs_get (s := s) (w := .ref (o + 37)) fl_X11_123 dX11_berth_64 hO.1.ob0 rfl ?_
          refine jg_iload_n dX11_berth_67 rfl ?_
          refine jg_iload_n dX11_berth_68 rfl ?_
          refine jg_iload_n dX11_berth_69 rfl ?_
          refine jg_iload dX11_berth_70 rfl ?_
          obtain ⟨x12, e_x12, h⟩ := bd_some h
          refine cs_call (q := (o + 37)) (As := [.int a1, .int a2, .int a3, .int a4]) kv_X11_132 dX11_berth_72 (hO.1.ob 27 (by decide) rfl) rfl rfl (by decide) (Nat.le_of_ble_eq_true rfl) rfl (by decide) (Nat.le_of_ble_eq_true rfl) (t_X5_addBerth τ n (o + 10) s a1 a2 a3 a4 hO.1 e_x12) ?_
          obtain rfl := Sum.inl.inj (Option.some.inj h)
          exact jg_ireturn dX11_berth_75 rfl ⟨rfl, rfl⟩
        · replace h := se_r h
          cases h
      · replace h := se_r h
        cases h
    · replace h := it_f c5 h
      refine jg_iload_n dX11_berth_15 rfl ?_
      refine jg_iconst (v := nI 1) dX11_berth_16 (by decide) ?_
      refine jg_sipush (v := nI 500) dX11_berth_17 (by decide) ?_
      obtain ⟨x13, e_x13, h⟩ := bd_some h
      refine cs_callS (As := [.int a3, .int (nI 1), .int (nI 500)]) ks_X11_41 dX11_berth_20 rfl (by decide) (Nat.le_of_ble_eq_true rfl) rfl (by decide) (Nat.le_of_ble_eq_true rfl) (t_X11_within τ n s a3 (nI 1) (nI 500) e_x13) ?_
      refine jg_if_eq (x := x13) (tgt := 41) dX11_berth_23 (by decide) (fun c14 => ?_) (fun c14 => ?_)
      · replace h := it_t c14 h
        refine jg_iconst (v := nI 0) dX11_berth_41 (by decide) ?_
        obtain ⟨x15, e_x15, h⟩ := bd_some h
        rcases x15 with y16 | z17
        · replace h := se_l h
          refine cs_callS (As := [.int (nI 0)]) ks_X11_45 dX11_berth_42 rfl (by decide) (Nat.le_of_ble_eq_true rfl) rfl (by decide) (Nat.le_of_ble_eq_true rfl) (t_X11_needArgument τ n s (nI 0) e_x15) ?_
          refine jg_aload_n dX11_berth_45 rfl ?_
          refine cs_get (s := s) (w := .ref (o + 10)) fl_X11_27 dX11_berth_46 hO.ob0 rfl ?_
          refine cs_get (s := s) (w := .ref (o + 37)) fl_X11_123 dX11_berth_49 hO.1.ob0 rfl ?_
          refine cs_get (s := s) (w := .int (s.1 (o + 37) 1)) fl_X11_127 dX11_berth_52 (hO.1.ob 27 (by decide) rfl) rfl ?_
          refine jg_bipush (v := nI 10) dX11_berth_55 (by decide) ?_
          obtain ⟨x18, e_x18, h⟩ := bd_some h
          rcases x18 with y19 | z20
          · replace h := se_l h
            refine cs_callS (As := [.int (s.1 (o + 37) 1), .int (nI 10)]) ks_X11_82 dX11_berth_57 rfl (by decide) (Nat.le_of_ble_eq_true rfl) rfl (by decide) (Nat.le_of_ble_eq_true rfl) (t_X11_needRoom τ n s (s.1 (o + 37) 1) (nI 10) e_x18) ?_
            refine jg_aload_n dX11_berth_60 rfl ?_
            refine cs_get (s := s) (w := .ref (o + 10)) fl_X11_27 dX11_berth_61 hO.ob0 rfl ?_
            refine cs_get (s := s) (w := .ref (o + 37)) fl_X11_123 dX11_berth_64 hO.1.ob0 rfl ?_
            refine jg_iload_n dX11_berth_67 rfl ?_
            refine jg_iload_n dX11_berth_68 rfl ?_
            refine jg_iload_n dX11_berth_69 rfl ?_
            refine jg_iload dX11_berth_70 rfl ?_
            obtain ⟨x21, e_x21, h⟩ := bd_some h
            refine cs_call (q := (o + 37)) (As := [.int a1, .int a2, .int a3, .int a4]) kv_X11_132 dX11_berth_72 (hO.1.ob 27 (by decide) rfl) rfl rfl (by decide) (Nat.le_of_ble_eq_true rfl) rfl (by decide) (Nat.le_of_ble_eq_true rfl) (t_X5_addBerth τ n (o + 10) s a1 a2 a3 a4 hO.1 e_x21) ?_
            obtain rfl := Sum.inl.inj (Option.some.inj h)
            exact jg_ireturn dX11_berth_75 rfl ⟨rfl, rfl⟩
          · replace h := se_r h
            cases h
        · replace h := se_r h
          cases h
      · replace h := it_f c14 h
        refine jg_iload dX11_berth_26 rfl ?_
        refine jg_iconst (v := nI 1) dX11_berth_28 (by decide) ?_
        refine jg_ldc kk_X11_122 dX11_berth_29 ?_
        rw [show (50000 : Int32) = nI 50000 from rfl]
        obtain ⟨x22, e_x22, h⟩ := bd_some h
        refine cs_callS (As := [.int a4, .int (nI 1), .int (nI 50000)]) ks_X11_41 dX11_berth_31 rfl (by decide) (Nat.le_of_ble_eq_true rfl) rfl (by decide) (Nat.le_of_ble_eq_true rfl) (t_X11_within τ n s a4 (nI 1) (nI 50000) e_x22) ?_
        refine jg_if_eq (x := x22) (tgt := 41) dX11_berth_34 (by decide) (fun c23 => ?_) (fun c23 => ?_)
        · replace h := it_t c23 h
          refine jg_iconst (v := nI 0) dX11_berth_41 (by decide) ?_
          obtain ⟨x24, e_x24, h⟩ := bd_some h
          rcases x24 with y25 | z26
          · replace h := se_l h
            refine cs_callS (As := [.int (nI 0)]) ks_X11_45 dX11_berth_42 rfl (by decide) (Nat.le_of_ble_eq_true rfl) rfl (by decide) (Nat.le_of_ble_eq_true rfl) (t_X11_needArgument τ n s (nI 0) e_x24) ?_
            refine jg_aload_n dX11_berth_45 rfl ?_
            refine cs_get (s := s) (w := .ref (o + 10)) fl_X11_27 dX11_berth_46 hO.ob0 rfl ?_
            refine cs_get (s := s) (w := .ref (o + 37)) fl_X11_123 dX11_berth_49 hO.1.ob0 rfl ?_
            refine cs_get (s := s) (w := .int (s.1 (o + 37) 1)) fl_X11_127 dX11_berth_52 (hO.1.ob 27 (by decide) rfl) rfl ?_
            refine jg_bipush (v := nI 10) dX11_berth_55 (by decide) ?_
            obtain ⟨x27, e_x27, h⟩ := bd_some h
            rcases x27 with y28 | z29
            · replace h := se_l h
              refine cs_callS (As := [.int (s.1 (o + 37) 1), .int (nI 10)]) ks_X11_82 dX11_berth_57 rfl (by decide) (Nat.le_of_ble_eq_true rfl) rfl (by decide) (Nat.le_of_ble_eq_true rfl) (t_X11_needRoom τ n s (s.1 (o + 37) 1) (nI 10) e_x27) ?_
              refine jg_aload_n dX11_berth_60 rfl ?_
              refine cs_get (s := s) (w := .ref (o + 10)) fl_X11_27 dX11_berth_61 hO.ob0 rfl ?_
              refine cs_get (s := s) (w := .ref (o + 37)) fl_X11_123 dX11_berth_64 hO.1.ob0 rfl ?_
              refine jg_iload_n dX11_berth_67 rfl ?_
              refine jg_iload_n dX11_berth_68 rfl ?_
              refine jg_iload_n dX11_berth_69 rfl ?_
              refine jg_iload dX11_berth_70 rfl ?_
              obtain ⟨x30, e_x30, h⟩ := bd_some h
              refine cs_call (q := (o + 37)) (As := [.int a1, .int a2, .int a3, .int a4]) kv_X11_132 dX11_berth_72 (hO.1.ob 27 (by decide) rfl) rfl rfl (by decide) (Nat.le_of_ble_eq_true rfl) rfl (by decide) (Nat.le_of_ble_eq_true rfl) (t_X5_addBerth τ n (o + 10) s a1 a2 a3 a4 hO.1 e_x30) ?_
              obtain rfl := Sum.inl.inj (Option.some.inj h)
              exact jg_ireturn dX11_berth_75 rfl ⟨rfl, rfl⟩
            · replace h := se_r h
              cases h
          · replace h := se_r h
            cases h
        · replace h := it_f c23 h
          refine jg_iconst (v := nI 1) dX11_berth_37 (by decide) ?_
          refine jg_goto (tgt := 42) dX11_berth_38 (by decide) ?_
          obtain ⟨x31, e_x31, h⟩ := bd_some h
          rcases x31 with y32 | z33
          · replace h := se_l h
            refine cs_callS (As := [.int (nI 1)]) ks_X11_45 dX11_berth_42 rfl (by decide) (Nat.le_of_ble_eq_true rfl) rfl (by decide) (Nat.le_of_ble_eq_true rfl) (t_X11_needArgument τ n s (nI 1) e_x31) ?_
            refine jg_aload_n dX11_berth_45 rfl ?_
            refine cs_get (s := s) (w := .ref (o + 10)) fl_X11_27 dX11_berth_46 hO.ob0 rfl ?_
            refine cs_get (s := s) (w := .ref (o + 37)) fl_X11_123 dX11_berth_49 hO.1.ob0 rfl ?_
            refine cs_get (s := s) (w := .int (s.1 (o + 37) 1)) fl_X11_127 dX11_berth_52 (hO.1.ob 27 (by decide) rfl) rfl ?_
            refine jg_bipush (v := nI 10) dX11_berth_55 (by decide) ?_
            obtain ⟨x34, e_x34, h⟩ := bd_some h
            rcases x34 with y35 | z36
            · replace h := se_l h
              refine cs_callS (As := [.int (s.1 (o + 37) 1), .int (nI 10)]) ks_X11_82 dX11_berth_57 rfl (by decide) (Nat.le_of_ble_eq_true rfl) rfl (by decide) (Nat.le_of_ble_eq_true rfl) (t_X11_needRoom τ n s (s.1 (o + 37) 1) (nI 10) e_x34) ?_
              refine jg_aload_n dX11_berth_60 rfl ?_
              refine cs_get (s := s) (w := .ref (o + 10)) fl_X11_27 dX11_berth_61 hO.ob0 rfl ?_
              refine cs_get (s := s) (w := .ref (o + 37)) fl_X11_123 dX11_berth_64 hO.1.ob0 rfl ?_
              refine jg_iload_n dX11_berth_67 rfl ?_
              refine jg_iload_n dX11_berth_68 rfl ?_
              refine jg_iload_n dX11_berth_69 rfl ?_
              refine jg_iload dX11_berth_70 rfl ?_
              obtain ⟨x37, e_x37, h⟩ := bd_some h
              refine cs_call (q := (o + 37)) (As := [.int a1, .int a2, .int a3, .int a4]) kv_X11_132 dX11_berth_72 (hO.1.ob 27 (by decide) rfl) rfl rfl (by decide) (Nat.le_of_ble_eq_true rfl) rfl (by decide) (Nat.le_of_ble_eq_true rfl) (t_X5_addBerth τ n (o + 10) s a1 a2 a3 a4 hO.1 e_x37) ?_
              obtain rfl := Sum.inl.inj (Option.some.inj h)
              exact jg_ireturn dX11_berth_75 rfl ⟨rfl, rfl⟩
            · replace h := se_r h
              cases h
          · replace h := se_r h
            cases h
  · replace h := se_r h
    cases h
set_option maxHeartbeats 4000000 in
theorem x_X11_berth {Γ : jg_G} {g : Nat → jg_C} (τ : cT) (n : Nat) (o : Nat) (s : cS) (a1 : Int32) (a2 : Int32) (a3 : Int32) (a4 : Int32) (hO : Sh τ n o) (hn : n < 1000000) (hT : τ n = .inr (8, 0)) {z : Nat × cS} (h : o_X11_berth τ n o s a1 a2 a3 a4 = some (.inr z)) : jc Γ mX11_berth 8 1 6 [some (.ref o), some (.int a1), some (.int a2), some (.int a3), some (.int a4)] (ct_h g τ s, n) (.inr (exn z.1)) (ct_h (gx g n) τ z.2, n + 1) := by
  refine jc_of ?_
  rw [o_X11_berth] at h
  refine jg_iload_n dX11_berth_0 rfl ?_
  obtain ⟨x1, e_x1, h⟩ := bd_some h
  rcases x1 with y2 | z3
  · replace h := se_l h
    refine cs_callS (As := [.int a1]) ks_X11_38 dX11_berth_1 rfl (by decide) (Nat.le_of_ble_eq_true rfl) rfl (by decide) (Nat.le_of_ble_eq_true rfl) (t_X11_needCell τ n s a1 e_x1) ?_
    refine jg_iload_n dX11_berth_4 rfl ?_
    refine jg_iconst (v := nI 1) dX11_berth_5 (by decide) ?_
    refine jg_sipush (v := nI 900) dX11_berth_6 (by decide) ?_
    obtain ⟨x4, e_x4, h⟩ := bd_some h
    refine cs_callS (As := [.int a2, .int (nI 1), .int (nI 900)]) ks_X11_41 dX11_berth_9 rfl (by decide) (Nat.le_of_ble_eq_true rfl) rfl (by decide) (Nat.le_of_ble_eq_true rfl) (t_X11_within τ n s a2 (nI 1) (nI 900) e_x4) ?_
    refine jg_if_eq (x := x4) (tgt := 41) dX11_berth_12 (by decide) (fun c5 => ?_) (fun c5 => ?_)
    · replace h := it_t c5 h
      refine jg_iconst (v := nI 0) dX11_berth_41 (by decide) ?_
      obtain ⟨x6, e_x6, h⟩ := bd_some h
      rcases x6 with y7 | z8
      · replace h := se_l h
        refine cs_callS (As := [.int (nI 0)]) ks_X11_45 dX11_berth_42 rfl (by decide) (Nat.le_of_ble_eq_true rfl) rfl (by decide) (Nat.le_of_ble_eq_true rfl) (t_X11_needArgument τ n s (nI 0) e_x6) ?_
        refine jg_aload_n dX11_berth_45 rfl ?_
        refine cs_get (s := s) (w := .ref (o + 10)) fl_X11_27 dX11_berth_46 hO.ob0 rfl ?_
        refine cs_get (s := s) (w := .ref (o + 37)) fl_X11_123 dX11_berth_49 hO.1.ob0 rfl ?_
        refine cs_get (s := s) (w := .int (s.1 (o + 37) 1)) fl_X11_127 dX11_berth_52 (hO.1.ob 27 (by decide) rfl) rfl ?_
        refine jg_bipush (v := nI 10) dX11_berth_55 (by decide) ?_
        obtain ⟨x9, e_x9, h⟩ := bd_some h
        rcases x9 with y10 | z11
        · replace h := se_l h
          refine cs_callS (As := [.int (s.1 (o + 37) 1), .int (nI 10)]) ks_X11_82 dX11_berth_57 rfl (by decide) (Nat.le_of_ble_eq_true rfl) rfl (by decide) (Nat.le_of_ble_eq_true rfl) (t_X11_needRoom τ n s (s.1 (o + 37) 1) (nI 10) e_x9) ?_
          refine jg_aload_n dX11_berth_60 rfl ?_
          refine cs_get (s := s) (w := .ref (o + 10)) fl_X11_27 dX11_berth_61 hO.ob0 rfl ?_
          refine cs_get (s := s) (w := .ref (o + 37)) fl_X11_123 dX11_berth_64 hO.1.ob0 rfl ?_
          refine jg_iload_n dX11_berth_67 rfl ?_
          refine jg_iload_n dX11_berth_68 rfl ?_
          refine jg_iload_n dX11_berth_69 rfl ?_
          refine jg_iload dX11_berth_70 rfl ?_
          obtain ⟨x12, e_x12, h⟩ := bd_some h
          refine cs_call (q := (o + 37)) (As := [.int a1, .int a2, .int a3, .int a4]) kv_X11_132 dX11_berth_72 (hO.1.ob 27 (by decide) rfl) rfl rfl (by decide) (Nat.le_of_ble_eq_true rfl) rfl (by decide) (Nat.le_of_ble_eq_true rfl) (t_X5_addBerth τ n (o + 10) s a1 a2 a3 a4 hO.1 e_x12) ?_
          cases h
        · replace h := se_r h
          obtain rfl := Sum.inr.inj (Option.some.inj h)
          exact jc_SX (As := [.int (s.1 (o + 37) 1), .int (nI 10)]) ks_X11_82 dX11_berth_57 rfl (by decide) (Nat.le_of_ble_eq_true rfl) rfl (by decide) (Nat.le_refl _) (Nat.le_refl _) (Nat.le_of_ble_eq_true rfl) (x_X11_needRoom τ n s (s.1 (o + 37) 1) (nI 10) hn hT e_x9) ⟨rfl, rfl⟩
      · replace h := se_r h
        obtain rfl := Sum.inr.inj (Option.some.inj h)
        exact jc_SX (As := [.int (nI 0)]) ks_X11_45 dX11_berth_42 rfl (by decide) (Nat.le_of_ble_eq_true rfl) rfl (by decide) (Nat.le_refl _) (Nat.le_refl _) (Nat.le_of_ble_eq_true rfl) (x_X11_needArgument τ n s (nI 0) hn hT e_x6) ⟨rfl, rfl⟩
    · replace h := it_f c5 h
      refine jg_iload_n dX11_berth_15 rfl ?_
      refine jg_iconst (v := nI 1) dX11_berth_16 (by decide) ?_
      refine jg_sipush (v := nI 500) dX11_berth_17 (by decide) ?_
      obtain ⟨x13, e_x13, h⟩ := bd_some h
      refine cs_callS (As := [.int a3, .int (nI 1), .int (nI 500)]) ks_X11_41 dX11_berth_20 rfl (by decide) (Nat.le_of_ble_eq_true rfl) rfl (by decide) (Nat.le_of_ble_eq_true rfl) (t_X11_within τ n s a3 (nI 1) (nI 500) e_x13) ?_
      refine jg_if_eq (x := x13) (tgt := 41) dX11_berth_23 (by decide) (fun c14 => ?_) (fun c14 => ?_)
      · replace h := it_t c14 h
        refine jg_iconst (v := nI 0) dX11_berth_41 (by decide) ?_
        obtain ⟨x15, e_x15, h⟩ := bd_some h
        rcases x15 with y16 | z17
        · replace h := se_l h
          refine cs_callS (As := [.int (nI 0)]) ks_X11_45 dX11_berth_42 rfl (by decide) (Nat.le_of_ble_eq_true rfl) rfl (by decide) (Nat.le_of_ble_eq_true rfl) (t_X11_needArgument τ n s (nI 0) e_x15) ?_
          refine jg_aload_n dX11_berth_45 rfl ?_
          refine cs_get (s := s) (w := .ref (o + 10)) fl_X11_27 dX11_berth_46 hO.ob0 rfl ?_
          refine cs_get (s := s) (w := .ref (o + 37)) fl_X11_123 dX11_berth_49 hO.1.ob0 rfl ?_
          refine cs_get (s := s) (w := .int (s.1 (o + 37) 1)) fl_X11_127 dX11_berth_52 (hO.1.ob 27 (by decide) rfl) rfl ?_
          refine jg_bipush (v := nI 10) dX11_berth_55 (by decide) ?_
          obtain ⟨x18, e_x18, h⟩ := bd_some h
          rcases x18 with y19 | z20
          · replace h := se_l h
            refine cs_callS (As := [.int (s.1 (o + 37) 1), .int (nI 10)]) ks_X11_82 dX11_berth_57 rfl (by decide) (Nat.le_of_ble_eq_true rfl) rfl (by decide) (Nat.le_of_ble_eq_true rfl) (t_X11_needRoom τ n s (s.1 (o + 37) 1) (nI 10) e_x18) ?_
            refine jg_aload_n dX11_berth_60 rfl ?_
            refine cs_get (s := s) (w := .ref (o + 10)) fl_X11_27 dX11_berth_61 hO.ob0 rfl ?_
            refine cs_get (s := s) (w := .ref (o + 37)) fl_X11_123 dX11_berth_64 hO.1.ob0 rfl ?_
            refine jg_iload_n dX11_berth_67 rfl ?_
            refine jg_iload_n dX11_berth_68 rfl ?_
            refine jg_iload_n dX11_berth_69 rfl ?_
            refine jg_iload dX11_berth_70 rfl ?_
            obtain ⟨x21, e_x21, h⟩ := bd_some h
            refine cs_call (q := (o + 37)) (As := [.int a1, .int a2, .int a3, .int a4]) kv_X11_132 dX11_berth_72 (hO.1.ob 27 (by decide) rfl) rfl rfl (by decide) (Nat.le_of_ble_eq_true rfl) rfl (by decide) (Nat.le_of_ble_eq_true rfl) (t_X5_addBerth τ n (o + 10) s a1 a2 a3 a4 hO.1 e_x21) ?_
            cases h
          · replace h := se_r h
            obtain rfl := Sum.inr.inj (Option.some.inj h)
            exact jc_SX (As := [.int (s.1 (o + 37) 1), .int (nI 10)]) ks_X11_82 dX11_berth_57 rfl (by decide) (Nat.le_of_ble_eq_true rfl) rfl (by decide) (Nat.le_refl _) (Nat.le_refl _) (Nat.le_of_ble_eq_true rfl) (x_X11_needRoom τ n s (s.1 (o + 37) 1) (nI 10) hn hT e_x18) ⟨rfl, rfl⟩
        · replace h := se_r h
          obtain rfl := Sum.inr.inj (Option.some.inj h)
          exact jc_SX (As := [.int (nI 0)]) ks_X11_45 dX11_berth_42 rfl (by decide) (Nat.le_of_ble_eq_true rfl) rfl (by decide) (Nat.le_refl _) (Nat.le_refl _) (Nat.le_of_ble_eq_true rfl) (x_X11_needArgument τ n s (nI 0) hn hT e_x15) ⟨rfl, rfl⟩
      · replace h := it_f c14 h
        refine jg_iload dX11_berth_26 rfl ?_
        refine jg_iconst (v := nI 1) dX11_berth_28 (by decide) ?_
        refine jg_ldc kk_X11_122 dX11_berth_29 ?_
        rw [show (50000 : Int32) = nI 50000 from rfl]
        obtain ⟨x22, e_x22, h⟩ := bd_some h
        refine cs_callS (As := [.int a4, .int (nI 1), .int (nI 50000)]) ks_X11_41 dX11_berth_31 rfl (by decide) (Nat.le_of_ble_eq_true rfl) rfl (by decide) (Nat.le_of_ble_eq_true rfl) (t_X11_within τ n s a4 (nI 1) (nI 50000) e_x22) ?_
        refine jg_if_eq (x := x22) (tgt := 41) dX11_berth_34 (by decide) (fun c23 => ?_) (fun c23 => ?_)
        · replace h := it_t c23 h
          refine jg_iconst (v := nI 0) dX11_berth_41 (by decide) ?_
          obtain ⟨x24, e_x24, h⟩ := bd_some h
          rcases x24 with y25 | z26
          · replace h := se_l h
            refine cs_callS (As := [.int (nI 0)]) ks_X11_45 dX11_berth_42 rfl (by decide) (Nat.le_of_ble_eq_true rfl) rfl (by decide) (Nat.le_of_ble_eq_true rfl) (t_X11_needArgument τ n s (nI 0) e_x24) ?_
            refine jg_aload_n dX11_berth_45 rfl ?_
            refine cs_get (s := s) (w := .ref (o + 10)) fl_X11_27 dX11_berth_46 hO.ob0 rfl ?_
            refine cs_get (s := s) (w := .ref (o + 37)) fl_X11_123 dX11_berth_49 hO.1.ob0 rfl ?_
            refine cs_get (s := s) (w := .int (s.1 (o + 37) 1)) fl_X11_127 dX11_berth_52 (hO.1.ob 27 (by decide) rfl) rfl ?_
            refine jg_bipush (v := nI 10) dX11_berth_55 (by decide) ?_
            obtain ⟨x27, e_x27, h⟩ := bd_some h
            rcases x27 with y28 | z29
            · replace h := se_l h
              refine cs_callS (As := [.int (s.1 (o + 37) 1), .int (nI 10)]) ks_X11_82 dX11_berth_57 rfl (by decide) (Nat.le_of_ble_eq_true rfl) rfl (by decide) (Nat.le_of_ble_eq_true rfl) (t_X11_needRoom τ n s (s.1 (o + 37) 1) (nI 10) e_x27) ?_
              refine jg_aload_n dX11_berth_60 rfl ?_
              refine cs_get (s := s) (w := .ref (o + 10)) fl_X11_27 dX11_berth_61 hO.ob0 rfl ?_
              refine cs_get (s := s) (w := .ref (o + 37)) fl_X11_123 dX11_berth_64 hO.1.ob0 rfl ?_
              refine jg_iload_n dX11_berth_67 rfl ?_
              refine jg_iload_n dX11_berth_68 rfl ?_
              refine jg_iload_n dX11_berth_69 rfl ?_
              refine jg_iload dX11_berth_70 rfl ?_
              obtain ⟨x30, e_x30, h⟩ := bd_some h
              refine cs_call (q := (o + 37)) (As := [.int a1, .int a2, .int a3, .int a4]) kv_X11_132 dX11_berth_72 (hO.1.ob 27 (by decide) rfl) rfl rfl (by decide) (Nat.le_of_ble_eq_true rfl) rfl (by decide) (Nat.le_of_ble_eq_true rfl) (t_X5_addBerth τ n (o + 10) s a1 a2 a3 a4 hO.1 e_x30) ?_
              cases h
            · replace h := se_r h
              obtain rfl := Sum.inr.inj (Option.some.inj h)
              exact jc_SX (As := [.int (s.1 (o + 37) 1), .int (nI 10)]) ks_X11_82 dX11_berth_57 rfl (by decide) (Nat.le_of_ble_eq_true rfl) rfl (by decide) (Nat.le_refl _) (Nat.le_refl _) (Nat.le_of_ble_eq_true rfl) (x_X11_needRoom τ n s (s.1 (o + 37) 1) (nI 10) hn hT e_x27) ⟨rfl, rfl⟩
          · replace h := se_r h
            obtain rfl := Sum.inr.inj (Option.some.inj h)
            exact jc_SX (As := [.int (nI 0)]) ks_X11_45 dX11_berth_42 rfl (by decide) (Nat.le_of_ble_eq_true rfl) rfl (by decide) (Nat.le_refl _) (Nat.le_refl _) (Nat.le_of_ble_eq_true rfl) (x_X11_needArgument τ n s (nI 0) hn hT e_x24) ⟨rfl, rfl⟩
        · replace h := it_f c23 h
          refine jg_iconst (v := nI 1) dX11_berth_37 (by decide) ?_
          refine jg_goto (tgt := 42) dX11_berth_38 (by decide) ?_
          obtain ⟨x31, e_x31, h⟩ := bd_some h
          rcases x31 with y32 | z33
          · replace h := se_l h
            refine cs_callS (As := [.int (nI 1)]) ks_X11_45 dX11_berth_42 rfl (by decide) (Nat.le_of_ble_eq_true rfl) rfl (by decide) (Nat.le_of_ble_eq_true rfl) (t_X11_needArgument τ n s (nI 1) e_x31) ?_
            refine jg_aload_n dX11_berth_45 rfl ?_
            refine cs_get (s := s) (w := .ref (o + 10)) fl_X11_27 dX11_berth_46 hO.ob0 rfl ?_
            refine cs_get (s := s) (w := .ref (o + 37)) fl_X11_123 dX11_berth_49 hO.1.ob0 rfl ?_
            refine cs_get (s := s) (w := .int (s.1 (o + 37) 1)) fl_X11_127 dX11_berth_52 (hO.1.ob 27 (by decide) rfl) rfl ?_
            refine jg_bipush (v := nI 10) dX11_berth_55 (by decide) ?_
            obtain ⟨x34, e_x34, h⟩ := bd_some h
            rcases x34 with y35 | z36
            · replace h := se_l h
              refine cs_callS (As := [.int (s.1 (o + 37) 1), .int (nI 10)]) ks_X11_82 dX11_berth_57 rfl (by decide) (Nat.le_of_ble_eq_true rfl) rfl (by decide) (Nat.le_of_ble_eq_true rfl) (t_X11_needRoom τ n s (s.1 (o + 37) 1) (nI 10) e_x34) ?_
              refine jg_aload_n dX11_berth_60 rfl ?_
              refine cs_get (s := s) (w := .ref (o + 10)) fl_X11_27 dX11_berth_61 hO.ob0 rfl ?_
              refine cs_get (s := s) (w := .ref (o + 37)) fl_X11_123 dX11_berth_64 hO.1.ob0 rfl ?_
              refine jg_iload_n dX11_berth_67 rfl ?_
              refine jg_iload_n dX11_berth_68 rfl ?_
              refine jg_iload_n dX11_berth_69 rfl ?_
              refine jg_iload dX11_berth_70 rfl ?_
              obtain ⟨x37, e_x37, h⟩ := bd_some h
              refine cs_call (q := (o + 37)) (As := [.int a1, .int a2, .int a3, .int a4]) kv_X11_132 dX11_berth_72 (hO.1.ob 27 (by decide) rfl) rfl rfl (by decide) (Nat.le_of_ble_eq_true rfl) rfl (by decide) (Nat.le_of_ble_eq_true rfl) (t_X5_addBerth τ n (o + 10) s a1 a2 a3 a4 hO.1 e_x37) ?_
              cases h
            · replace h := se_r h
              obtain rfl := Sum.inr.inj (Option.some.inj h)
              exact jc_SX (As := [.int (s.1 (o + 37) 1), .int (nI 10)]) ks_X11_82 dX11_berth_57 rfl (by decide) (Nat.le_of_ble_eq_true rfl) rfl (by decide) (Nat.le_refl _) (Nat.le_refl _) (Nat.le_of_ble_eq_true rfl) (x_X11_needRoom τ n s (s.1 (o + 37) 1) (nI 10) hn hT e_x34) ⟨rfl, rfl⟩
          · replace h := se_r h
            obtain rfl := Sum.inr.inj (Option.some.inj h)
            exact jc_SX (As := [.int (nI 1)]) ks_X11_45 dX11_berth_42 rfl (by decide) (Nat.le_of_ble_eq_true rfl) rfl (by decide) (Nat.le_refl _) (Nat.le_refl _) (Nat.le_of_ble_eq_true rfl) (x_X11_needArgument τ n s (nI 1) hn hT e_x31) ⟨rfl, rfl⟩
  · replace h := se_r h
    obtain rfl := Sum.inr.inj (Option.some.inj h)
    exact jc_SX (As := [.int a1]) ks_X11_38 dX11_berth_1 rfl (by decide) (Nat.le_of_ble_eq_true rfl) rfl (by decide) (Nat.le_refl _) (Nat.le_refl _) (Nat.le_of_ble_eq_true rfl) (x_X11_needCell τ n s a1 hn hT e_x1) ⟨rfl, rfl⟩
theorem dX11_hands_0 : decode cX11_hands 0 = .ok (.iload_n 1, 1) := by decide +kernel
theorem dX11_hands_1 : decode cX11_hands 1 = .ok (.iconst 0, 1) := by decide +kernel
theorem dX11_hands_2 : decode cX11_hands 2 = .ok (.bipush 20, 2) := by decide +kernel
theorem dX11_hands_4 : decode cX11_hands 4 = .ok (.invokestatic 41, 3) := by decide +kernel
theorem dX11_hands_7 : decode cX11_hands 7 = .ok (.ifCond .eq 17, 3) := by decide +kernel
theorem dX11_hands_10 : decode cX11_hands 10 = .ok (.iload_n 2, 1) := by decide +kernel
theorem dX11_hands_11 : decode cX11_hands 11 = .ok (.iconst 0, 1) := by decide +kernel
theorem dX11_hands_12 : decode cX11_hands 12 = .ok (.bipush 100, 2) := by decide +kernel
theorem dX11_hands_14 : decode cX11_hands 14 = .ok (.invokestatic 41, 3) := by decide +kernel
theorem dX11_hands_17 : decode cX11_hands 17 = .ok (.ifCond .eq 7, 3) := by decide +kernel
theorem dX11_hands_20 : decode cX11_hands 20 = .ok (.iconst 1, 1) := by decide +kernel
theorem dX11_hands_21 : decode cX11_hands 21 = .ok (.goto 4, 3) := by decide +kernel
theorem dX11_hands_24 : decode cX11_hands 24 = .ok (.iconst 0, 1) := by decide +kernel
theorem dX11_hands_25 : decode cX11_hands 25 = .ok (.invokestatic 45, 3) := by decide +kernel
theorem dX11_hands_28 : decode cX11_hands 28 = .ok (.aload_n 0, 1) := by decide +kernel
theorem dX11_hands_29 : decode cX11_hands 29 = .ok (.getfield 27, 3) := by decide +kernel
theorem dX11_hands_32 : decode cX11_hands 32 = .ok (.getfield 123, 3) := by decide +kernel
theorem dX11_hands_35 : decode cX11_hands 35 = .ok (.iload_n 1, 1) := by decide +kernel
theorem dX11_hands_36 : decode cX11_hands 36 = .ok (.putfield 135, 3) := by decide +kernel
theorem dX11_hands_39 : decode cX11_hands 39 = .ok (.aload_n 0, 1) := by decide +kernel
theorem dX11_hands_40 : decode cX11_hands 40 = .ok (.getfield 27, 3) := by decide +kernel
theorem dX11_hands_43 : decode cX11_hands 43 = .ok (.getfield 123, 3) := by decide +kernel
theorem dX11_hands_46 : decode cX11_hands 46 = .ok (.iload_n 2, 1) := by decide +kernel
theorem dX11_hands_47 : decode cX11_hands 47 = .ok (.putfield 138, 3) := by decide +kernel
theorem dX11_hands_50 : decode cX11_hands 50 = .ok (.return_, 1) := by decide +kernel
noncomputable def o_X11_hands (τ : cT) (n : Nat) (o : Nat) (s : cS) (a1 : Int32) (a2 : Int32) : Option ((cS) ⊕ (Nat × cS)) := (o_X11_within τ n s a1 (nI 0) (nI 20)).bind fun x1 => (if x1 = 0 then ((o_X11_needArgument τ n s (nI 0)).bind fun x3 => (Sum.elim (fun y4 => some (.inl (cp (cp s (o + 37) 4 a1) (o + 37) 5 a2))) (fun z5 => some (.inr (z5, s))) x3)) else ((o_X11_within τ n s a2 (nI 0) (nI 100)).bind fun x6 => (if x6 = 0 then ((o_X11_needArgument τ n s (nI 0)).bind fun x8 => (Sum.elim (fun y9 => some (.inl (cp (cp s (o + 37) 4 a1) (o + 37) 5 a2))) (fun z10 => some (.inr (z10, s))) x8)) else ((o_X11_needArgument τ n s (nI 1)).bind fun x11 => (Sum.elim (fun y12 => some (.inl (cp (cp s (o + 37) 4 a1) (o + 37) 5 a2))) (fun z13 => some (.inr (z13, s))) x11)))))
set_option maxHeartbeats 4000000 in
theorem t_X11_hands {Γ : jg_G} {g : Nat → jg_C} (τ : cT) (n : Nat) (o : Nat) (s : cS) (a1 : Int32) (a2 : Int32) (hO : Sh τ n o) {x : cS} (h : o_X11_hands τ n o s a1 a2 = some (.inl x)) : jc Γ mX11_hands 7 0 0 [some (.ref o), some (.int a1), some (.int a2)] (ct_h g τ s, n) (.inl none) (ct_h g τ x, n) := by
  refine jc_of ?_
  rw [o_X11_hands] at h
  refine jg_iload_n dX11_hands_0 rfl ?_
  refine jg_iconst (v := nI 0) dX11_hands_1 (by decide) ?_
  refine jg_bipush (v := nI 20) dX11_hands_2 (by decide) ?_
  obtain ⟨x1, e_x1, h⟩ := bd_some h
  refine cs_callS (As := [.int a1, .int (nI 0), .int (nI 20)]) ks_X11_41 dX11_hands_4 rfl (by decide) (Nat.le_of_ble_eq_true rfl) rfl (by decide) (Nat.le_of_ble_eq_true rfl) (t_X11_within τ n s a1 (nI 0) (nI 20) e_x1) ?_
  refine jg_if_eq (x := x1) (tgt := 24) dX11_hands_7 (by decide) (fun c2 => ?_) (fun c2 => ?_)
  · replace h := it_t c2 h
    refine jg_iconst (v := nI 0) dX11_hands_24 (by decide) ?_
    obtain ⟨x3, e_x3, h⟩ := bd_some h
    rcases x3 with y4 | z5
    · replace h := se_l h
      refine cs_callS (As := [.int (nI 0)]) ks_X11_45 dX11_hands_25 rfl (by decide) (Nat.le_of_ble_eq_true rfl) rfl (by decide) (Nat.le_of_ble_eq_true rfl) (t_X11_needArgument τ n s (nI 0) e_x3) ?_
      refine jg_aload_n dX11_hands_28 rfl ?_
      refine cs_get (s := s) (w := .ref (o + 10)) fl_X11_27 dX11_hands_29 hO.ob0 rfl ?_
      refine cs_get (s := s) (w := .ref (o + 37)) fl_X11_123 dX11_hands_32 hO.1.ob0 rfl ?_
      refine jg_iload_n dX11_hands_35 rfl ?_
      refine cs_put (s := s) (k := 4) (x := a1) fl_X11_135 dX11_hands_36 (hO.1.ob 27 (by decide) rfl) (ltb rfl) (rfl) rfl rfl ?_
      refine jg_aload_n dX11_hands_39 rfl ?_
      refine cs_get (s := (cp s (o + 37) 4 a1)) (w := .ref (o + 10)) fl_X11_27 dX11_hands_40 hO.ob0 rfl ?_
      refine cs_get (s := (cp s (o + 37) 4 a1)) (w := .ref (o + 37)) fl_X11_123 dX11_hands_43 hO.1.ob0 rfl ?_
      refine jg_iload_n dX11_hands_46 rfl ?_
      refine cs_put (s := (cp s (o + 37) 4 a1)) (k := 5) (x := a2) fl_X11_138 dX11_hands_47 (hO.1.ob 27 (by decide) rfl) (ltb rfl) (rfl) rfl rfl ?_
      obtain rfl := Sum.inl.inj (Option.some.inj h)
      exact jg_return dX11_hands_50 rfl ⟨rfl, rfl⟩
    · replace h := se_r h
      cases h
  · replace h := it_f c2 h
    refine jg_iload_n dX11_hands_10 rfl ?_
    refine jg_iconst (v := nI 0) dX11_hands_11 (by decide) ?_
    refine jg_bipush (v := nI 100) dX11_hands_12 (by decide) ?_
    obtain ⟨x6, e_x6, h⟩ := bd_some h
    refine cs_callS (As := [.int a2, .int (nI 0), .int (nI 100)]) ks_X11_41 dX11_hands_14 rfl (by decide) (Nat.le_of_ble_eq_true rfl) rfl (by decide) (Nat.le_of_ble_eq_true rfl) (t_X11_within τ n s a2 (nI 0) (nI 100) e_x6) ?_
    refine jg_if_eq (x := x6) (tgt := 24) dX11_hands_17 (by decide) (fun c7 => ?_) (fun c7 => ?_)
    · replace h := it_t c7 h
      refine jg_iconst (v := nI 0) dX11_hands_24 (by decide) ?_
      obtain ⟨x8, e_x8, h⟩ := bd_some h
      rcases x8 with y9 | z10
      · replace h := se_l h
        refine cs_callS (As := [.int (nI 0)]) ks_X11_45 dX11_hands_25 rfl (by decide) (Nat.le_of_ble_eq_true rfl) rfl (by decide) (Nat.le_of_ble_eq_true rfl) (t_X11_needArgument τ n s (nI 0) e_x8) ?_
        refine jg_aload_n dX11_hands_28 rfl ?_
        refine cs_get (s := s) (w := .ref (o + 10)) fl_X11_27 dX11_hands_29 hO.ob0 rfl ?_
        refine cs_get (s := s) (w := .ref (o + 37)) fl_X11_123 dX11_hands_32 hO.1.ob0 rfl ?_
        refine jg_iload_n dX11_hands_35 rfl ?_
        refine cs_put (s := s) (k := 4) (x := a1) fl_X11_135 dX11_hands_36 (hO.1.ob 27 (by decide) rfl) (ltb rfl) (rfl) rfl rfl ?_
        refine jg_aload_n dX11_hands_39 rfl ?_
        refine cs_get (s := (cp s (o + 37) 4 a1)) (w := .ref (o + 10)) fl_X11_27 dX11_hands_40 hO.ob0 rfl ?_
        refine cs_get (s := (cp s (o + 37) 4 a1)) (w := .ref (o + 37)) fl_X11_123 dX11_hands_43 hO.1.ob0 rfl ?_
        refine jg_iload_n dX11_hands_46 rfl ?_
        refine cs_put (s := (cp s (o + 37) 4 a1)) (k := 5) (x := a2) fl_X11_138 dX11_hands_47 (hO.1.ob 27 (by decide) rfl) (ltb rfl) (rfl) rfl rfl ?_
        obtain rfl := Sum.inl.inj (Option.some.inj h)
        exact jg_return dX11_hands_50 rfl ⟨rfl, rfl⟩
      · replace h := se_r h
        cases h
    · replace h := it_f c7 h
      refine jg_iconst (v := nI 1) dX11_hands_20 (by decide) ?_
      refine jg_goto (tgt := 25) dX11_hands_21 (by decide) ?_
      obtain ⟨x11, e_x11, h⟩ := bd_some h
      rcases x11 with y12 | z13
      · replace h := se_l h
        refine cs_callS (As := [.int (nI 1)]) ks_X11_45 dX11_hands_25 rfl (by decide) (Nat.le_of_ble_eq_true rfl) rfl (by decide) (Nat.le_of_ble_eq_true rfl) (t_X11_needArgument τ n s (nI 1) e_x11) ?_
        refine jg_aload_n dX11_hands_28 rfl ?_
        refine cs_get (s := s) (w := .ref (o + 10)) fl_X11_27 dX11_hands_29 hO.ob0 rfl ?_
        refine cs_get (s := s) (w := .ref (o + 37)) fl_X11_123 dX11_hands_32 hO.1.ob0 rfl ?_
        refine jg_iload_n dX11_hands_35 rfl ?_
        refine cs_put (s := s) (k := 4) (x := a1) fl_X11_135 dX11_hands_36 (hO.1.ob 27 (by decide) rfl) (ltb rfl) (rfl) rfl rfl ?_
        refine jg_aload_n dX11_hands_39 rfl ?_
        refine cs_get (s := (cp s (o + 37) 4 a1)) (w := .ref (o + 10)) fl_X11_27 dX11_hands_40 hO.ob0 rfl ?_
        refine cs_get (s := (cp s (o + 37) 4 a1)) (w := .ref (o + 37)) fl_X11_123 dX11_hands_43 hO.1.ob0 rfl ?_
        refine jg_iload_n dX11_hands_46 rfl ?_
        refine cs_put (s := (cp s (o + 37) 4 a1)) (k := 5) (x := a2) fl_X11_138 dX11_hands_47 (hO.1.ob 27 (by decide) rfl) (ltb rfl) (rfl) rfl rfl ?_
        obtain rfl := Sum.inl.inj (Option.some.inj h)
        exact jg_return dX11_hands_50 rfl ⟨rfl, rfl⟩
      · replace h := se_r h
        cases h
set_option maxHeartbeats 4000000 in
theorem x_X11_hands {Γ : jg_G} {g : Nat → jg_C} (τ : cT) (n : Nat) (o : Nat) (s : cS) (a1 : Int32) (a2 : Int32) (hO : Sh τ n o) (hn : n < 1000000) (hT : τ n = .inr (8, 0)) {z : Nat × cS} (h : o_X11_hands τ n o s a1 a2 = some (.inr z)) : jc Γ mX11_hands 7 1 6 [some (.ref o), some (.int a1), some (.int a2)] (ct_h g τ s, n) (.inr (exn z.1)) (ct_h (gx g n) τ z.2, n + 1) := by
  refine jc_of ?_
  rw [o_X11_hands] at h
  refine jg_iload_n dX11_hands_0 rfl ?_
  refine jg_iconst (v := nI 0) dX11_hands_1 (by decide) ?_
  refine jg_bipush (v := nI 20) dX11_hands_2 (by decide) ?_
  obtain ⟨x1, e_x1, h⟩ := bd_some h
  refine cs_callS (As := [.int a1, .int (nI 0), .int (nI 20)]) ks_X11_41 dX11_hands_4 rfl (by decide) (Nat.le_of_ble_eq_true rfl) rfl (by decide) (Nat.le_of_ble_eq_true rfl) (t_X11_within τ n s a1 (nI 0) (nI 20) e_x1) ?_
  refine jg_if_eq (x := x1) (tgt := 24) dX11_hands_7 (by decide) (fun c2 => ?_) (fun c2 => ?_)
  · replace h := it_t c2 h
    refine jg_iconst (v := nI 0) dX11_hands_24 (by decide) ?_
    obtain ⟨x3, e_x3, h⟩ := bd_some h
    rcases x3 with y4 | z5
    · replace h := se_l h
      refine cs_callS (As := [.int (nI 0)]) ks_X11_45 dX11_hands_25 rfl (by decide) (Nat.le_of_ble_eq_true rfl) rfl (by decide) (Nat.le_of_ble_eq_true rfl) (t_X11_needArgument τ n s (nI 0) e_x3) ?_
      refine jg_aload_n dX11_hands_28 rfl ?_
      refine cs_get (s := s) (w := .ref (o + 10)) fl_X11_27 dX11_hands_29 hO.ob0 rfl ?_
      refine cs_get (s := s) (w := .ref (o + 37)) fl_X11_123 dX11_hands_32 hO.1.ob0 rfl ?_
      refine jg_iload_n dX11_hands_35 rfl ?_
      refine cs_put (s := s) (k := 4) (x := a1) fl_X11_135 dX11_hands_36 (hO.1.ob 27 (by decide) rfl) (ltb rfl) (rfl) rfl rfl ?_
      refine jg_aload_n dX11_hands_39 rfl ?_
      refine cs_get (s := (cp s (o + 37) 4 a1)) (w := .ref (o + 10)) fl_X11_27 dX11_hands_40 hO.ob0 rfl ?_
      refine cs_get (s := (cp s (o + 37) 4 a1)) (w := .ref (o + 37)) fl_X11_123 dX11_hands_43 hO.1.ob0 rfl ?_
      refine jg_iload_n dX11_hands_46 rfl ?_
      refine cs_put (s := (cp s (o + 37) 4 a1)) (k := 5) (x := a2) fl_X11_138 dX11_hands_47 (hO.1.ob 27 (by decide) rfl) (ltb rfl) (rfl) rfl rfl ?_
      cases h
    · replace h := se_r h
      obtain rfl := Sum.inr.inj (Option.some.inj h)
      exact jc_SX (As := [.int (nI 0)]) ks_X11_45 dX11_hands_25 rfl (by decide) (Nat.le_of_ble_eq_true rfl) rfl (by decide) (Nat.le_refl _) (Nat.le_refl _) (Nat.le_of_ble_eq_true rfl) (x_X11_needArgument τ n s (nI 0) hn hT e_x3) ⟨rfl, rfl⟩
  · replace h := it_f c2 h
    refine jg_iload_n dX11_hands_10 rfl ?_
    refine jg_iconst (v := nI 0) dX11_hands_11 (by decide) ?_
    refine jg_bipush (v := nI 100) dX11_hands_12 (by decide) ?_
    obtain ⟨x6, e_x6, h⟩ := bd_some h
    refine cs_callS (As := [.int a2, .int (nI 0), .int (nI 100)]) ks_X11_41 dX11_hands_14 rfl (by decide) (Nat.le_of_ble_eq_true rfl) rfl (by decide) (Nat.le_of_ble_eq_true rfl) (t_X11_within τ n s a2 (nI 0) (nI 100) e_x6) ?_
    refine jg_if_eq (x := x6) (tgt := 24) dX11_hands_17 (by decide) (fun c7 => ?_) (fun c7 => ?_)
    · replace h := it_t c7 h
      refine jg_iconst (v := nI 0) dX11_hands_24 (by decide) ?_
      obtain ⟨x8, e_x8, h⟩ := bd_some h
      rcases x8 with y9 | z10
      · replace h := se_l h
        refine cs_callS (As := [.int (nI 0)]) ks_X11_45 dX11_hands_25 rfl (by decide) (Nat.le_of_ble_eq_true rfl) rfl (by decide) (Nat.le_of_ble_eq_true rfl) (t_X11_needArgument τ n s (nI 0) e_x8) ?_
        refine jg_aload_n dX11_hands_28 rfl ?_
        refine cs_get (s := s) (w := .ref (o + 10)) fl_X11_27 dX11_hands_29 hO.ob0 rfl ?_
        refine cs_get (s := s) (w := .ref (o + 37)) fl_X11_123 dX11_hands_32 hO.1.ob0 rfl ?_
        refine jg_iload_n dX11_hands_35 rfl ?_
        refine cs_put (s := s) (k := 4) (x := a1) fl_X11_135 dX11_hands_36 (hO.1.ob 27 (by decide) rfl) (ltb rfl) (rfl) rfl rfl ?_
        refine jg_aload_n dX11_hands_39 rfl ?_
        refine cs_get (s := (cp s (o + 37) 4 a1)) (w := .ref (o + 10)) fl_X11_27 dX11_hands_40 hO.ob0 rfl ?_
        refine cs_get (s := (cp s (o + 37) 4 a1)) (w := .ref (o + 37)) fl_X11_123 dX11_hands_43 hO.1.ob0 rfl ?_
        refine jg_iload_n dX11_hands_46 rfl ?_
        refine cs_put (s := (cp s (o + 37) 4 a1)) (k := 5) (x := a2) fl_X11_138 dX11_hands_47 (hO.1.ob 27 (by decide) rfl) (ltb rfl) (rfl) rfl rfl ?_
        cases h
      · replace h := se_r h
        obtain rfl := Sum.inr.inj (Option.some.inj h)
        exact jc_SX (As := [.int (nI 0)]) ks_X11_45 dX11_hands_25 rfl (by decide) (Nat.le_of_ble_eq_true rfl) rfl (by decide) (Nat.le_refl _) (Nat.le_refl _) (Nat.le_of_ble_eq_true rfl) (x_X11_needArgument τ n s (nI 0) hn hT e_x8) ⟨rfl, rfl⟩
    · replace h := it_f c7 h
      refine jg_iconst (v := nI 1) dX11_hands_20 (by decide) ?_
      refine jg_goto (tgt := 25) dX11_hands_21 (by decide) ?_
      obtain ⟨x11, e_x11, h⟩ := bd_some h
      rcases x11 with y12 | z13
      · replace h := se_l h
        refine cs_callS (As := [.int (nI 1)]) ks_X11_45 dX11_hands_25 rfl (by decide) (Nat.le_of_ble_eq_true rfl) rfl (by decide) (Nat.le_of_ble_eq_true rfl) (t_X11_needArgument τ n s (nI 1) e_x11) ?_
        refine jg_aload_n dX11_hands_28 rfl ?_
        refine cs_get (s := s) (w := .ref (o + 10)) fl_X11_27 dX11_hands_29 hO.ob0 rfl ?_
        refine cs_get (s := s) (w := .ref (o + 37)) fl_X11_123 dX11_hands_32 hO.1.ob0 rfl ?_
        refine jg_iload_n dX11_hands_35 rfl ?_
        refine cs_put (s := s) (k := 4) (x := a1) fl_X11_135 dX11_hands_36 (hO.1.ob 27 (by decide) rfl) (ltb rfl) (rfl) rfl rfl ?_
        refine jg_aload_n dX11_hands_39 rfl ?_
        refine cs_get (s := (cp s (o + 37) 4 a1)) (w := .ref (o + 10)) fl_X11_27 dX11_hands_40 hO.ob0 rfl ?_
        refine cs_get (s := (cp s (o + 37) 4 a1)) (w := .ref (o + 37)) fl_X11_123 dX11_hands_43 hO.1.ob0 rfl ?_
        refine jg_iload_n dX11_hands_46 rfl ?_
        refine cs_put (s := (cp s (o + 37) 4 a1)) (k := 5) (x := a2) fl_X11_138 dX11_hands_47 (hO.1.ob 27 (by decide) rfl) (ltb rfl) (rfl) rfl rfl ?_
        cases h
      · replace h := se_r h
        obtain rfl := Sum.inr.inj (Option.some.inj h)
        exact jc_SX (As := [.int (nI 1)]) ks_X11_45 dX11_hands_25 rfl (by decide) (Nat.le_of_ble_eq_true rfl) rfl (by decide) (Nat.le_refl _) (Nat.le_refl _) (Nat.le_of_ble_eq_true rfl) (x_X11_needArgument τ n s (nI 1) hn hT e_x11) ⟨rfl, rfl⟩
theorem dX11_payer_0 : decode cX11_payer 0 = .ok (.aload_n 0, 1) := by decide +kernel
theorem dX11_payer_1 : decode cX11_payer 1 = .ok (.getfield 27, 3) := by decide +kernel
theorem dX11_payer_4 : decode cX11_payer 4 = .ok (.getfield 141, 3) := by decide +kernel
theorem dX11_payer_7 : decode cX11_payer 7 = .ok (.getfield 145, 3) := by decide +kernel
theorem dX11_payer_10 : decode cX11_payer 10 = .ok (.bipush 30, 2) := by decide +kernel
theorem dX11_payer_12 : decode cX11_payer 12 = .ok (.invokestatic 82, 3) := by decide +kernel
theorem dX11_payer_15 : decode cX11_payer 15 = .ok (.aload_n 0, 1) := by decide +kernel
theorem dX11_payer_16 : decode cX11_payer 16 = .ok (.getfield 27, 3) := by decide +kernel
theorem dX11_payer_19 : decode cX11_payer 19 = .ok (.getfield 141, 3) := by decide +kernel
theorem dX11_payer_22 : decode cX11_payer 22 = .ok (.invokevirtual 150, 3) := by decide +kernel
theorem dX11_payer_25 : decode cX11_payer 25 = .ok (.ireturn, 1) := by decide +kernel
noncomputable def o_X11_payer (τ : cT) (n : Nat) (o : Nat) (s : cS) : Option ((Int32 × cS) ⊕ (Nat × cS)) := (o_X11_needRoom τ n s (s.1 (o + 131) 6) (nI 30)).bind fun x1 => (Sum.elim (fun y2 => (o_X6_addPayer τ n (o + 10) s).bind fun x4 => (some (.inl (x4.1, x4.2)))) (fun z3 => some (.inr (z3, s))) x1)
set_option maxHeartbeats 4000000 in
theorem t_X11_payer {Γ : jg_G} {g : Nat → jg_C} (τ : cT) (n : Nat) (o : Nat) (s : cS) (hO : Sh τ n o) {x : Int32 × cS} (h : o_X11_payer τ n o s = some (.inl x)) : jc Γ mX11_payer 7 0 0 [some (.ref o)] (ct_h g τ s, n) (.inl (some (.int x.1))) (ct_h g τ x.2, n) := by
  refine jc_of ?_
  rw [o_X11_payer] at h
  refine jg_aload_n dX11_payer_0 rfl ?_
  refine cs_get (s := s) (w := .ref (o + 10)) fl_X11_27 dX11_payer_1 hO.ob0 rfl ?_
  refine cs_get (s := s) (w := .ref (o + 131)) fl_X11_141 dX11_payer_4 hO.1.ob0 rfl ?_
  refine cs_get (s := s) (w := .int (s.1 (o + 131) 6)) fl_X11_145 dX11_payer_7 (hO.1.ob 121 (by decide) rfl) rfl ?_
  refine jg_bipush (v := nI 30) dX11_payer_10 (by decide) ?_
  obtain ⟨x1, e_x1, h⟩ := bd_some h
  rcases x1 with y2 | z3
  · replace h := se_l h
    refine cs_callS (As := [.int (s.1 (o + 131) 6), .int (nI 30)]) ks_X11_82 dX11_payer_12 rfl (by decide) (Nat.le_of_ble_eq_true rfl) rfl (by decide) (Nat.le_of_ble_eq_true rfl) (t_X11_needRoom τ n s (s.1 (o + 131) 6) (nI 30) e_x1) ?_
    refine jg_aload_n dX11_payer_15 rfl ?_
    refine cs_get (s := s) (w := .ref (o + 10)) fl_X11_27 dX11_payer_16 hO.ob0 rfl ?_
    refine cs_get (s := s) (w := .ref (o + 131)) fl_X11_141 dX11_payer_19 hO.1.ob0 rfl ?_
    obtain ⟨x4, e_x4, h⟩ := bd_some h
    refine cs_call (q := (o + 131)) (As := []) kv_X11_150 dX11_payer_22 (hO.1.ob 121 (by decide) rfl) rfl rfl (by decide) (Nat.le_of_ble_eq_true rfl) rfl (by decide) (Nat.le_of_ble_eq_true rfl) (t_X6_addPayer τ n (o + 10) s hO.1 e_x4) ?_
    obtain rfl := Sum.inl.inj (Option.some.inj h)
    exact jg_ireturn dX11_payer_25 rfl ⟨rfl, rfl⟩
  · replace h := se_r h
    cases h
set_option maxHeartbeats 4000000 in
theorem x_X11_payer {Γ : jg_G} {g : Nat → jg_C} (τ : cT) (n : Nat) (o : Nat) (s : cS) (hO : Sh τ n o) (hn : n < 1000000) (hT : τ n = .inr (8, 0)) {z : Nat × cS} (h : o_X11_payer τ n o s = some (.inr z)) : jc Γ mX11_payer 7 1 6 [some (.ref o)] (ct_h g τ s, n) (.inr (exn z.1)) (ct_h (gx g n) τ z.2, n + 1) := by
  refine jc_of ?_
  rw [o_X11_payer] at h
  refine jg_aload_n dX11_payer_0 rfl ?_
  refine cs_get (s := s) (w := .ref (o + 10)) fl_X11_27 dX11_payer_1 hO.ob0 rfl ?_
  refine cs_get (s := s) (w := .ref (o + 131)) fl_X11_141 dX11_payer_4 hO.1.ob0 rfl ?_
  refine cs_get (s := s) (w := .int (s.1 (o + 131) 6)) fl_X11_145 dX11_payer_7 (hO.1.ob 121 (by decide) rfl) rfl ?_
  refine jg_bipush (v := nI 30) dX11_payer_10 (by decide) ?_
  obtain ⟨x1, e_x1, h⟩ := bd_some h
  rcases x1 with y2 | z3
  · replace h := se_l h
    refine cs_callS (As := [.int (s.1 (o + 131) 6), .int (nI 30)]) ks_X11_82 dX11_payer_12 rfl (by decide) (Nat.le_of_ble_eq_true rfl) rfl (by decide) (Nat.le_of_ble_eq_true rfl) (t_X11_needRoom τ n s (s.1 (o + 131) 6) (nI 30) e_x1) ?_
    refine jg_aload_n dX11_payer_15 rfl ?_
    refine cs_get (s := s) (w := .ref (o + 10)) fl_X11_27 dX11_payer_16 hO.ob0 rfl ?_
    refine cs_get (s := s) (w := .ref (o + 131)) fl_X11_141 dX11_payer_19 hO.1.ob0 rfl ?_
    obtain ⟨x4, e_x4, h⟩ := bd_some h
    refine cs_call (q := (o + 131)) (As := []) kv_X11_150 dX11_payer_22 (hO.1.ob 121 (by decide) rfl) rfl rfl (by decide) (Nat.le_of_ble_eq_true rfl) rfl (by decide) (Nat.le_of_ble_eq_true rfl) (t_X6_addPayer τ n (o + 10) s hO.1 e_x4) ?_
    cases h
  · replace h := se_r h
    obtain rfl := Sum.inr.inj (Option.some.inj h)
    exact jc_SX (As := [.int (s.1 (o + 131) 6), .int (nI 30)]) ks_X11_82 dX11_payer_12 rfl (by decide) (Nat.le_of_ble_eq_true rfl) rfl (by decide) (Nat.le_refl _) (Nat.le_refl _) (Nat.le_of_ble_eq_true rfl) (x_X11_needRoom τ n s (s.1 (o + 131) 6) (nI 30) hn hT e_x1) ⟨rfl, rfl⟩
theorem dX11_ship_0 : decode cX11_ship 0 = .ok (.iload_n 1, 1) := by decide +kernel
theorem dX11_ship_1 : decode cX11_ship 1 = .ok (.aload_n 0, 1) := by decide +kernel
theorem dX11_ship_2 : decode cX11_ship 2 = .ok (.getfield 27, 3) := by decide +kernel
theorem dX11_ship_5 : decode cX11_ship 5 = .ok (.getfield 141, 3) := by decide +kernel
theorem dX11_ship_8 : decode cX11_ship 8 = .ok (.getfield 145, 3) := by decide +kernel
theorem dX11_ship_11 : decode cX11_ship 11 = .ok (.invokestatic 90, 3) := by decide +kernel
theorem dX11_ship_14 : decode cX11_ship 14 = .ok (.iload_n 2, 1) := by decide +kernel
theorem dX11_ship_15 : decode cX11_ship 15 = .ok (.iconst 0, 1) := by decide +kernel
theorem dX11_ship_16 : decode cX11_ship 16 = .ok (.iconst 5, 1) := by decide +kernel
theorem dX11_ship_17 : decode cX11_ship 17 = .ok (.invokestatic 41, 3) := by decide +kernel
theorem dX11_ship_20 : decode cX11_ship 20 = .ok (.ifCond .eq 30, 3) := by decide +kernel
theorem dX11_ship_23 : decode cX11_ship 23 = .ok (.iload_n 3, 1) := by decide +kernel
theorem dX11_ship_24 : decode cX11_ship 24 = .ok (.iconst 1, 1) := by decide +kernel
theorem dX11_ship_25 : decode cX11_ship 25 = .ok (.sipush 20000, 3) := by decide +kernel
theorem dX11_ship_28 : decode cX11_ship 28 = .ok (.invokestatic 41, 3) := by decide +kernel
theorem dX11_ship_31 : decode cX11_ship 31 = .ok (.ifCond .eq 19, 3) := by decide +kernel
theorem dX11_ship_34 : decode cX11_ship 34 = .ok (.iload 4, 2) := by decide +kernel
theorem dX11_ship_36 : decode cX11_ship 36 = .ok (.iconst 1, 1) := by decide +kernel
theorem dX11_ship_37 : decode cX11_ship 37 = .ok (.sipush 900, 3) := by decide +kernel
theorem dX11_ship_40 : decode cX11_ship 40 = .ok (.invokestatic 41, 3) := by decide +kernel
theorem dX11_ship_43 : decode cX11_ship 43 = .ok (.ifCond .eq 7, 3) := by decide +kernel
theorem dX11_ship_46 : decode cX11_ship 46 = .ok (.iconst 1, 1) := by decide +kernel
theorem dX11_ship_47 : decode cX11_ship 47 = .ok (.goto 4, 3) := by decide +kernel
theorem dX11_ship_50 : decode cX11_ship 50 = .ok (.iconst 0, 1) := by decide +kernel
theorem dX11_ship_51 : decode cX11_ship 51 = .ok (.invokestatic 45, 3) := by decide +kernel
theorem dX11_ship_54 : decode cX11_ship 54 = .ok (.iload 5, 2) := by decide +kernel
theorem dX11_ship_56 : decode cX11_ship 56 = .ok (.iconst 1, 1) := by decide +kernel
theorem dX11_ship_57 : decode cX11_ship 57 = .ok (.bipush 80, 2) := by decide +kernel
theorem dX11_ship_59 : decode cX11_ship 59 = .ok (.invokestatic 41, 3) := by decide +kernel
theorem dX11_ship_62 : decode cX11_ship 62 = .ok (.ifCond .eq 29, 3) := by decide +kernel
theorem dX11_ship_65 : decode cX11_ship 65 = .ok (.iload 6, 2) := by decide +kernel
theorem dX11_ship_67 : decode cX11_ship 67 = .ok (.iconst 1, 1) := by decide +kernel
theorem dX11_ship_68 : decode cX11_ship 68 = .ok (.bipush 80, 2) := by decide +kernel
theorem dX11_ship_70 : decode cX11_ship 70 = .ok (.invokestatic 41, 3) := by decide +kernel
theorem dX11_ship_73 : decode cX11_ship 73 = .ok (.ifCond .eq 18, 3) := by decide +kernel
theorem dX11_ship_76 : decode cX11_ship 76 = .ok (.iload 8, 2) := by decide +kernel
theorem dX11_ship_78 : decode cX11_ship 78 = .ok (.iconst 0, 1) := by decide +kernel
theorem dX11_ship_79 : decode cX11_ship 79 = .ok (.ldc 153, 2) := by decide +kernel
theorem dX11_ship_81 : decode cX11_ship 81 = .ok (.invokestatic 41, 3) := by decide +kernel
theorem dX11_ship_84 : decode cX11_ship 84 = .ok (.ifCond .eq 7, 3) := by decide +kernel
theorem dX11_ship_87 : decode cX11_ship 87 = .ok (.iconst 1, 1) := by decide +kernel
theorem dX11_ship_88 : decode cX11_ship 88 = .ok (.goto 4, 3) := by decide +kernel
theorem dX11_ship_91 : decode cX11_ship 91 = .ok (.iconst 0, 1) := by decide +kernel
theorem dX11_ship_92 : decode cX11_ship 92 = .ok (.invokestatic 45, 3) := by decide +kernel
theorem dX11_ship_95 : decode cX11_ship 95 = .ok (.aload_n 0, 1) := by decide +kernel
theorem dX11_ship_96 : decode cX11_ship 96 = .ok (.getfield 27, 3) := by decide +kernel
theorem dX11_ship_99 : decode cX11_ship 99 = .ok (.getfield 123, 3) := by decide +kernel
theorem dX11_ship_102 : decode cX11_ship 102 = .ok (.getfield 154, 3) := by decide +kernel
theorem dX11_ship_105 : decode cX11_ship 105 = .ok (.bipush 80, 2) := by decide +kernel
theorem dX11_ship_107 : decode cX11_ship 107 = .ok (.invokestatic 82, 3) := by decide +kernel
theorem dX11_ship_110 : decode cX11_ship 110 = .ok (.aload_n 0, 1) := by decide +kernel
theorem dX11_ship_111 : decode cX11_ship 111 = .ok (.getfield 27, 3) := by decide +kernel
theorem dX11_ship_114 : decode cX11_ship 114 = .ok (.getfield 123, 3) := by decide +kernel
theorem dX11_ship_117 : decode cX11_ship 117 = .ok (.getfield 157, 3) := by decide +kernel
theorem dX11_ship_120 : decode cX11_ship 120 = .ok (.aload_n 0, 1) := by decide +kernel
theorem dX11_ship_121 : decode cX11_ship 121 = .ok (.getfield 27, 3) := by decide +kernel
theorem dX11_ship_124 : decode cX11_ship 124 = .ok (.getfield 123, 3) := by decide +kernel
theorem dX11_ship_127 : decode cX11_ship 127 = .ok (.getfield 154, 3) := by decide +kernel
theorem dX11_ship_130 : decode cX11_ship 130 = .ok (.aaload, 1) := by decide +kernel
theorem dX11_ship_131 : decode cX11_ship 131 = .ok (.astore 9, 2) := by decide +kernel
theorem dX11_ship_133 : decode cX11_ship 133 = .ok (.aload 9, 2) := by decide +kernel
theorem dX11_ship_135 : decode cX11_ship 135 = .ok (.iload_n 2, 1) := by decide +kernel
theorem dX11_ship_136 : decode cX11_ship 136 = .ok (.iload_n 3, 1) := by decide +kernel
theorem dX11_ship_137 : decode cX11_ship 137 = .ok (.iload 4, 2) := by decide +kernel
theorem dX11_ship_139 : decode cX11_ship 139 = .ok (.iload 7, 2) := by decide +kernel
theorem dX11_ship_141 : decode cX11_ship 141 = .ok (.invokevirtual 161, 3) := by decide +kernel
theorem dX11_ship_144 : decode cX11_ship 144 = .ok (.aload 9, 2) := by decide +kernel
theorem dX11_ship_146 : decode cX11_ship 146 = .ok (.iload 5, 2) := by decide +kernel
theorem dX11_ship_148 : decode cX11_ship 148 = .ok (.putfield 167, 3) := by decide +kernel
theorem dX11_ship_151 : decode cX11_ship 151 = .ok (.aload 9, 2) := by decide +kernel
theorem dX11_ship_153 : decode cX11_ship 153 = .ok (.iload 6, 2) := by decide +kernel
theorem dX11_ship_155 : decode cX11_ship 155 = .ok (.putfield 170, 3) := by decide +kernel
theorem dX11_ship_158 : decode cX11_ship 158 = .ok (.aload 9, 2) := by decide +kernel
theorem dX11_ship_160 : decode cX11_ship 160 = .ok (.iload_n 1, 1) := by decide +kernel
theorem dX11_ship_161 : decode cX11_ship 161 = .ok (.putfield 173, 3) := by decide +kernel
theorem dX11_ship_164 : decode cX11_ship 164 = .ok (.aload 9, 2) := by decide +kernel
theorem dX11_ship_166 : decode cX11_ship 166 = .ok (.iload 8, 2) := by decide +kernel
theorem dX11_ship_168 : decode cX11_ship 168 = .ok (.putfield 176, 3) := by decide +kernel
theorem dX11_ship_171 : decode cX11_ship 171 = .ok (.aload 9, 2) := by decide +kernel
theorem dX11_ship_173 : decode cX11_ship 173 = .ok (.aload_n 0, 1) := by decide +kernel
theorem dX11_ship_174 : decode cX11_ship 174 = .ok (.getfield 27, 3) := by decide +kernel
theorem dX11_ship_177 : decode cX11_ship 177 = .ok (.getfield 49, 3) := by decide +kernel
theorem dX11_ship_180 : decode cX11_ship 180 = .ok (.aload_n 0, 1) := by decide +kernel
theorem dX11_ship_181 : decode cX11_ship 181 = .ok (.getfield 27, 3) := by decide +kernel
theorem dX11_ship_184 : decode cX11_ship 184 = .ok (.invokevirtual 179, 3) := by decide +kernel
theorem dX11_ship_187 : decode cX11_ship 187 = .ok (.invokevirtual 183, 3) := by decide +kernel
theorem dX11_ship_190 : decode cX11_ship 190 = .ok (.aload_n 0, 1) := by decide +kernel
theorem dX11_ship_191 : decode cX11_ship 191 = .ok (.getfield 27, 3) := by decide +kernel
theorem dX11_ship_194 : decode cX11_ship 194 = .ok (.getfield 123, 3) := by decide +kernel
theorem dX11_ship_197 : decode cX11_ship 197 = .ok (.dup, 1) := by decide +kernel
theorem dX11_ship_198 : decode cX11_ship 198 = .ok (.getfield 154, 3) := by decide +kernel
theorem dX11_ship_201 : decode cX11_ship 201 = .ok (.iconst 1, 1) := by decide +kernel
theorem dX11_ship_202 : decode cX11_ship 202 = .ok (.iadd, 1) := by decide +kernel
theorem dX11_ship_203 : decode cX11_ship 203 = .ok (.putfield 154, 3) := by decide +kernel
theorem dX11_ship_206 : decode cX11_ship 206 = .ok (.aload_n 0, 1) := by decide +kernel
theorem dX11_ship_207 : decode cX11_ship 207 = .ok (.getfield 27, 3) := by decide +kernel
theorem dX11_ship_210 : decode cX11_ship 210 = .ok (.getfield 123, 3) := by decide +kernel
theorem dX11_ship_213 : decode cX11_ship 213 = .ok (.getfield 154, 3) := by decide +kernel
theorem dX11_ship_216 : decode cX11_ship 216 = .ok (.iconst 1, 1) := by decide +kernel
theorem dX11_ship_217 : decode cX11_ship 217 = .ok (.isub, 1) := by decide +kernel
theorem dX11_ship_218 : decode cX11_ship 218 = .ok (.ireturn, 1) := by decide +kernel
noncomputable def o_X11_ship (F : Nat) (τ : cT) (n : Nat) (o : Nat) (s : cS) (a1 : Int32) (a2 : Int32) (a3 : Int32) (a4 : Int32) (a5 : Int32) (a6 : Int32) (a7 : Int32) (a8 : Int32) : Option ((Int32 × cS) ⊕ (Nat × cS)) := (o_X11_needIndex τ n s a1 (s.1 (o + 131) 6)).bind fun x1 => (Sum.elim (fun y2 => (o_X11_within τ n s a2 (nI 0) (nI 5)).bind fun x4 => (if x4 = 0 then ((o_X11_needArgument τ n s (nI 0)).bind fun x6 => (Sum.elim (fun y7 => (o_X11_within τ n s a5 (nI 1) (nI 80)).bind fun x9 => (if x9 = 0 then ((o_X11_needArgument τ n s (nI 0)).bind fun x11 => (Sum.elim (fun y12 => (o_X11_needRoom τ n s (s.1 (o + 37) 3) (nI 80)).bind fun x14 => (Sum.elim (fun y15 => if iL (s.1 (o + 37) 3) 80 then ((o_X9_build τ n (o + 49 + 1 + (s.1 (o + 37) 3).toNatClampNeg) s a2 a3 a4 a7).bind fun x18 => ((some (cp (cp x18 (o + 49 + 1 + (s.1 (o + 37) 3).toNatClampNeg) 4 a5) (o + 49 + 1 + (s.1 (o + 37) 3).toNatClampNeg) 5 a6)).bind fun x19 => ((some (cp (cp x19 (o + 49 + 1 + (s.1 (o + 37) 3).toNatClampNeg) 6 a1) (o + 49 + 1 + (s.1 (o + 37) 3).toNatClampNeg) 7 a8)).bind fun x20 => ((o_X2_actOfToday F τ n (o + 10) x20).bind fun x21 => (if acb τ n x21 = true then ((o_X9_come τ n (o + 49 + 1 + (s.1 (o + 37) 3).toNatClampNeg) x21 x20 (x20.1 (o + 10) 0)).bind fun x23 => (some (.inl (((cp x23 (o + 37) 3 ((x23.1 (o + 37) 3) + (nI 1))).1 (o + 37) 3) - (nI 1), cp x23 (o + 37) 3 ((x23.1 (o + 37) 3) + (nI 1)))))) else none))))) else none) (fun z16 => some (.inr (z16, s))) x14)) (fun z13 => some (.inr (z13, s))) x11)) else ((o_X11_within τ n s a6 (nI 1) (nI 80)).bind fun x24 => (if x24 = 0 then ((o_X11_needArgument τ n s (nI 0)).bind fun x26 => (Sum.elim (fun y27 => (o_X11_needRoom τ n s (s.1 (o + 37) 3) (nI 80)).bind fun x29 => (Sum.elim (fun y30 => if iL (s.1 (o + 37) 3) 80 then ((o_X9_build τ n (o + 49 + 1 + (s.1 (o + 37) 3).toNatClampNeg) s a2 a3 a4 a7).bind fun x33 => ((some (cp (cp x33 (o + 49 + 1 + (s.1 (o + 37) 3).toNatClampNeg) 4 a5) (o + 49 + 1 + (s.1 (o + 37) 3).toNatClampNeg) 5 a6)).bind fun x34 => ((some (cp (cp x34 (o + 49 + 1 + (s.1 (o + 37) 3).toNatClampNeg) 6 a1) (o + 49 + 1 + (s.1 (o + 37) 3).toNatClampNeg) 7 a8)).bind fun x35 => ((o_X2_actOfToday F τ n (o + 10) x35).bind fun x36 => (if acb τ n x36 = true then ((o_X9_come τ n (o + 49 + 1 + (s.1 (o + 37) 3).toNatClampNeg) x36 x35 (x35.1 (o + 10) 0)).bind fun x38 => (some (.inl (((cp x38 (o + 37) 3 ((x38.1 (o + 37) 3) + (nI 1))).1 (o + 37) 3) - (nI 1), cp x38 (o + 37) 3 ((x38.1 (o + 37) 3) + (nI 1)))))) else none))))) else none) (fun z31 => some (.inr (z31, s))) x29)) (fun z28 => some (.inr (z28, s))) x26)) else ((o_X11_within τ n s a8 (nI 0) (nI 1000000)).bind fun x39 => (if x39 = 0 then ((o_X11_needArgument τ n s (nI 0)).bind fun x41 => (Sum.elim (fun y42 => (o_X11_needRoom τ n s (s.1 (o + 37) 3) (nI 80)).bind fun x44 => (Sum.elim (fun y45 => if iL (s.1 (o + 37) 3) 80 then ((o_X9_build τ n (o + 49 + 1 + (s.1 (o + 37) 3).toNatClampNeg) s a2 a3 a4 a7).bind fun x48 => ((some (cp (cp x48 (o + 49 + 1 + (s.1 (o + 37) 3).toNatClampNeg) 4 a5) (o + 49 + 1 + (s.1 (o + 37) 3).toNatClampNeg) 5 a6)).bind fun x49 => ((some (cp (cp x49 (o + 49 + 1 + (s.1 (o + 37) 3).toNatClampNeg) 6 a1) (o + 49 + 1 + (s.1 (o + 37) 3).toNatClampNeg) 7 a8)).bind fun x50 => ((o_X2_actOfToday F τ n (o + 10) x50).bind fun x51 => (if acb τ n x51 = true then ((o_X9_come τ n (o + 49 + 1 + (s.1 (o + 37) 3).toNatClampNeg) x51 x50 (x50.1 (o + 10) 0)).bind fun x53 => (some (.inl (((cp x53 (o + 37) 3 ((x53.1 (o + 37) 3) + (nI 1))).1 (o + 37) 3) - (nI 1), cp x53 (o + 37) 3 ((x53.1 (o + 37) 3) + (nI 1)))))) else none))))) else none) (fun z46 => some (.inr (z46, s))) x44)) (fun z43 => some (.inr (z43, s))) x41)) else ((o_X11_needArgument τ n s (nI 1)).bind fun x54 => (Sum.elim (fun y55 => (o_X11_needRoom τ n s (s.1 (o + 37) 3) (nI 80)).bind fun x57 => (Sum.elim (fun y58 => if iL (s.1 (o + 37) 3) 80 then ((o_X9_build τ n (o + 49 + 1 + (s.1 (o + 37) 3).toNatClampNeg) s a2 a3 a4 a7).bind fun x61 => ((some (cp (cp x61 (o + 49 + 1 + (s.1 (o + 37) 3).toNatClampNeg) 4 a5) (o + 49 + 1 + (s.1 (o + 37) 3).toNatClampNeg) 5 a6)).bind fun x62 => ((some (cp (cp x62 (o + 49 + 1 + (s.1 (o + 37) 3).toNatClampNeg) 6 a1) (o + 49 + 1 + (s.1 (o + 37) 3).toNatClampNeg) 7 a8)).bind fun x63 => ((o_X2_actOfToday F τ n (o + 10) x63).bind fun x64 => (if acb τ n x64 = true then ((o_X9_come τ n (o + 49 + 1 + (s.1 (o + 37) 3).toNatClampNeg) x64 x63 (x63.1 (o + 10) 0)).bind fun x66 => (some (.inl (((cp x66 (o + 37) 3 ((x66.1 (o + 37) 3) + (nI 1))).1 (o + 37) 3) - (nI 1), cp x66 (o + 37) 3 ((x66.1 (o + 37) 3) + (nI 1)))))) else none))))) else none) (fun z59 => some (.inr (z59, s))) x57)) (fun z56 => some (.inr (z56, s))) x54)))))))) (fun z8 => some (.inr (z8, s))) x6)) else ((o_X11_within τ n s a3 (nI 1) (nI 20000)).bind fun x67 => (if x67 = 0 then ((o_X11_needArgument τ n s (nI 0)).bind fun x69 => (Sum.elim (fun y70 => (o_X11_within τ n s a5 (nI 1) (nI 80)).bind fun x72 => (if x72 = 0 then ((o_X11_needArgument τ n s (nI 0)).bind fun x74 => (Sum.elim (fun y75 => (o_X11_needRoom τ n s (s.1 (o + 37) 3) (nI 80)).bind fun x77 => (Sum.elim (fun y78 => if iL (s.1 (o + 37) 3) 80 then ((o_X9_build τ n (o + 49 + 1 + (s.1 (o + 37) 3).toNatClampNeg) s a2 a3 a4 a7).bind fun x81 => ((some (cp (cp x81 (o + 49 + 1 + (s.1 (o + 37) 3).toNatClampNeg) 4 a5) (o + 49 + 1 + (s.1 (o + 37) 3).toNatClampNeg) 5 a6)).bind fun x82 => ((some (cp (cp x82 (o + 49 + 1 + (s.1 (o + 37) 3).toNatClampNeg) 6 a1) (o + 49 + 1 + (s.1 (o + 37) 3).toNatClampNeg) 7 a8)).bind fun x83 => ((o_X2_actOfToday F τ n (o + 10) x83).bind fun x84 => (if acb τ n x84 = true then ((o_X9_come τ n (o + 49 + 1 + (s.1 (o + 37) 3).toNatClampNeg) x84 x83 (x83.1 (o + 10) 0)).bind fun x86 => (some (.inl (((cp x86 (o + 37) 3 ((x86.1 (o + 37) 3) + (nI 1))).1 (o + 37) 3) - (nI 1), cp x86 (o + 37) 3 ((x86.1 (o + 37) 3) + (nI 1)))))) else none))))) else none) (fun z79 => some (.inr (z79, s))) x77)) (fun z76 => some (.inr (z76, s))) x74)) else ((o_X11_within τ n s a6 (nI 1) (nI 80)).bind fun x87 => (if x87 = 0 then ((o_X11_needArgument τ n s (nI 0)).bind fun x89 => (Sum.elim (fun y90 => (o_X11_needRoom τ n s (s.1 (o + 37) 3) (nI 80)).bind fun x92 => (Sum.elim (fun y93 => if iL (s.1 (o + 37) 3) 80 then ((o_X9_build τ n (o + 49 + 1 + (s.1 (o + 37) 3).toNatClampNeg) s a2 a3 a4 a7).bind fun x96 => ((some (cp (cp x96 (o + 49 + 1 + (s.1 (o + 37) 3).toNatClampNeg) 4 a5) (o + 49 + 1 + (s.1 (o + 37) 3).toNatClampNeg) 5 a6)).bind fun x97 => ((some (cp (cp x97 (o + 49 + 1 + (s.1 (o + 37) 3).toNatClampNeg) 6 a1) (o + 49 + 1 + (s.1 (o + 37) 3).toNatClampNeg) 7 a8)).bind fun x98 => ((o_X2_actOfToday F τ n (o + 10) x98).bind fun x99 => (if acb τ n x99 = true then ((o_X9_come τ n (o + 49 + 1 + (s.1 (o + 37) 3).toNatClampNeg) x99 x98 (x98.1 (o + 10) 0)).bind fun x101 => (some (.inl (((cp x101 (o + 37) 3 ((x101.1 (o + 37) 3) + (nI 1))).1 (o + 37) 3) - (nI 1), cp x101 (o + 37) 3 ((x101.1 (o + 37) 3) + (nI 1)))))) else none))))) else none) (fun z94 => some (.inr (z94, s))) x92)) (fun z91 => some (.inr (z91, s))) x89)) else ((o_X11_within τ n s a8 (nI 0) (nI 1000000)).bind fun x102 => (if x102 = 0 then ((o_X11_needArgument τ n s (nI 0)).bind fun x104 => (Sum.elim (fun y105 => (o_X11_needRoom τ n s (s.1 (o + 37) 3) (nI 80)).bind fun x107 => (Sum.elim (fun y108 => if iL (s.1 (o + 37) 3) 80 then ((o_X9_build τ n (o + 49 + 1 + (s.1 (o + 37) 3).toNatClampNeg) s a2 a3 a4 a7).bind fun x111 => ((some (cp (cp x111 (o + 49 + 1 + (s.1 (o + 37) 3).toNatClampNeg) 4 a5) (o + 49 + 1 + (s.1 (o + 37) 3).toNatClampNeg) 5 a6)).bind fun x112 => ((some (cp (cp x112 (o + 49 + 1 + (s.1 (o + 37) 3).toNatClampNeg) 6 a1) (o + 49 + 1 + (s.1 (o + 37) 3).toNatClampNeg) 7 a8)).bind fun x113 => ((o_X2_actOfToday F τ n (o + 10) x113).bind fun x114 => (if acb τ n x114 = true then ((o_X9_come τ n (o + 49 + 1 + (s.1 (o + 37) 3).toNatClampNeg) x114 x113 (x113.1 (o + 10) 0)).bind fun x116 => (some (.inl (((cp x116 (o + 37) 3 ((x116.1 (o + 37) 3) + (nI 1))).1 (o + 37) 3) - (nI 1), cp x116 (o + 37) 3 ((x116.1 (o + 37) 3) + (nI 1)))))) else none))))) else none) (fun z109 => some (.inr (z109, s))) x107)) (fun z106 => some (.inr (z106, s))) x104)) else ((o_X11_needArgument τ n s (nI 1)).bind fun x117 => (Sum.elim (fun y118 => (o_X11_needRoom τ n s (s.1 (o + 37) 3) (nI 80)).bind fun x120 => (Sum.elim (fun y121 => if iL (s.1 (o + 37) 3) 80 then ((o_X9_build τ n (o + 49 + 1 + (s.1 (o + 37) 3).toNatClampNeg) s a2 a3 a4 a7).bind fun x124 => ((some (cp (cp x124 (o + 49 + 1 + (s.1 (o + 37) 3).toNatClampNeg) 4 a5) (o + 49 + 1 + (s.1 (o + 37) 3).toNatClampNeg) 5 a6)).bind fun x125 => ((some (cp (cp x125 (o + 49 + 1 + (s.1 (o + 37) 3).toNatClampNeg) 6 a1) (o + 49 + 1 + (s.1 (o + 37) 3).toNatClampNeg) 7 a8)).bind fun x126 => ((o_X2_actOfToday F τ n (o + 10) x126).bind fun x127 => (if acb τ n x127 = true then ((o_X9_come τ n (o + 49 + 1 + (s.1 (o + 37) 3).toNatClampNeg) x127 x126 (x126.1 (o + 10) 0)).bind fun x129 => (some (.inl (((cp x129 (o + 37) 3 ((x129.1 (o + 37) 3) + (nI 1))).1 (o + 37) 3) - (nI 1), cp x129 (o + 37) 3 ((x129.1 (o + 37) 3) + (nI 1)))))) else none))))) else none) (fun z122 => some (.inr (z122, s))) x120)) (fun z119 => some (.inr (z119, s))) x117)))))))) (fun z71 => some (.inr (z71, s))) x69)) else ((o_X11_within τ n s a4 (nI 1) (nI 900)).bind fun x130 => (if x130 = 0 then ((o_X11_needArgument τ n s (nI 0)).bind fun x132 => (Sum.elim (fun y133 => (o_X11_within τ n s a5 (nI 1) (nI 80)).bind fun x135 => (if x135 = 0 then ((o_X11_needArgument τ n s (nI 0)).bind fun x137 => (Sum.elim (fun y138 => (o_X11_needRoom τ n s (s.1 (o + 37) 3) (nI 80)).bind fun x140 => (Sum.elim (fun y141 => if iL (s.1 (o + 37) 3) 80 then ((o_X9_build τ n (o + 49 + 1 + (s.1 (o + 37) 3).toNatClampNeg) s a2 a3 a4 a7).bind fun x144 => ((some (cp (cp x144 (o + 49 + 1 + (s.1 (o + 37) 3).toNatClampNeg) 4 a5) (o + 49 + 1 + (s.1 (o + 37) 3).toNatClampNeg) 5 a6)).bind fun x145 => ((some (cp (cp x145 (o + 49 + 1 + (s.1 (o + 37) 3).toNatClampNeg) 6 a1) (o + 49 + 1 + (s.1 (o + 37) 3).toNatClampNeg) 7 a8)).bind fun x146 => ((o_X2_actOfToday F τ n (o + 10) x146).bind fun x147 => (if acb τ n x147 = true then ((o_X9_come τ n (o + 49 + 1 + (s.1 (o + 37) 3).toNatClampNeg) x147 x146 (x146.1 (o + 10) 0)).bind fun x149 => (some (.inl (((cp x149 (o + 37) 3 ((x149.1 (o + 37) 3) + (nI 1))).1 (o + 37) 3) - (nI 1), cp x149 (o + 37) 3 ((x149.1 (o + 37) 3) + (nI 1)))))) else none))))) else none) (fun z142 => some (.inr (z142, s))) x140)) (fun z139 => some (.inr (z139, s))) x137)) else ((o_X11_within τ n s a6 (nI 1) (nI 80)).bind fun x150 => (if x150 = 0 then ((o_X11_needArgument τ n s (nI 0)).bind fun x152 => (Sum.elim (fun y153 => (o_X11_needRoom τ n s (s.1 (o + 37) 3) (nI 80)).bind fun x155 => (Sum.elim (fun y156 => if iL (s.1 (o + 37) 3) 80 then ((o_X9_build τ n (o + 49 + 1 + (s.1 (o + 37) 3).toNatClampNeg) s a2 a3 a4 a7).bind fun x159 => ((some (cp (cp x159 (o + 49 + 1 + (s.1 (o + 37) 3).toNatClampNeg) 4 a5) (o + 49 + 1 + (s.1 (o + 37) 3).toNatClampNeg) 5 a6)).bind fun x160 => ((some (cp (cp x160 (o + 49 + 1 + (s.1 (o + 37) 3).toNatClampNeg) 6 a1) (o + 49 + 1 + (s.1 (o + 37) 3).toNatClampNeg) 7 a8)).bind fun x161 => ((o_X2_actOfToday F τ n (o + 10) x161).bind fun x162 => (if acb τ n x162 = true then ((o_X9_come τ n (o + 49 + 1 + (s.1 (o + 37) 3).toNatClampNeg) x162 x161 (x161.1 (o + 10) 0)).bind fun x164 => (some (.inl (((cp x164 (o + 37) 3 ((x164.1 (o + 37) 3) + (nI 1))).1 (o + 37) 3) - (nI 1), cp x164 (o + 37) 3 ((x164.1 (o + 37) 3) + (nI 1)))))) else none))))) else none) (fun z157 => some (.inr (z157, s))) x155)) (fun z154 => some (.inr (z154, s))) x152)) else ((o_X11_within τ n s a8 (nI 0) (nI 1000000)).bind fun x165 => (if x165 = 0 then ((o_X11_needArgument τ n s (nI 0)).bind fun x167 => (Sum.elim (fun y168 => (o_X11_needRoom τ n s (s.1 (o + 37) 3) (nI 80)).bind fun x170 => (Sum.elim (fun y171 => if iL (s.1 (o + 37) 3) 80 then ((o_X9_build τ n (o + 49 + 1 + (s.1 (o + 37) 3).toNatClampNeg) s a2 a3 a4 a7).bind fun x174 => ((some (cp (cp x174 (o + 49 + 1 + (s.1 (o + 37) 3).toNatClampNeg) 4 a5) (o + 49 + 1 + (s.1 (o + 37) 3).toNatClampNeg) 5 a6)).bind fun x175 => ((some (cp (cp x175 (o + 49 + 1 + (s.1 (o + 37) 3).toNatClampNeg) 6 a1) (o + 49 + 1 + (s.1 (o + 37) 3).toNatClampNeg) 7 a8)).bind fun x176 => ((o_X2_actOfToday F τ n (o + 10) x176).bind fun x177 => (if acb τ n x177 = true then ((o_X9_come τ n (o + 49 + 1 + (s.1 (o + 37) 3).toNatClampNeg) x177 x176 (x176.1 (o + 10) 0)).bind fun x179 => (some (.inl (((cp x179 (o + 37) 3 ((x179.1 (o + 37) 3) + (nI 1))).1 (o + 37) 3) - (nI 1), cp x179 (o + 37) 3 ((x179.1 (o + 37) 3) + (nI 1)))))) else none))))) else none) (fun z172 => some (.inr (z172, s))) x170)) (fun z169 => some (.inr (z169, s))) x167)) else ((o_X11_needArgument τ n s (nI 1)).bind fun x180 => (Sum.elim (fun y181 => (o_X11_needRoom τ n s (s.1 (o + 37) 3) (nI 80)).bind fun x183 => (Sum.elim (fun y184 => if iL (s.1 (o + 37) 3) 80 then ((o_X9_build τ n (o + 49 + 1 + (s.1 (o + 37) 3).toNatClampNeg) s a2 a3 a4 a7).bind fun x187 => ((some (cp (cp x187 (o + 49 + 1 + (s.1 (o + 37) 3).toNatClampNeg) 4 a5) (o + 49 + 1 + (s.1 (o + 37) 3).toNatClampNeg) 5 a6)).bind fun x188 => ((some (cp (cp x188 (o + 49 + 1 + (s.1 (o + 37) 3).toNatClampNeg) 6 a1) (o + 49 + 1 + (s.1 (o + 37) 3).toNatClampNeg) 7 a8)).bind fun x189 => ((o_X2_actOfToday F τ n (o + 10) x189).bind fun x190 => (if acb τ n x190 = true then ((o_X9_come τ n (o + 49 + 1 + (s.1 (o + 37) 3).toNatClampNeg) x190 x189 (x189.1 (o + 10) 0)).bind fun x192 => (some (.inl (((cp x192 (o + 37) 3 ((x192.1 (o + 37) 3) + (nI 1))).1 (o + 37) 3) - (nI 1), cp x192 (o + 37) 3 ((x192.1 (o + 37) 3) + (nI 1)))))) else none))))) else none) (fun z185 => some (.inr (z185, s))) x183)) (fun z182 => some (.inr (z182, s))) x180)))))))) (fun z134 => some (.inr (z134, s))) x132)) else ((o_X11_needArgument τ n s (nI 1)).bind fun x193 => (Sum.elim (fun y194 => (o_X11_within τ n s a5 (nI 1) (nI 80)).bind fun x196 => (if x196 = 0 then ((o_X11_needArgument τ n s (nI 0)).bind fun x198 => (Sum.elim (fun y199 => (o_X11_needRoom τ n s (s.1 (o + 37) 3) (nI 80)).bind fun x201 => (Sum.elim (fun y202 => if iL (s.1 (o + 37) 3) 80 then ((o_X9_build τ n (o + 49 + 1 + (s.1 (o + 37) 3).toNatClampNeg) s a2 a3 a4 a7).bind fun x205 => ((some (cp (cp x205 (o + 49 + 1 + (s.1 (o + 37) 3).toNatClampNeg) 4 a5) (o + 49 + 1 + (s.1 (o + 37) 3).toNatClampNeg) 5 a6)).bind fun x206 => ((some (cp (cp x206 (o + 49 + 1 + (s.1 (o + 37) 3).toNatClampNeg) 6 a1) (o + 49 + 1 + (s.1 (o + 37) 3).toNatClampNeg) 7 a8)).bind fun x207 => ((o_X2_actOfToday F τ n (o + 10) x207).bind fun x208 => (if acb τ n x208 = true then ((o_X9_come τ n (o + 49 + 1 + (s.1 (o + 37) 3).toNatClampNeg) x208 x207 (x207.1 (o + 10) 0)).bind fun x210 => (some (.inl (((cp x210 (o + 37) 3 ((x210.1 (o + 37) 3) + (nI 1))).1 (o + 37) 3) - (nI 1), cp x210 (o + 37) 3 ((x210.1 (o + 37) 3) + (nI 1)))))) else none))))) else none) (fun z203 => some (.inr (z203, s))) x201)) (fun z200 => some (.inr (z200, s))) x198)) else ((o_X11_within τ n s a6 (nI 1) (nI 80)).bind fun x211 => (if x211 = 0 then ((o_X11_needArgument τ n s (nI 0)).bind fun x213 => (Sum.elim (fun y214 => (o_X11_needRoom τ n s (s.1 (o + 37) 3) (nI 80)).bind fun x216 => (Sum.elim (fun y217 => if iL (s.1 (o + 37) 3) 80 then ((o_X9_build τ n (o + 49 + 1 + (s.1 (o + 37) 3).toNatClampNeg) s a2 a3 a4 a7).bind fun x220 => ((some (cp (cp x220 (o + 49 + 1 + (s.1 (o + 37) 3).toNatClampNeg) 4 a5) (o + 49 + 1 + (s.1 (o + 37) 3).toNatClampNeg) 5 a6)).bind fun x221 => ((some (cp (cp x221 (o + 49 + 1 + (s.1 (o + 37) 3).toNatClampNeg) 6 a1) (o + 49 + 1 + (s.1 (o + 37) 3).toNatClampNeg) 7 a8)).bind fun x222 => ((o_X2_actOfToday F τ n (o + 10) x222).bind fun x223 => (if acb τ n x223 = true then ((o_X9_come τ n (o + 49 + 1 + (s.1 (o + 37) 3).toNatClampNeg) x223 x222 (x222.1 (o + 10) 0)).bind fun x225 => (some (.inl (((cp x225 (o + 37) 3 ((x225.1 (o + 37) 3) + (nI 1))).1 (o + 37) 3) - (nI 1), cp x225 (o + 37) 3 ((x225.1 (o + 37) 3) + (nI 1)))))) else none))))) else none) (fun z218 => some (.inr (z218, s))) x216)) (fun z215 => some (.inr (z215, s))) x213)) else ((o_X11_within τ n s a8 (nI 0) (nI 1000000)).bind fun x226 => (if x226 = 0 then ((o_X11_needArgument τ n s (nI 0)).bind fun x228 => (Sum.elim (fun y229 => (o_X11_needRoom τ n s (s.1 (o + 37) 3) (nI 80)).bind fun x231 => (Sum.elim (fun y232 => if iL (s.1 (o + 37) 3) 80 then ((o_X9_build τ n (o + 49 + 1 + (s.1 (o + 37) 3).toNatClampNeg) s a2 a3 a4 a7).bind fun x235 => ((some (cp (cp x235 (o + 49 + 1 + (s.1 (o + 37) 3).toNatClampNeg) 4 a5) (o + 49 + 1 + (s.1 (o + 37) 3).toNatClampNeg) 5 a6)).bind fun x236 => ((some (cp (cp x236 (o + 49 + 1 + (s.1 (o + 37) 3).toNatClampNeg) 6 a1) (o + 49 + 1 + (s.1 (o + 37) 3).toNatClampNeg) 7 a8)).bind fun x237 => ((o_X2_actOfToday F τ n (o + 10) x237).bind fun x238 => (if acb τ n x238 = true then ((o_X9_come τ n (o + 49 + 1 + (s.1 (o + 37) 3).toNatClampNeg) x238 x237 (x237.1 (o + 10) 0)).bind fun x240 => (some (.inl (((cp x240 (o + 37) 3 ((x240.1 (o + 37) 3) + (nI 1))).1 (o + 37) 3) - (nI 1), cp x240 (o + 37) 3 ((x240.1 (o + 37) 3) + (nI 1)))))) else none))))) else none) (fun z233 => some (.inr (z233, s))) x231)) (fun z230 => some (.inr (z230, s))) x228)) else ((o_X11_needArgument τ n s (nI 1)).bind fun x241 => (Sum.elim (fun y242 => (o_X11_needRoom τ n s (s.1 (o + 37) 3) (nI 80)).bind fun x244 => (Sum.elim (fun y245 => if iL (s.1 (o + 37) 3) 80 then ((o_X9_build τ n (o + 49 + 1 + (s.1 (o + 37) 3).toNatClampNeg) s a2 a3 a4 a7).bind fun x248 => ((some (cp (cp x248 (o + 49 + 1 + (s.1 (o + 37) 3).toNatClampNeg) 4 a5) (o + 49 + 1 + (s.1 (o + 37) 3).toNatClampNeg) 5 a6)).bind fun x249 => ((some (cp (cp x249 (o + 49 + 1 + (s.1 (o + 37) 3).toNatClampNeg) 6 a1) (o + 49 + 1 + (s.1 (o + 37) 3).toNatClampNeg) 7 a8)).bind fun x250 => ((o_X2_actOfToday F τ n (o + 10) x250).bind fun x251 => (if acb τ n x251 = true then ((o_X9_come τ n (o + 49 + 1 + (s.1 (o + 37) 3).toNatClampNeg) x251 x250 (x250.1 (o + 10) 0)).bind fun x253 => (some (.inl (((cp x253 (o + 37) 3 ((x253.1 (o + 37) 3) + (nI 1))).1 (o + 37) 3) - (nI 1), cp x253 (o + 37) 3 ((x253.1 (o + 37) 3) + (nI 1)))))) else none))))) else none) (fun z246 => some (.inr (z246, s))) x244)) (fun z243 => some (.inr (z243, s))) x241)))))))) (fun z195 => some (.inr (z195, s))) x193)))))))) (fun z3 => some (.inr (z3, s))) x1)
set_option maxHeartbeats 4000000 in
theorem t_X11_ship {Γ : jg_G} {g : Nat → jg_C} (F : Nat) (τ : cT) (n : Nat) (o : Nat) (s : cS) (a1 : Int32) (a2 : Int32) (a3 : Int32) (a4 : Int32) (a5 : Int32) (a6 : Int32) (a7 : Int32) (a8 : Int32) (hO : Sh τ n o) {x : Int32 × cS} (h : o_X11_ship F τ n o s a1 a2 a3 a4 a5 a6 a7 a8 = some (.inl x)) : jc Γ mX11_ship 7 0 0 [some (.ref o), some (.int a1), some (.int a2), some (.int a3), some (.int a4), some (.int a5), some (.int a6), some (.int a7), some (.int a8), none] (ct_h g τ s, n) (.inl (some (.int x.1))) (ct_h g τ x.2, n) := by
  refine jc_of ?_
  rw [o_X11_ship] at h
  refine jg_iload_n dX11_ship_0 rfl ?_
  refine jg_aload_n dX11_ship_1 rfl ?_
  refine cs_get (s := s) (w := .ref (o + 10)) fl_X11_27 dX11_ship_2 hO.ob0 rfl ?_
  refine cs_get (s := s) (w := .ref (o + 131)) fl_X11_141 dX11_ship_5 hO.1.ob0 rfl ?_
  refine cs_get (s := s) (w := .int (s.1 (o + 131) 6)) fl_X11_145 dX11_ship_8 (hO.1.ob 121 (by decide) rfl) rfl ?_
  obtain ⟨x1, e_x1, h⟩ := bd_some h
  rcases x1 with y2 | z3
  · replace h := se_l h
    refine cs_callS (As := [.int a1, .int (s.1 (o + 131) 6)]) ks_X11_90 dX11_ship_11 rfl (by decide) (Nat.le_of_ble_eq_true rfl) rfl (by decide) (Nat.le_of_ble_eq_true rfl) (t_X11_needIndex τ n s a1 (s.1 (o + 131) 6) e_x1) ?_
    refine jg_iload_n dX11_ship_14 rfl ?_
    refine jg_iconst (v := nI 0) dX11_ship_15 (by decide) ?_
    refine jg_iconst (v := nI 5) dX11_ship_16 (by decide) ?_
    obtain ⟨x4, e_x4, h⟩ := bd_some h
    refine cs_callS (As := [.int a2, .int (nI 0), .int (nI 5)]) ks_X11_41 dX11_ship_17 rfl (by decide) (Nat.le_of_ble_eq_true rfl) rfl (by decide) (Nat.le_of_ble_eq_true rfl) (t_X11_within τ n s a2 (nI 0) (nI 5) e_x4) ?_
    refine jg_if_eq (x := x4) (tgt := 50) dX11_ship_20 (by decide) (fun c5 => ?_) (fun c5 => ?_)
    · replace h := it_t c5 h
      refine jg_iconst (v := nI 0) dX11_ship_50 (by decide) ?_
      obtain ⟨x6, e_x6, h⟩ := bd_some h
      rcases x6 with y7 | z8
      · replace h := se_l h
        refine cs_callS (As := [.int (nI 0)]) ks_X11_45 dX11_ship_51 rfl (by decide) (Nat.le_of_ble_eq_true rfl) rfl (by decide) (Nat.le_of_ble_eq_true rfl) (t_X11_needArgument τ n s (nI 0) e_x6) ?_
        refine jg_iload dX11_ship_54 rfl ?_
        refine jg_iconst (v := nI 1) dX11_ship_56 (by decide) ?_
        refine jg_bipush (v := nI 80) dX11_ship_57 (by decide) ?_
        obtain ⟨x9, e_x9, h⟩ := bd_some h
        refine cs_callS (As := [.int a5, .int (nI 1), .int (nI 80)]) ks_X11_41 dX11_ship_59 rfl (by decide) (Nat.le_of_ble_eq_true rfl) rfl (by decide) (Nat.le_of_ble_eq_true rfl) (t_X11_within τ n s a5 (nI 1) (nI 80) e_x9) ?_
        refine jg_if_eq (x := x9) (tgt := 91) dX11_ship_62 (by decide) (fun c10 => ?_) (fun c10 => ?_)
        · replace h := it_t c10 h
          refine jg_iconst (v := nI 0) dX11_ship_91 (by decide) ?_
          obtain ⟨x11, e_x11, h⟩ := bd_some h
          rcases x11 with y12 | z13
          · replace h := se_l h
            refine cs_callS (As := [.int (nI 0)]) ks_X11_45 dX11_ship_92 rfl (by decide) (Nat.le_of_ble_eq_true rfl) rfl (by decide) (Nat.le_of_ble_eq_true rfl) (t_X11_needArgument τ n s (nI 0) e_x11) ?_
            refine jg_aload_n dX11_ship_95 rfl ?_
            refine cs_get (s := s) (w := .ref (o + 10)) fl_X11_27 dX11_ship_96 hO.ob0 rfl ?_
            refine cs_get (s := s) (w := .ref (o + 37)) fl_X11_123 dX11_ship_99 hO.1.ob0 rfl ?_
            refine cs_get (s := s) (w := .int (s.1 (o + 37) 3)) fl_X11_154 dX11_ship_102 (hO.1.ob 27 (by decide) rfl) rfl ?_
            refine jg_bipush (v := nI 80) dX11_ship_105 (by decide) ?_
            obtain ⟨x14, e_x14, h⟩ := bd_some h
            rcases x14 with y15 | z16
            · replace h := se_l h
              refine cs_callS (As := [.int (s.1 (o + 37) 3), .int (nI 80)]) ks_X11_82 dX11_ship_107 rfl (by decide) (Nat.le_of_ble_eq_true rfl) rfl (by decide) (Nat.le_of_ble_eq_true rfl) (t_X11_needRoom τ n s (s.1 (o + 37) 3) (nI 80) e_x14) ?_
              refine jg_aload_n dX11_ship_110 rfl ?_
              refine cs_get (s := s) (w := .ref (o + 10)) fl_X11_27 dX11_ship_111 hO.ob0 rfl ?_
              refine cs_get (s := s) (w := .ref (o + 37)) fl_X11_123 dX11_ship_114 hO.1.ob0 rfl ?_
              refine cs_get (s := s) (w := .ref (o + 49)) fl_X11_157 dX11_ship_117 (hO.1.ob 27 (by decide) rfl) rfl ?_
              refine jg_aload_n dX11_ship_120 rfl ?_
              refine cs_get (s := s) (w := .ref (o + 10)) fl_X11_27 dX11_ship_121 hO.ob0 rfl ?_
              refine cs_get (s := s) (w := .ref (o + 37)) fl_X11_123 dX11_ship_124 hO.1.ob0 rfl ?_
              refine cs_get (s := s) (w := .int (s.1 (o + 37) 3)) fl_X11_154 dX11_ship_127 (hO.1.ob 27 (by decide) rfl) rfl ?_
              obtain ⟨q17, h⟩ := gd_some h
              refine cs_ldr (s := s) (q := (o + 49)) (i := (s.1 (o + 37) 3)) (kd := 6) (by decide) dX11_ship_130 (hO.1.ar 39 (by decide) rfl) q17 ?_
              refine jg_astore (L' := [some (.ref o), some (.int a1), some (.int a2), some (.int a3), some (.int a4), some (.int a5), some (.int a6), some (.int a7), some (.int a8), some (.ref (o + 49 + 1 + (s.1 (o + 37) 3).toNatClampNeg))]) dX11_ship_131 (by decide) rfl ?_
              refine jg_aload dX11_ship_133 rfl ?_
              refine jg_iload_n dX11_ship_135 rfl ?_
              refine jg_iload_n dX11_ship_136 rfl ?_
              refine jg_iload dX11_ship_137 rfl ?_
              refine jg_iload dX11_ship_139 rfl ?_
              obtain ⟨x18, e_x18, h⟩ := bd_some h
              refine cs_call (q := (o + 49 + 1 + (s.1 (o + 37) 3).toNatClampNeg)) (As := [.int a2, .int a3, .int a4, .int a7]) kv_X11_161 dX11_ship_141 (hO.1.ship q17.2) rfl rfl (by decide) (Nat.le_of_ble_eq_true rfl) rfl (by decide) (Nat.le_of_ble_eq_true rfl) (t_X9_build τ n (o + 49 + 1 + (s.1 (o + 37) 3).toNatClampNeg) s a2 a3 a4 a7 (hO.1.ship q17.2) e_x18) ?_
              refine jg_aload dX11_ship_144 rfl ?_
              refine jg_iload dX11_ship_146 rfl ?_
              refine cs_put (s := x18) (k := 4) (x := a5) fl_X11_167 dX11_ship_148 (hO.1.ship q17.2) (ltb rfl) (rfl) rfl rfl ?_
              refine jg_aload dX11_ship_151 rfl ?_
              refine jg_iload dX11_ship_153 rfl ?_
              refine cs_put (s := (cp x18 (o + 49 + 1 + (s.1 (o + 37) 3).toNatClampNeg) 4 a5)) (k := 5) (x := a6) fl_X11_170 dX11_ship_155 (hO.1.ship q17.2) (ltb rfl) (rfl) rfl rfl ?_
              obtain ⟨x19, e_x19, h⟩ := bd_some h
              refine cs_sub (Option.some.inj e_x19) ?_
              refine jg_aload dX11_ship_158 rfl ?_
              refine jg_iload_n dX11_ship_160 rfl ?_
              refine cs_put (s := x19) (k := 6) (x := a1) fl_X11_173 dX11_ship_161 (hO.1.ship q17.2) (ltb rfl) (rfl) rfl rfl ?_
              refine jg_aload dX11_ship_164 rfl ?_
              refine jg_iload dX11_ship_166 rfl ?_
              refine cs_put (s := (cp x19 (o + 49 + 1 + (s.1 (o + 37) 3).toNatClampNeg) 6 a1)) (k := 7) (x := a8) fl_X11_176 dX11_ship_168 (hO.1.ship q17.2) (ltb rfl) (rfl) rfl rfl ?_
              obtain ⟨x20, e_x20, h⟩ := bd_some h
              refine cs_sub (Option.some.inj e_x20) ?_
              refine jg_aload dX11_ship_171 rfl ?_
              refine jg_aload_n dX11_ship_173 rfl ?_
              refine cs_get (s := x20) (w := .ref (o + 10)) fl_X11_27 dX11_ship_174 hO.ob0 rfl ?_
              refine cs_get (s := x20) (w := .int (x20.1 (o + 10) 0)) fl_X11_49 dX11_ship_177 hO.1.ob0 rfl ?_
              refine jg_aload_n dX11_ship_180 rfl ?_
              refine cs_get (s := x20) (w := .ref (o + 10)) fl_X11_27 dX11_ship_181 hO.ob0 rfl ?_
              obtain ⟨x21, e_x21, h⟩ := bd_some h
              refine cs_call (q := (o + 10)) (As := []) kv_X11_179 dX11_ship_184 hO.1.ob0 rfl rfl (by decide) (Nat.le_of_ble_eq_true rfl) rfl (by decide) (Nat.le_of_ble_eq_true rfl) (t_X2_actOfToday F τ n (o + 10) x20 hO.1 e_x21) ?_
              obtain ⟨q22, h⟩ := gd_some h
              obtain ⟨x23, e_x23, h⟩ := bd_some h
              refine cs_call (q := (o + 49 + 1 + (s.1 (o + 37) 3).toNatClampNeg)) (As := [.int (x20.1 (o + 10) 0), .ref x21]) kv_X11_183 dX11_ship_187 (hO.1.ship q17.2) rfl rfl (by decide) (Nat.le_of_ble_eq_true rfl) rfl (by decide) (Nat.le_of_ble_eq_true rfl) (t_X9_come τ n (o + 49 + 1 + (s.1 (o + 37) 3).toNatClampNeg) x21 x20 (x20.1 (o + 10) 0) (hO.1.ship q17.2) q22 e_x23) ?_
              refine jg_aload_n dX11_ship_190 rfl ?_
              refine cs_get (s := x23) (w := .ref (o + 10)) fl_X11_27 dX11_ship_191 hO.ob0 rfl ?_
              refine cs_get (s := x23) (w := .ref (o + 37)) fl_X11_123 dX11_ship_194 hO.1.ob0 rfl ?_
              refine jg_dup dX11_ship_197 rfl ?_
              refine cs_get (s := x23) (w := .int (x23.1 (o + 37) 3)) fl_X11_154 dX11_ship_198 (hO.1.ob 27 (by decide) rfl) rfl ?_
              refine jg_iconst (v := nI 1) dX11_ship_201 (by decide) ?_
              refine jg_iadd (x := (x23.1 (o + 37) 3)) (y := (nI 1)) dX11_ship_202  ?_
              refine cs_put (s := x23) (k := 3) (x := ((x23.1 (o + 37) 3) + (nI 1))) fl_X11_154 dX11_ship_203 (hO.1.ob 27 (by decide) rfl) (ltb rfl) (rfl) rfl rfl ?_
              refine jg_aload_n dX11_ship_206 rfl ?_
              refine cs_get (s := (cp x23 (o + 37) 3 ((x23.1 (o + 37) 3) + (nI 1)))) (w := .ref (o + 10)) fl_X11_27 dX11_ship_207 hO.ob0 rfl ?_
              refine cs_get (s := (cp x23 (o + 37) 3 ((x23.1 (o + 37) 3) + (nI 1)))) (w := .ref (o + 37)) fl_X11_123 dX11_ship_210 hO.1.ob0 rfl ?_
              refine cs_get (s := (cp x23 (o + 37) 3 ((x23.1 (o + 37) 3) + (nI 1)))) (w := .int ((cp x23 (o + 37) 3 ((x23.1 (o + 37) 3) + (nI 1))).1 (o + 37) 3)) fl_X11_154 dX11_ship_213 (hO.1.ob 27 (by decide) rfl) rfl ?_
              refine jg_iconst (v := nI 1) dX11_ship_216 (by decide) ?_
              refine jg_isub (x := ((cp x23 (o + 37) 3 ((x23.1 (o + 37) 3) + (nI 1))).1 (o + 37) 3)) (y := (nI 1)) dX11_ship_217  ?_
              obtain rfl := Sum.inl.inj (Option.some.inj h)
              exact jg_ireturn dX11_ship_218 rfl ⟨rfl, rfl⟩
            · replace h := se_r h
              cases h
          · replace h := se_r h
            cases h
        · replace h := it_f c10 h
          refine jg_iload dX11_ship_65 rfl ?_
          refine jg_iconst (v := nI 1) dX11_ship_67 (by decide) ?_
          refine jg_bipush (v := nI 80) dX11_ship_68 (by decide) ?_
          obtain ⟨x24, e_x24, h⟩ := bd_some h
          refine cs_callS (As := [.int a6, .int (nI 1), .int (nI 80)]) ks_X11_41 dX11_ship_70 rfl (by decide) (Nat.le_of_ble_eq_true rfl) rfl (by decide) (Nat.le_of_ble_eq_true rfl) (t_X11_within τ n s a6 (nI 1) (nI 80) e_x24) ?_
          refine jg_if_eq (x := x24) (tgt := 91) dX11_ship_73 (by decide) (fun c25 => ?_) (fun c25 => ?_)
          · replace h := it_t c25 h
            refine jg_iconst (v := nI 0) dX11_ship_91 (by decide) ?_
            obtain ⟨x26, e_x26, h⟩ := bd_some h
            rcases x26 with y27 | z28
            · replace h := se_l h
              refine cs_callS (As := [.int (nI 0)]) ks_X11_45 dX11_ship_92 rfl (by decide) (Nat.le_of_ble_eq_true rfl) rfl (by decide) (Nat.le_of_ble_eq_true rfl) (t_X11_needArgument τ n s (nI 0) e_x26) ?_
              refine jg_aload_n dX11_ship_95 rfl ?_
              refine cs_get (s := s) (w := .ref (o + 10)) fl_X11_27 dX11_ship_96 hO.ob0 rfl ?_
              refine cs_get (s := s) (w := .ref (o + 37)) fl_X11_123 dX11_ship_99 hO.1.ob0 rfl ?_
              refine cs_get (s := s) (w := .int (s.1 (o + 37) 3)) fl_X11_154 dX11_ship_102 (hO.1.ob 27 (by decide) rfl) rfl ?_
              refine jg_bipush (v := nI 80) dX11_ship_105 (by decide) ?_
              obtain ⟨x29, e_x29, h⟩ := bd_some h
              rcases x29 with y30 | z31
              · replace h := se_l h
                refine cs_callS (As := [.int (s.1 (o + 37) 3), .int (nI 80)]) ks_X11_82 dX11_ship_107 rfl (by decide) (Nat.le_of_ble_eq_true rfl) rfl (by decide) (Nat.le_of_ble_eq_true rfl) (t_X11_needRoom τ n s (s.1 (o + 37) 3) (nI 80) e_x29) ?_
                refine jg_aload_n dX11_ship_110 rfl ?_
                refine cs_get (s := s) (w := .ref (o + 10)) fl_X11_27 dX11_ship_111 hO.ob0 rfl ?_
                refine cs_get (s := s) (w := .ref (o + 37)) fl_X11_123 dX11_ship_114 hO.1.ob0 rfl ?_
                refine cs_get (s := s) (w := .ref (o + 49)) fl_X11_157 dX11_ship_117 (hO.1.ob 27 (by decide) rfl) rfl ?_
                refine jg_aload_n dX11_ship_120 rfl ?_
                refine cs_get (s := s) (w := .ref (o + 10)) fl_X11_27 dX11_ship_121 hO.ob0 rfl ?_
                refine cs_get (s := s) (w := .ref (o + 37)) fl_X11_123 dX11_ship_124 hO.1.ob0 rfl ?_
                refine cs_get (s := s) (w := .int (s.1 (o + 37) 3)) fl_X11_154 dX11_ship_127 (hO.1.ob 27 (by decide) rfl) rfl ?_
                obtain ⟨q32, h⟩ := gd_some h
                refine cs_ldr (s := s) (q := (o + 49)) (i := (s.1 (o + 37) 3)) (kd := 6) (by decide) dX11_ship_130 (hO.1.ar 39 (by decide) rfl) q32 ?_
                refine jg_astore (L' := [some (.ref o), some (.int a1), some (.int a2), some (.int a3), some (.int a4), some (.int a5), some (.int a6), some (.int a7), some (.int a8), some (.ref (o + 49 + 1 + (s.1 (o + 37) 3).toNatClampNeg))]) dX11_ship_131 (by decide) rfl ?_
                refine jg_aload dX11_ship_133 rfl ?_
                refine jg_iload_n dX11_ship_135 rfl ?_
                refine jg_iload_n dX11_ship_136 rfl ?_
                refine jg_iload dX11_ship_137 rfl ?_
                refine jg_iload dX11_ship_139 rfl ?_
                obtain ⟨x33, e_x33, h⟩ := bd_some h
                refine cs_call (q := (o + 49 + 1 + (s.1 (o + 37) 3).toNatClampNeg)) (As := [.int a2, .int a3, .int a4, .int a7]) kv_X11_161 dX11_ship_141 (hO.1.ship q32.2) rfl rfl (by decide) (Nat.le_of_ble_eq_true rfl) rfl (by decide) (Nat.le_of_ble_eq_true rfl) (t_X9_build τ n (o + 49 + 1 + (s.1 (o + 37) 3).toNatClampNeg) s a2 a3 a4 a7 (hO.1.ship q32.2) e_x33) ?_
                refine jg_aload dX11_ship_144 rfl ?_
                refine jg_iload dX11_ship_146 rfl ?_
                refine cs_put (s := x33) (k := 4) (x := a5) fl_X11_167 dX11_ship_148 (hO.1.ship q32.2) (ltb rfl) (rfl) rfl rfl ?_
                refine jg_aload dX11_ship_151 rfl ?_
                refine jg_iload dX11_ship_153 rfl ?_
                refine cs_put (s := (cp x33 (o + 49 + 1 + (s.1 (o + 37) 3).toNatClampNeg) 4 a5)) (k := 5) (x := a6) fl_X11_170 dX11_ship_155 (hO.1.ship q32.2) (ltb rfl) (rfl) rfl rfl ?_
                obtain ⟨x34, e_x34, h⟩ := bd_some h
                refine cs_sub (Option.some.inj e_x34) ?_
                refine jg_aload dX11_ship_158 rfl ?_
                refine jg_iload_n dX11_ship_160 rfl ?_
                refine cs_put (s := x34) (k := 6) (x := a1) fl_X11_173 dX11_ship_161 (hO.1.ship q32.2) (ltb rfl) (rfl) rfl rfl ?_
                refine jg_aload dX11_ship_164 rfl ?_
                refine jg_iload dX11_ship_166 rfl ?_
                refine cs_put (s := (cp x34 (o + 49 + 1 + (s.1 (o + 37) 3).toNatClampNeg) 6 a1)) (k := 7) (x := a8) fl_X11_176 dX11_ship_168 (hO.1.ship q32.2) (ltb rfl) (rfl) rfl rfl ?_
                obtain ⟨x35, e_x35, h⟩ := bd_some h
                refine cs_sub (Option.some.inj e_x35) ?_
                refine jg_aload dX11_ship_171 rfl ?_
                refine jg_aload_n dX11_ship_173 rfl ?_
                refine cs_get (s := x35) (w := .ref (o + 10)) fl_X11_27 dX11_ship_174 hO.ob0 rfl ?_
                refine cs_get (s := x35) (w := .int (x35.1 (o + 10) 0)) fl_X11_49 dX11_ship_177 hO.1.ob0 rfl ?_
                refine jg_aload_n dX11_ship_180 rfl ?_
                refine cs_get (s := x35) (w := .ref (o + 10)) fl_X11_27 dX11_ship_181 hO.ob0 rfl ?_
                obtain ⟨x36, e_x36, h⟩ := bd_some h
                refine cs_call (q := (o + 10)) (As := []) kv_X11_179 dX11_ship_184 hO.1.ob0 rfl rfl (by decide) (Nat.le_of_ble_eq_true rfl) rfl (by decide) (Nat.le_of_ble_eq_true rfl) (t_X2_actOfToday F τ n (o + 10) x35 hO.1 e_x36) ?_
                obtain ⟨q37, h⟩ := gd_some h
                obtain ⟨x38, e_x38, h⟩ := bd_some h
                refine cs_call (q := (o + 49 + 1 + (s.1 (o + 37) 3).toNatClampNeg)) (As := [.int (x35.1 (o + 10) 0), .ref x36]) kv_X11_183 dX11_ship_187 (hO.1.ship q32.2) rfl rfl (by decide) (Nat.le_of_ble_eq_true rfl) rfl (by decide) (Nat.le_of_ble_eq_true rfl) (t_X9_come τ n (o + 49 + 1 + (s.1 (o + 37) 3).toNatClampNeg) x36 x35 (x35.1 (o + 10) 0) (hO.1.ship q32.2) q37 e_x38) ?_
                refine jg_aload_n dX11_ship_190 rfl ?_
                refine cs_get (s := x38) (w := .ref (o + 10)) fl_X11_27 dX11_ship_191 hO.ob0 rfl ?_
                refine cs_get (s := x38) (w := .ref (o + 37)) fl_X11_123 dX11_ship_194 hO.1.ob0 rfl ?_
                refine jg_dup dX11_ship_197 rfl ?_
                refine cs_get (s := x38) (w := .int (x38.1 (o + 37) 3)) fl_X11_154 dX11_ship_198 (hO.1.ob 27 (by decide) rfl) rfl ?_
                refine jg_iconst (v := nI 1) dX11_ship_201 (by decide) ?_
                refine jg_iadd (x := (x38.1 (o + 37) 3)) (y := (nI 1)) dX11_ship_202  ?_
                refine cs_put (s := x38) (k := 3) (x := ((x38.1 (o + 37) 3) + (nI 1))) fl_X11_154 dX11_ship_203 (hO.1.ob 27 (by decide) rfl) (ltb rfl) (rfl) rfl rfl ?_
                refine jg_aload_n dX11_ship_206 rfl ?_
                refine cs_get (s := (cp x38 (o + 37) 3 ((x38.1 (o + 37) 3) + (nI 1)))) (w := .ref (o + 10)) fl_X11_27 dX11_ship_207 hO.ob0 rfl ?_
                refine cs_get (s := (cp x38 (o + 37) 3 ((x38.1 (o + 37) 3) + (nI 1)))) (w := .ref (o + 37)) fl_X11_123 dX11_ship_210 hO.1.ob0 rfl ?_
                refine cs_get (s := (cp x38 (o + 37) 3 ((x38.1 (o + 37) 3) + (nI 1)))) (w := .int ((cp x38 (o + 37) 3 ((x38.1 (o + 37) 3) + (nI 1))).1 (o + 37) 3)) fl_X11_154 dX11_ship_213 (hO.1.ob 27 (by decide) rfl) rfl ?_
                refine jg_iconst (v := nI 1) dX11_ship_216 (by decide) ?_
                refine jg_isub (x := ((cp x38 (o + 37) 3 ((x38.1 (o + 37) 3) + (nI 1))).1 (o + 37) 3)) (y := (nI 1)) dX11_ship_217  ?_
                obtain rfl := Sum.inl.inj (Option.some.inj h)
                exact jg_ireturn dX11_ship_218 rfl ⟨rfl, rfl⟩
              · replace h := se_r h
                cases h
            · replace h := se_r h
              cases h
          · replace h := it_f c25 h
            refine jg_iload dX11_ship_76 rfl ?_
            refine jg_iconst (v := nI 0) dX11_ship_78 (by decide) ?_
            refine jg_ldc kk_X11_153 dX11_ship_79 ?_
            rw [show (1000000 : Int32) = nI 1000000 from rfl]
            obtain ⟨x39, e_x39, h⟩ := bd_some h
            refine cs_callS (As := [.int a8, .int (nI 0), .int (nI 1000000)]) ks_X11_41 dX11_ship_81 rfl (by decide) (Nat.le_of_ble_eq_true rfl) rfl (by decide) (Nat.le_of_ble_eq_true rfl) (t_X11_within τ n s a8 (nI 0) (nI 1000000) e_x39) ?_
            refine jg_if_eq (x := x39) (tgt := 91) dX11_ship_84 (by decide) (fun c40 => ?_) (fun c40 => ?_)
            · replace h := it_t c40 h
              refine jg_iconst (v := nI 0) dX11_ship_91 (by decide) ?_
              obtain ⟨x41, e_x41, h⟩ := bd_some h
              rcases x41 with y42 | z43
              · replace h := se_l h
                refine cs_callS (As := [.int (nI 0)]) ks_X11_45 dX11_ship_92 rfl (by decide) (Nat.le_of_ble_eq_true rfl) rfl (by decide) (Nat.le_of_ble_eq_true rfl) (t_X11_needArgument τ n s (nI 0) e_x41) ?_
                refine jg_aload_n dX11_ship_95 rfl ?_
                refine cs_get (s := s) (w := .ref (o + 10)) fl_X11_27 dX11_ship_96 hO.ob0 rfl ?_
                refine cs_get (s := s) (w := .ref (o + 37)) fl_X11_123 dX11_ship_99 hO.1.ob0 rfl ?_
                refine cs_get (s := s) (w := .int (s.1 (o + 37) 3)) fl_X11_154 dX11_ship_102 (hO.1.ob 27 (by decide) rfl) rfl ?_
                refine jg_bipush (v := nI 80) dX11_ship_105 (by decide) ?_
                obtain ⟨x44, e_x44, h⟩ := bd_some h
                rcases x44 with y45 | z46
                · replace h := se_l h
                  refine cs_callS (As := [.int (s.1 (o + 37) 3), .int (nI 80)]) ks_X11_82 dX11_ship_107 rfl (by decide) (Nat.le_of_ble_eq_true rfl) rfl (by decide) (Nat.le_of_ble_eq_true rfl) (t_X11_needRoom τ n s (s.1 (o + 37) 3) (nI 80) e_x44) ?_
                  refine jg_aload_n dX11_ship_110 rfl ?_
                  refine cs_get (s := s) (w := .ref (o + 10)) fl_X11_27 dX11_ship_111 hO.ob0 rfl ?_
                  refine cs_get (s := s) (w := .ref (o + 37)) fl_X11_123 dX11_ship_114 hO.1.ob0 rfl ?_
                  refine cs_get (s := s) (w := .ref (o + 49)) fl_X11_157 dX11_ship_117 (hO.1.ob 27 (by decide) rfl) rfl ?_
                  refine jg_aload_n dX11_ship_120 rfl ?_
                  refine cs_get (s := s) (w := .ref (o + 10)) fl_X11_27 dX11_ship_121 hO.ob0 rfl ?_
                  refine cs_get (s := s) (w := .ref (o + 37)) fl_X11_123 dX11_ship_124 hO.1.ob0 rfl ?_
                  refine cs_get (s := s) (w := .int (s.1 (o + 37) 3)) fl_X11_154 dX11_ship_127 (hO.1.ob 27 (by decide) rfl) rfl ?_
                  obtain ⟨q47, h⟩ := gd_some h
                  refine cs_ldr (s := s) (q := (o + 49)) (i := (s.1 (o + 37) 3)) (kd := 6) (by decide) dX11_ship_130 (hO.1.ar 39 (by decide) rfl) q47 ?_
                  refine jg_astore (L' := [some (.ref o), some (.int a1), some (.int a2), some (.int a3), some (.int a4), some (.int a5), some (.int a6), some (.int a7), some (.int a8), some (.ref (o + 49 + 1 + (s.1 (o + 37) 3).toNatClampNeg))]) dX11_ship_131 (by decide) rfl ?_
                  refine jg_aload dX11_ship_133 rfl ?_
                  refine jg_iload_n dX11_ship_135 rfl ?_
                  refine jg_iload_n dX11_ship_136 rfl ?_
                  refine jg_iload dX11_ship_137 rfl ?_
                  refine jg_iload dX11_ship_139 rfl ?_
                  obtain ⟨x48, e_x48, h⟩ := bd_some h
                  refine cs_call (q := (o + 49 + 1 + (s.1 (o + 37) 3).toNatClampNeg)) (As := [.int a2, .int a3, .int a4, .int a7]) kv_X11_161 dX11_ship_141 (hO.1.ship q47.2) rfl rfl (by decide) (Nat.le_of_ble_eq_true rfl) rfl (by decide) (Nat.le_of_ble_eq_true rfl) (t_X9_build τ n (o + 49 + 1 + (s.1 (o + 37) 3).toNatClampNeg) s a2 a3 a4 a7 (hO.1.ship q47.2) e_x48) ?_
                  refine jg_aload dX11_ship_144 rfl ?_
                  refine jg_iload dX11_ship_146 rfl ?_
                  refine cs_put (s := x48) (k := 4) (x := a5) fl_X11_167 dX11_ship_148 (hO.1.ship q47.2) (ltb rfl) (rfl) rfl rfl ?_
                  refine jg_aload dX11_ship_151 rfl ?_
                  refine jg_iload dX11_ship_153 rfl ?_
                  refine cs_put (s := (cp x48 (o + 49 + 1 + (s.1 (o + 37) 3).toNatClampNeg) 4 a5)) (k := 5) (x := a6) fl_X11_170 dX11_ship_155 (hO.1.ship q47.2) (ltb rfl) (rfl) rfl rfl ?_
                  obtain ⟨x49, e_x49, h⟩ := bd_some h
                  refine cs_sub (Option.some.inj e_x49) ?_
                  refine jg_aload dX11_ship_158 rfl ?_
                  refine jg_iload_n dX11_ship_160 rfl ?_
                  refine cs_put (s := x49) (k := 6) (x := a1) fl_X11_173 dX11_ship_161 (hO.1.ship q47.2) (ltb rfl) (rfl) rfl rfl ?_
                  refine jg_aload dX11_ship_164 rfl ?_
                  refine jg_iload dX11_ship_166 rfl ?_
                  refine cs_put (s := (cp x49 (o + 49 + 1 + (s.1 (o + 37) 3).toNatClampNeg) 6 a1)) (k := 7) (x := a8) fl_X11_176 dX11_ship_168 (hO.1.ship q47.2) (ltb rfl) (rfl) rfl rfl ?_
                  obtain ⟨x50, e_x50, h⟩ := bd_some h
                  refine cs_sub (Option.some.inj e_x50) ?_
                  refine jg_aload dX11_ship_171 rfl ?_
                  refine jg_aload_n dX11_ship_173 rfl ?_
                  refine cs_get (s := x50) (w := .ref (o + 10)) fl_X11_27 dX11_ship_174 hO.ob0 rfl ?_
                  refine cs_get (s := x50) (w := .int (x50.1 (o + 10) 0)) fl_X11_49 dX11_ship_177 hO.1.ob0 rfl ?_
                  refine jg_aload_n dX11_ship_180 rfl ?_
                  refine cs_get (s := x50) (w := .ref (o + 10)) fl_X11_27 dX11_ship_181 hO.ob0 rfl ?_
                  obtain ⟨x51, e_x51, h⟩ := bd_some h
                  refine cs_call (q := (o + 10)) (As := []) kv_X11_179 dX11_ship_184 hO.1.ob0 rfl rfl (by decide) (Nat.le_of_ble_eq_true rfl) rfl (by decide) (Nat.le_of_ble_eq_true rfl) (t_X2_actOfToday F τ n (o + 10) x50 hO.1 e_x51) ?_
                  obtain ⟨q52, h⟩ := gd_some h
                  obtain ⟨x53, e_x53, h⟩ := bd_some h
                  refine cs_call (q := (o + 49 + 1 + (s.1 (o + 37) 3).toNatClampNeg)) (As := [.int (x50.1 (o + 10) 0), .ref x51]) kv_X11_183 dX11_ship_187 (hO.1.ship q47.2) rfl rfl (by decide) (Nat.le_of_ble_eq_true rfl) rfl (by decide) (Nat.le_of_ble_eq_true rfl) (t_X9_come τ n (o + 49 + 1 + (s.1 (o + 37) 3).toNatClampNeg) x51 x50 (x50.1 (o + 10) 0) (hO.1.ship q47.2) q52 e_x53) ?_
                  refine jg_aload_n dX11_ship_190 rfl ?_
                  refine cs_get (s := x53) (w := .ref (o + 10)) fl_X11_27 dX11_ship_191 hO.ob0 rfl ?_
                  refine cs_get (s := x53) (w := .ref (o + 37)) fl_X11_123 dX11_ship_194 hO.1.ob0 rfl ?_
                  refine jg_dup dX11_ship_197 rfl ?_
                  refine cs_get (s := x53) (w := .int (x53.1 (o + 37) 3)) fl_X11_154 dX11_ship_198 (hO.1.ob 27 (by decide) rfl) rfl ?_
                  refine jg_iconst (v := nI 1) dX11_ship_201 (by decide) ?_
                  refine jg_iadd (x := (x53.1 (o + 37) 3)) (y := (nI 1)) dX11_ship_202  ?_
                  refine cs_put (s := x53) (k := 3) (x := ((x53.1 (o + 37) 3) + (nI 1))) fl_X11_154 dX11_ship_203 (hO.1.ob 27 (by decide) rfl) (ltb rfl) (rfl) rfl rfl ?_
                  refine jg_aload_n dX11_ship_206 rfl ?_
                  refine cs_get (s := (cp x53 (o + 37) 3 ((x53.1 (o + 37) 3) + (nI 1)))) (w := .ref (o + 10)) fl_X11_27 dX11_ship_207 hO.ob0 rfl ?_
                  refine cs_get (s := (cp x53 (o + 37) 3 ((x53.1 (o + 37) 3) + (nI 1)))) (w := .ref (o + 37)) fl_X11_123 dX11_ship_210 hO.1.ob0 rfl ?_
                  refine cs_get (s := (cp x53 (o + 37) 3 ((x53.1 (o + 37) 3) + (nI 1)))) (w := .int ((cp x53 (o + 37) 3 ((x53.1 (o + 37) 3) + (nI 1))).1 (o + 37) 3)) fl_X11_154 dX11_ship_213 (hO.1.ob 27 (by decide) rfl) rfl ?_
                  refine jg_iconst (v := nI 1) dX11_ship_216 (by decide) ?_
                  refine jg_isub (x := ((cp x53 (o + 37) 3 ((x53.1 (o + 37) 3) + (nI 1))).1 (o + 37) 3)) (y := (nI 1)) dX11_ship_217  ?_
                  obtain rfl := Sum.inl.inj (Option.some.inj h)
                  exact jg_ireturn dX11_ship_218 rfl ⟨rfl, rfl⟩
                · replace h := se_r h
                  cases h
              · replace h := se_r h
                cases h
            · replace h := it_f c40 h
              refine jg_iconst (v := nI 1) dX11_ship_87 (by decide) ?_
              refine jg_goto (tgt := 92) dX11_ship_88 (by decide) ?_
              obtain ⟨x54, e_x54, h⟩ := bd_some h
              rcases x54 with y55 | z56
              · replace h := se_l h
                refine cs_callS (As := [.int (nI 1)]) ks_X11_45 dX11_ship_92 rfl (by decide) (Nat.le_of_ble_eq_true rfl) rfl (by decide) (Nat.le_of_ble_eq_true rfl) (t_X11_needArgument τ n s (nI 1) e_x54) ?_
                refine jg_aload_n dX11_ship_95 rfl ?_
                refine cs_get (s := s) (w := .ref (o + 10)) fl_X11_27 dX11_ship_96 hO.ob0 rfl ?_
                refine cs_get (s := s) (w := .ref (o + 37)) fl_X11_123 dX11_ship_99 hO.1.ob0 rfl ?_
                refine cs_get (s := s) (w := .int (s.1 (o + 37) 3)) fl_X11_154 dX11_ship_102 (hO.1.ob 27 (by decide) rfl) rfl ?_
                refine jg_bipush (v := nI 80) dX11_ship_105 (by decide) ?_
                obtain ⟨x57, e_x57, h⟩ := bd_some h
                rcases x57 with y58 | z59
                · replace h := se_l h
                  refine cs_callS (As := [.int (s.1 (o + 37) 3), .int (nI 80)]) ks_X11_82 dX11_ship_107 rfl (by decide) (Nat.le_of_ble_eq_true rfl) rfl (by decide) (Nat.le_of_ble_eq_true rfl) (t_X11_needRoom τ n s (s.1 (o + 37) 3) (nI 80) e_x57) ?_
                  refine jg_aload_n dX11_ship_110 rfl ?_
                  refine cs_get (s := s) (w := .ref (o + 10)) fl_X11_27 dX11_ship_111 hO.ob0 rfl ?_
                  refine cs_get (s := s) (w := .ref (o + 37)) fl_X11_123 dX11_ship_114 hO.1.ob0 rfl ?_
                  refine cs_get (s := s) (w := .ref (o + 49)) fl_X11_157 dX11_ship_117 (hO.1.ob 27 (by decide) rfl) rfl ?_
                  refine jg_aload_n dX11_ship_120 rfl ?_
                  refine cs_get (s := s) (w := .ref (o + 10)) fl_X11_27 dX11_ship_121 hO.ob0 rfl ?_
                  refine cs_get (s := s) (w := .ref (o + 37)) fl_X11_123 dX11_ship_124 hO.1.ob0 rfl ?_
                  refine cs_get (s := s) (w := .int (s.1 (o + 37) 3)) fl_X11_154 dX11_ship_127 (hO.1.ob 27 (by decide) rfl) rfl ?_
                  obtain ⟨q60, h⟩ := gd_some h
                  refine cs_ldr (s := s) (q := (o + 49)) (i := (s.1 (o + 37) 3)) (kd := 6) (by decide) dX11_ship_130 (hO.1.ar 39 (by decide) rfl) q60 ?_
                  refine jg_astore (L' := [some (.ref o), some (.int a1), some (.int a2), some (.int a3), some (.int a4), some (.int a5), some (.int a6), some (.int a7), some (.int a8), some (.ref (o + 49 + 1 + (s.1 (o + 37) 3).toNatClampNeg))]) dX11_ship_131 (by decide) rfl ?_
                  refine jg_aload dX11_ship_133 rfl ?_
                  refine jg_iload_n dX11_ship_135 rfl ?_
                  refine jg_iload_n dX11_ship_136 rfl ?_
                  refine jg_iload dX11_ship_137 rfl ?_
                  refine jg_iload dX11_ship_139 rfl ?_
                  obtain ⟨x61, e_x61, h⟩ := bd_some h
                  refine cs_call (q := (o + 49 + 1 + (s.1 (o + 37) 3).toNatClampNeg)) (As := [.int a2, .int a3, .int a4, .int a7]) kv_X11_161 dX11_ship_141 (hO.1.ship q60.2) rfl rfl (by decide) (Nat.le_of_ble_eq_true rfl) rfl (by decide) (Nat.le_of_ble_eq_true rfl) (t_X9_build τ n (o + 49 + 1 + (s.1 (o + 37) 3).toNatClampNeg) s a2 a3 a4 a7 (hO.1.ship q60.2) e_x61) ?_
                  refine jg_aload dX11_ship_144 rfl ?_
                  refine jg_iload dX11_ship_146 rfl ?_
                  refine cs_put (s := x61) (k := 4) (x := a5) fl_X11_167 dX11_ship_148 (hO.1.ship q60.2) (ltb rfl) (rfl) rfl rfl ?_
                  refine jg_aload dX11_ship_151 rfl ?_
                  refine jg_iload dX11_ship_153 rfl ?_
                  refine cs_put (s := (cp x61 (o + 49 + 1 + (s.1 (o + 37) 3).toNatClampNeg) 4 a5)) (k := 5) (x := a6) fl_X11_170 dX11_ship_155 (hO.1.ship q60.2) (ltb rfl) (rfl) rfl rfl ?_
                  obtain ⟨x62, e_x62, h⟩ := bd_some h
                  refine cs_sub (Option.some.inj e_x62) ?_
                  refine jg_aload dX11_ship_158 rfl ?_
                  refine jg_iload_n dX11_ship_160 rfl ?_
                  refine cs_put (s := x62) (k := 6) (x := a1) fl_X11_173 dX11_ship_161 (hO.1.ship q60.2) (ltb rfl) (rfl) rfl rfl ?_
                  refine jg_aload dX11_ship_164 rfl ?_
                  refine jg_iload dX11_ship_166 rfl ?_
                  refine cs_put (s := (cp x62 (o + 49 + 1 + (s.1 (o + 37) 3).toNatClampNeg) 6 a1)) (k := 7) (x := a8) fl_X11_176 dX11_ship_168 (hO.1.ship q60.2) (ltb rfl) (rfl) rfl rfl ?_
                  obtain ⟨x63, e_x63, h⟩ := bd_some h
                  refine cs_sub (Option.some.inj e_x63) ?_
                  refine jg_aload dX11_ship_171 rfl ?_
                  refine jg_aload_n dX11_ship_173 rfl ?_
                  refine cs_get (s := x63) (w := .ref (o + 10)) fl_X11_27 dX11_ship_174 hO.ob0 rfl ?_
                  refine cs_get (s := x63) (w := .int (x63.1 (o + 10) 0)) fl_X11_49 dX11_ship_177 hO.1.ob0 rfl ?_
                  refine jg_aload_n dX11_ship_180 rfl ?_
                  refine cs_get (s := x63) (w := .ref (o + 10)) fl_X11_27 dX11_ship_181 hO.ob0 rfl ?_
                  obtain ⟨x64, e_x64, h⟩ := bd_some h
                  refine cs_call (q := (o + 10)) (As := []) kv_X11_179 dX11_ship_184 hO.1.ob0 rfl rfl (by decide) (Nat.le_of_ble_eq_true rfl) rfl (by decide) (Nat.le_of_ble_eq_true rfl) (t_X2_actOfToday F τ n (o + 10) x63 hO.1 e_x64) ?_
                  obtain ⟨q65, h⟩ := gd_some h
                  obtain ⟨x66, e_x66, h⟩ := bd_some h
                  refine cs_call (q := (o + 49 + 1 + (s.1 (o + 37) 3).toNatClampNeg)) (As := [.int (x63.1 (o + 10) 0), .ref x64]) kv_X11_183 dX11_ship_187 (hO.1.ship q60.2) rfl rfl (by decide) (Nat.le_of_ble_eq_true rfl) rfl (by decide) (Nat.le_of_ble_eq_true rfl) (t_X9_come τ n (o + 49 + 1 + (s.1 (o + 37) 3).toNatClampNeg) x64 x63 (x63.1 (o + 10) 0) (hO.1.ship q60.2) q65 e_x66) ?_
                  refine jg_aload_n dX11_ship_190 rfl ?_
                  refine cs_get (s := x66) (w := .ref (o + 10)) fl_X11_27 dX11_ship_191 hO.ob0 rfl ?_
                  refine cs_get (s := x66) (w := .ref (o + 37)) fl_X11_123 dX11_ship_194 hO.1.ob0 rfl ?_
                  refine jg_dup dX11_ship_197 rfl ?_
                  refine cs_get (s := x66) (w := .int (x66.1 (o + 37) 3)) fl_X11_154 dX11_ship_198 (hO.1.ob 27 (by decide) rfl) rfl ?_
                  refine jg_iconst (v := nI 1) dX11_ship_201 (by decide) ?_
                  refine jg_iadd (x := (x66.1 (o + 37) 3)) (y := (nI 1)) dX11_ship_202  ?_
                  refine cs_put (s := x66) (k := 3) (x := ((x66.1 (o + 37) 3) + (nI 1))) fl_X11_154 dX11_ship_203 (hO.1.ob 27 (by decide) rfl) (ltb rfl) (rfl) rfl rfl ?_
                  refine jg_aload_n dX11_ship_206 rfl ?_
                  refine cs_get (s := (cp x66 (o + 37) 3 ((x66.1 (o + 37) 3) + (nI 1)))) (w := .ref (o + 10)) fl_X11_27 dX11_ship_207 hO.ob0 rfl ?_
                  refine cs_get (s := (cp x66 (o + 37) 3 ((x66.1 (o + 37) 3) + (nI 1)))) (w := .ref (o + 37)) fl_X11_123 dX11_ship_210 hO.1.ob0 rfl ?_
                  refine cs_get (s := (cp x66 (o + 37) 3 ((x66.1 (o + 37) 3) + (nI 1)))) (w := .int ((cp x66 (o + 37) 3 ((x66.1 (o + 37) 3) + (nI 1))).1 (o + 37) 3)) fl_X11_154 dX11_ship_213 (hO.1.ob 27 (by decide) rfl) rfl ?_
                  refine jg_iconst (v := nI 1) dX11_ship_216 (by decide) ?_
                  refine jg_isub (x := ((cp x66 (o + 37) 3 ((x66.1 (o + 37) 3) + (nI 1))).1 (o + 37) 3)) (y := (nI 1)) dX11_ship_217  ?_
                  obtain rfl := Sum.inl.inj (Option.some.inj h)
                  exact jg_ireturn dX11_ship_218 rfl ⟨rfl, rfl⟩
                · replace h := se_r h
                  cases h
              · replace h := se_r h
                cases h
      · replace h := se_r h
        cases h
    · replace h := it_f c5 h
      refine jg_iload_n dX11_ship_23 rfl ?_
      refine jg_iconst (v := nI 1) dX11_ship_24 (by decide) ?_
      refine jg_sipush (v := nI 20000) dX11_ship_25 (by decide) ?_
      obtain ⟨x67, e_x67, h⟩ := bd_some h
      refine cs_callS (As := [.int a3, .int (nI 1), .int (nI 20000)]) ks_X11_41 dX11_ship_28 rfl (by decide) (Nat.le_of_ble_eq_true rfl) rfl (by decide) (Nat.le_of_ble_eq_true rfl) (t_X11_within τ n s a3 (nI 1) (nI 20000) e_x67) ?_
      refine jg_if_eq (x := x67) (tgt := 50) dX11_ship_31 (by decide) (fun c68 => ?_) (fun c68 => ?_)
      · replace h := it_t c68 h
        refine jg_iconst (v := nI 0) dX11_ship_50 (by decide) ?_
        obtain ⟨x69, e_x69, h⟩ := bd_some h
        rcases x69 with y70 | z71
        · replace h := se_l h
          refine cs_callS (As := [.int (nI 0)]) ks_X11_45 dX11_ship_51 rfl (by decide) (Nat.le_of_ble_eq_true rfl) rfl (by decide) (Nat.le_of_ble_eq_true rfl) (t_X11_needArgument τ n s (nI 0) e_x69) ?_
          refine jg_iload dX11_ship_54 rfl ?_
          refine jg_iconst (v := nI 1) dX11_ship_56 (by decide) ?_
          refine jg_bipush (v := nI 80) dX11_ship_57 (by decide) ?_
          obtain ⟨x72, e_x72, h⟩ := bd_some h
          refine cs_callS (As := [.int a5, .int (nI 1), .int (nI 80)]) ks_X11_41 dX11_ship_59 rfl (by decide) (Nat.le_of_ble_eq_true rfl) rfl (by decide) (Nat.le_of_ble_eq_true rfl) (t_X11_within τ n s a5 (nI 1) (nI 80) e_x72) ?_
          refine jg_if_eq (x := x72) (tgt := 91) dX11_ship_62 (by decide) (fun c73 => ?_) (fun c73 => ?_)
          · replace h := it_t c73 h
            refine jg_iconst (v := nI 0) dX11_ship_91 (by decide) ?_
            obtain ⟨x74, e_x74, h⟩ := bd_some h
            rcases x74 with y75 | z76
            · replace h := se_l h
              refine cs_callS (As := [.int (nI 0)]) ks_X11_45 dX11_ship_92 rfl (by decide) (Nat.le_of_ble_eq_true rfl) rfl (by decide) (Nat.le_of_ble_eq_true rfl) (t_X11_needArgument τ n s (nI 0) e_x74) ?_
              refine jg_aload_n dX11_ship_95 rfl ?_
              refine cs_get (s := s) (w := .ref (o + 10)) fl_X11_27 dX11_ship_96 hO.ob0 rfl ?_
              refine cs_get (s := s) (w := .ref (o + 37)) fl_X11_123 dX11_ship_99 hO.1.ob0 rfl ?_
              refine cs_get (s := s) (w := .int (s.1 (o + 37) 3)) fl_X11_154 dX11_ship_102 (hO.1.ob 27 (by decide) rfl) rfl ?_
              refine jg_bipush (v := nI 80) dX11_ship_105 (by decide) ?_
              obtain ⟨x77, e_x77, h⟩ := bd_some h
              rcases x77 with y78 | z79
              · replace h := se_l h
                refine cs_callS (As := [.int (s.1 (o + 37) 3), .int (nI 80)]) ks_X11_82 dX11_ship_107 rfl (by decide) (Nat.le_of_ble_eq_true rfl) rfl (by decide) (Nat.le_of_ble_eq_true rfl) (t_X11_needRoom τ n s (s.1 (o + 37) 3) (nI 80) e_x77) ?_
                refine jg_aload_n dX11_ship_110 rfl ?_
                refine cs_get (s := s) (w := .ref (o + 10)) fl_X11_27 dX11_ship_111 hO.ob0 rfl ?_
                refine cs_get (s := s) (w := .ref (o + 37)) fl_X11_123 dX11_ship_114 hO.1.ob0 rfl ?_
                refine cs_get (s := s) (w := .ref (o + 49)) fl_X11_157 dX11_ship_117 (hO.1.ob 27 (by decide) rfl) rfl ?_
                refine jg_aload_n dX11_ship_120 rfl ?_
                refine cs_get (s := s) (w := .ref (o + 10)) fl_X11_27 dX11_ship_121 hO.ob0 rfl ?_
                refine cs_get (s := s) (w := .ref (o + 37)) fl_X11_123 dX11_ship_124 hO.1.ob0 rfl ?_
                refine cs_get (s := s) (w := .int (s.1 (o + 37) 3)) fl_X11_154 dX11_ship_127 (hO.1.ob 27 (by decide) rfl) rfl ?_
                obtain ⟨q80, h⟩ := gd_some h
                refine cs_ldr (s := s) (q := (o + 49)) (i := (s.1 (o + 37) 3)) (kd := 6) (by decide) dX11_ship_130 (hO.1.ar 39 (by decide) rfl) q80 ?_
                refine jg_astore (L' := [some (.ref o), some (.int a1), some (.int a2), some (.int a3), some (.int a4), some (.int a5), some (.int a6), some (.int a7), some (.int a8), some (.ref (o + 49 + 1 + (s.1 (o + 37) 3).toNatClampNeg))]) dX11_ship_131 (by decide) rfl ?_
                refine jg_aload dX11_ship_133 rfl ?_
                refine jg_iload_n dX11_ship_135 rfl ?_
                refine jg_iload_n dX11_ship_136 rfl ?_
                refine jg_iload dX11_ship_137 rfl ?_
                refine jg_iload dX11_ship_139 rfl ?_
                obtain ⟨x81, e_x81, h⟩ := bd_some h
                refine cs_call (q := (o + 49 + 1 + (s.1 (o + 37) 3).toNatClampNeg)) (As := [.int a2, .int a3, .int a4, .int a7]) kv_X11_161 dX11_ship_141 (hO.1.ship q80.2) rfl rfl (by decide) (Nat.le_of_ble_eq_true rfl) rfl (by decide) (Nat.le_of_ble_eq_true rfl) (t_X9_build τ n (o + 49 + 1 + (s.1 (o + 37) 3).toNatClampNeg) s a2 a3 a4 a7 (hO.1.ship q80.2) e_x81) ?_
                refine jg_aload dX11_ship_144 rfl ?_
                refine jg_iload dX11_ship_146 rfl ?_
                refine cs_put (s := x81) (k := 4) (x := a5) fl_X11_167 dX11_ship_148 (hO.1.ship q80.2) (ltb rfl) (rfl) rfl rfl ?_
                refine jg_aload dX11_ship_151 rfl ?_
                refine jg_iload dX11_ship_153 rfl ?_
                refine cs_put (s := (cp x81 (o + 49 + 1 + (s.1 (o + 37) 3).toNatClampNeg) 4 a5)) (k := 5) (x := a6) fl_X11_170 dX11_ship_155 (hO.1.ship q80.2) (ltb rfl) (rfl) rfl rfl ?_
                obtain ⟨x82, e_x82, h⟩ := bd_some h
                refine cs_sub (Option.some.inj e_x82) ?_
                refine jg_aload dX11_ship_158 rfl ?_
                refine jg_iload_n dX11_ship_160 rfl ?_
                refine cs_put (s := x82) (k := 6) (x := a1) fl_X11_173 dX11_ship_161 (hO.1.ship q80.2) (ltb rfl) (rfl) rfl rfl ?_
                refine jg_aload dX11_ship_164 rfl ?_
                refine jg_iload dX11_ship_166 rfl ?_
                refine cs_put (s := (cp x82 (o + 49 + 1 + (s.1 (o + 37) 3).toNatClampNeg) 6 a1)) (k := 7) (x := a8) fl_X11_176 dX11_ship_168 (hO.1.ship q80.2) (ltb rfl) (rfl) rfl rfl ?_
                obtain ⟨x83, e_x83, h⟩ := bd_some h
                refine cs_sub (Option.some.inj e_x83) ?_
                refine jg_aload dX11_ship_171 rfl ?_
                refine jg_aload_n dX11_ship_173 rfl ?_
                refine cs_get (s := x83) (w := .ref (o + 10)) fl_X11_27 dX11_ship_174 hO.ob0 rfl ?_
                refine cs_get (s := x83) (w := .int (x83.1 (o + 10) 0)) fl_X11_49 dX11_ship_177 hO.1.ob0 rfl ?_
                refine jg_aload_n dX11_ship_180 rfl ?_
                refine cs_get (s := x83) (w := .ref (o + 10)) fl_X11_27 dX11_ship_181 hO.ob0 rfl ?_
                obtain ⟨x84, e_x84, h⟩ := bd_some h
                refine cs_call (q := (o + 10)) (As := []) kv_X11_179 dX11_ship_184 hO.1.ob0 rfl rfl (by decide) (Nat.le_of_ble_eq_true rfl) rfl (by decide) (Nat.le_of_ble_eq_true rfl) (t_X2_actOfToday F τ n (o + 10) x83 hO.1 e_x84) ?_
                obtain ⟨q85, h⟩ := gd_some h
                obtain ⟨x86, e_x86, h⟩ := bd_some h
                refine cs_call (q := (o + 49 + 1 + (s.1 (o + 37) 3).toNatClampNeg)) (As := [.int (x83.1 (o + 10) 0), .ref x84]) kv_X11_183 dX11_ship_187 (hO.1.ship q80.2) rfl rfl (by decide) (Nat.le_of_ble_eq_true rfl) rfl (by decide) (Nat.le_of_ble_eq_true rfl) (t_X9_come τ n (o + 49 + 1 + (s.1 (o + 37) 3).toNatClampNeg) x84 x83 (x83.1 (o + 10) 0) (hO.1.ship q80.2) q85 e_x86) ?_
                refine jg_aload_n dX11_ship_190 rfl ?_
                refine cs_get (s := x86) (w := .ref (o + 10)) fl_X11_27 dX11_ship_191 hO.ob0 rfl ?_
                refine cs_get (s := x86) (w := .ref (o + 37)) fl_X11_123 dX11_ship_194 hO.1.ob0 rfl ?_
                refine jg_dup dX11_ship_197 rfl ?_
                refine cs_get (s := x86) (w := .int (x86.1 (o + 37) 3)) fl_X11_154 dX11_ship_198 (hO.1.ob 27 (by decide) rfl) rfl ?_
                refine jg_iconst (v := nI 1) dX11_ship_201 (by decide) ?_
                refine jg_iadd (x := (x86.1 (o + 37) 3)) (y := (nI 1)) dX11_ship_202  ?_
                refine cs_put (s := x86) (k := 3) (x := ((x86.1 (o + 37) 3) + (nI 1))) fl_X11_154 dX11_ship_203 (hO.1.ob 27 (by decide) rfl) (ltb rfl) (rfl) rfl rfl ?_
                refine jg_aload_n dX11_ship_206 rfl ?_
                refine cs_get (s := (cp x86 (o + 37) 3 ((x86.1 (o + 37) 3) + (nI 1)))) (w := .ref (o + 10)) fl_X11_27 dX11_ship_207 hO.ob0 rfl ?_
                refine cs_get (s := (cp x86 (o + 37) 3 ((x86.1 (o + 37) 3) + (nI 1)))) (w := .ref (o + 37)) fl_X11_123 dX11_ship_210 hO.1.ob0 rfl ?_
                refine cs_get (s := (cp x86 (o + 37) 3 ((x86.1 (o + 37) 3) + (nI 1)))) (w := .int ((cp x86 (o + 37) 3 ((x86.1 (o + 37) 3) + (nI 1))).1 (o + 37) 3)) fl_X11_154 dX11_ship_213 (hO.1.ob 27 (by decide) rfl) rfl ?_
                refine jg_iconst (v := nI 1) dX11_ship_216 (by decide) ?_
                refine jg_isub (x := ((cp x86 (o + 37) 3 ((x86.1 (o + 37) 3) + (nI 1))).1 (o + 37) 3)) (y := (nI 1)) dX11_ship_217  ?_
                obtain rfl := Sum.inl.inj (Option.some.inj h)
                exact jg_ireturn dX11_ship_218 rfl ⟨rfl, rfl⟩
              · replace h := se_r h
                cases h
            · replace h := se_r h
              cases h
          · replace h := it_f c73 h
            refine jg_iload dX11_ship_65 rfl ?_
            refine jg_iconst (v := nI 1) dX11_ship_67 (by decide) ?_
            refine jg_bipush (v := nI 80) dX11_ship_68 (by decide) ?_
            obtain ⟨x87, e_x87, h⟩ := bd_some h
            refine cs_callS (As := [.int a6, .int (nI 1), .int (nI 80)]) ks_X11_41 dX11_ship_70 rfl (by decide) (Nat.le_of_ble_eq_true rfl) rfl (by decide) (Nat.le_of_ble_eq_true rfl) (t_X11_within τ n s a6 (nI 1) (nI 80) e_x87) ?_
            refine jg_if_eq (x := x87) (tgt := 91) dX11_ship_73 (by decide) (fun c88 => ?_) (fun c88 => ?_)
            · replace h := it_t c88 h
              refine jg_iconst (v := nI 0) dX11_ship_91 (by decide) ?_
              obtain ⟨x89, e_x89, h⟩ := bd_some h
              rcases x89 with y90 | z91
              · replace h := se_l h
                refine cs_callS (As := [.int (nI 0)]) ks_X11_45 dX11_ship_92 rfl (by decide) (Nat.le_of_ble_eq_true rfl) rfl (by decide) (Nat.le_of_ble_eq_true rfl) (t_X11_needArgument τ n s (nI 0) e_x89) ?_
                refine jg_aload_n dX11_ship_95 rfl ?_
                refine cs_get (s := s) (w := .ref (o + 10)) fl_X11_27 dX11_ship_96 hO.ob0 rfl ?_
                refine cs_get (s := s) (w := .ref (o + 37)) fl_X11_123 dX11_ship_99 hO.1.ob0 rfl ?_
                refine cs_get (s := s) (w := .int (s.1 (o + 37) 3)) fl_X11_154 dX11_ship_102 (hO.1.ob 27 (by decide) rfl) rfl ?_
                refine jg_bipush (v := nI 80) dX11_ship_105 (by decide) ?_
                obtain ⟨x92, e_x92, h⟩ := bd_some h
                rcases x92 with y93 | z94
                · replace h := se_l h
                  refine cs_callS (As := [.int (s.1 (o + 37) 3), .int (nI 80)]) ks_X11_82 dX11_ship_107 rfl (by decide) (Nat.le_of_ble_eq_true rfl) rfl (by decide) (Nat.le_of_ble_eq_true rfl) (t_X11_needRoom τ n s (s.1 (o + 37) 3) (nI 80) e_x92) ?_
                  refine jg_aload_n dX11_ship_110 rfl ?_
                  refine cs_get (s := s) (w := .ref (o + 10)) fl_X11_27 dX11_ship_111 hO.ob0 rfl ?_
                  refine cs_get (s := s) (w := .ref (o + 37)) fl_X11_123 dX11_ship_114 hO.1.ob0 rfl ?_
                  refine cs_get (s := s) (w := .ref (o + 49)) fl_X11_157 dX11_ship_117 (hO.1.ob 27 (by decide) rfl) rfl ?_
                  refine jg_aload_n dX11_ship_120 rfl ?_
                  refine cs_get (s := s) (w := .ref (o + 10)) fl_X11_27 dX11_ship_121 hO.ob0 rfl ?_
                  refine cs_get (s := s) (w := .ref (o + 37)) fl_X11_123 dX11_ship_124 hO.1.ob0 rfl ?_
                  refine cs_get (s := s) (w := .int (s.1 (o + 37) 3)) fl_X11_154 dX11_ship_127 (hO.1.ob 27 (by decide) rfl) rfl ?_
                  obtain ⟨q95, h⟩ := gd_some h
                  refine cs_ldr (s := s) (q := (o + 49)) (i := (s.1 (o + 37) 3)) (kd := 6) (by decide) dX11_ship_130 (hO.1.ar 39 (by decide) rfl) q95 ?_
                  refine jg_astore (L' := [some (.ref o), some (.int a1), some (.int a2), some (.int a3), some (.int a4), some (.int a5), some (.int a6), some (.int a7), some (.int a8), some (.ref (o + 49 + 1 + (s.1 (o + 37) 3).toNatClampNeg))]) dX11_ship_131 (by decide) rfl ?_
                  refine jg_aload dX11_ship_133 rfl ?_
                  refine jg_iload_n dX11_ship_135 rfl ?_
                  refine jg_iload_n dX11_ship_136 rfl ?_
                  refine jg_iload dX11_ship_137 rfl ?_
                  refine jg_iload dX11_ship_139 rfl ?_
                  obtain ⟨x96, e_x96, h⟩ := bd_some h
                  refine cs_call (q := (o + 49 + 1 + (s.1 (o + 37) 3).toNatClampNeg)) (As := [.int a2, .int a3, .int a4, .int a7]) kv_X11_161 dX11_ship_141 (hO.1.ship q95.2) rfl rfl (by decide) (Nat.le_of_ble_eq_true rfl) rfl (by decide) (Nat.le_of_ble_eq_true rfl) (t_X9_build τ n (o + 49 + 1 + (s.1 (o + 37) 3).toNatClampNeg) s a2 a3 a4 a7 (hO.1.ship q95.2) e_x96) ?_
                  refine jg_aload dX11_ship_144 rfl ?_
                  refine jg_iload dX11_ship_146 rfl ?_
                  refine cs_put (s := x96) (k := 4) (x := a5) fl_X11_167 dX11_ship_148 (hO.1.ship q95.2) (ltb rfl) (rfl) rfl rfl ?_
                  refine jg_aload dX11_ship_151 rfl ?_
                  refine jg_iload dX11_ship_153 rfl ?_
                  refine cs_put (s := (cp x96 (o + 49 + 1 + (s.1 (o + 37) 3).toNatClampNeg) 4 a5)) (k := 5) (x := a6) fl_X11_170 dX11_ship_155 (hO.1.ship q95.2) (ltb rfl) (rfl) rfl rfl ?_
                  obtain ⟨x97, e_x97, h⟩ := bd_some h
                  refine cs_sub (Option.some.inj e_x97) ?_
                  refine jg_aload dX11_ship_158 rfl ?_
                  refine jg_iload_n dX11_ship_160 rfl ?_
                  refine cs_put (s := x97) (k := 6) (x := a1) fl_X11_173 dX11_ship_161 (hO.1.ship q95.2) (ltb rfl) (rfl) rfl rfl ?_
                  refine jg_aload dX11_ship_164 rfl ?_
                  refine jg_iload dX11_ship_166 rfl ?_
                  refine cs_put (s := (cp x97 (o + 49 + 1 + (s.1 (o + 37) 3).toNatClampNeg) 6 a1)) (k := 7) (x := a8) fl_X11_176 dX11_ship_168 (hO.1.ship q95.2) (ltb rfl) (rfl) rfl rfl ?_
                  obtain ⟨x98, e_x98, h⟩ := bd_some h
                  refine cs_sub (Option.some.inj e_x98) ?_
                  refine jg_aload dX11_ship_171 rfl ?_
                  refine jg_aload_n dX11_ship_173 rfl ?_
                  refine cs_get (s := x98) (w := .ref (o + 10)) fl_X11_27 dX11_ship_174 hO.ob0 rfl ?_
                  refine cs_get (s := x98) (w := .int (x98.1 (o + 10) 0)) fl_X11_49 dX11_ship_177 hO.1.ob0 rfl ?_
                  refine jg_aload_n dX11_ship_180 rfl ?_
                  refine cs_get (s := x98) (w := .ref (o + 10)) fl_X11_27 dX11_ship_181 hO.ob0 rfl ?_
                  obtain ⟨x99, e_x99, h⟩ := bd_some h
                  refine cs_call (q := (o + 10)) (As := []) kv_X11_179 dX11_ship_184 hO.1.ob0 rfl rfl (by decide) (Nat.le_of_ble_eq_true rfl) rfl (by decide) (Nat.le_of_ble_eq_true rfl) (t_X2_actOfToday F τ n (o + 10) x98 hO.1 e_x99) ?_
                  obtain ⟨q100, h⟩ := gd_some h
                  obtain ⟨x101, e_x101, h⟩ := bd_some h
                  refine cs_call (q := (o + 49 + 1 + (s.1 (o + 37) 3).toNatClampNeg)) (As := [.int (x98.1 (o + 10) 0), .ref x99]) kv_X11_183 dX11_ship_187 (hO.1.ship q95.2) rfl rfl (by decide) (Nat.le_of_ble_eq_true rfl) rfl (by decide) (Nat.le_of_ble_eq_true rfl) (t_X9_come τ n (o + 49 + 1 + (s.1 (o + 37) 3).toNatClampNeg) x99 x98 (x98.1 (o + 10) 0) (hO.1.ship q95.2) q100 e_x101) ?_
                  refine jg_aload_n dX11_ship_190 rfl ?_
                  refine cs_get (s := x101) (w := .ref (o + 10)) fl_X11_27 dX11_ship_191 hO.ob0 rfl ?_
                  refine cs_get (s := x101) (w := .ref (o + 37)) fl_X11_123 dX11_ship_194 hO.1.ob0 rfl ?_
                  refine jg_dup dX11_ship_197 rfl ?_
                  refine cs_get (s := x101) (w := .int (x101.1 (o + 37) 3)) fl_X11_154 dX11_ship_198 (hO.1.ob 27 (by decide) rfl) rfl ?_
                  refine jg_iconst (v := nI 1) dX11_ship_201 (by decide) ?_
                  refine jg_iadd (x := (x101.1 (o + 37) 3)) (y := (nI 1)) dX11_ship_202  ?_
                  refine cs_put (s := x101) (k := 3) (x := ((x101.1 (o + 37) 3) + (nI 1))) fl_X11_154 dX11_ship_203 (hO.1.ob 27 (by decide) rfl) (ltb rfl) (rfl) rfl rfl ?_
                  refine jg_aload_n dX11_ship_206 rfl ?_
                  refine cs_get (s := (cp x101 (o + 37) 3 ((x101.1 (o + 37) 3) + (nI 1)))) (w := .ref (o + 10)) fl_X11_27 dX11_ship_207 hO.ob0 rfl ?_
                  refine cs_get (s := (cp x101 (o + 37) 3 ((x101.1 (o + 37) 3) + (nI 1)))) (w := .ref (o + 37)) fl_X11_123 dX11_ship_210 hO.1.ob0 rfl ?_
                  refine cs_get (s := (cp x101 (o + 37) 3 ((x101.1 (o + 37) 3) + (nI 1)))) (w := .int ((cp x101 (o + 37) 3 ((x101.1 (o + 37) 3) + (nI 1))).1 (o + 37) 3)) fl_X11_154 dX11_ship_213 (hO.1.ob 27 (by decide) rfl) rfl ?_
                  refine jg_iconst (v := nI 1) dX11_ship_216 (by decide) ?_
                  refine jg_isub (x := ((cp x101 (o + 37) 3 ((x101.1 (o + 37) 3) + (nI 1))).1 (o + 37) 3)) (y := (nI 1)) dX11_ship_217  ?_
                  obtain rfl := Sum.inl.inj (Option.some.inj h)
                  exact jg_ireturn dX11_ship_218 rfl ⟨rfl, rfl⟩
                · replace h := se_r h
                  cases h
              · replace h := se_r h
                cases h
            · replace h := it_f c88 h
              refine jg_iload dX11_ship_76 rfl ?_
              refine jg_iconst (v := nI 0) dX11_ship_78 (by decide) ?_
              refine jg_ldc kk_X11_153 dX11_ship_79 ?_
              rw [show (1000000 : Int32) = nI 1000000 from rfl]
              obtain ⟨x102, e_x102, h⟩ := bd_some h
              refine cs_callS (As := [.int a8, .int (nI 0), .int (nI 1000000)]) ks_X11_41 dX11_ship_81 rfl (by decide) (Nat.le_of_ble_eq_true rfl) rfl (by decide) (Nat.le_of_ble_eq_true rfl) (t_X11_within τ n s a8 (nI 0) (nI 1000000) e_x102) ?_
              refine jg_if_eq (x := x102) (tgt := 91) dX11_ship_84 (by decide) (fun c103 => ?_) (fun c103 => ?_)
              · replace h := it_t c103 h
                refine jg_iconst (v := nI 0) dX11_ship_91 (by decide) ?_
                obtain ⟨x104, e_x104, h⟩ := bd_some h
                rcases x104 with y105 | z106
                · replace h := se_l h
                  refine cs_callS (As := [.int (nI 0)]) ks_X11_45 dX11_ship_92 rfl (by decide) (Nat.le_of_ble_eq_true rfl) rfl (by decide) (Nat.le_of_ble_eq_true rfl) (t_X11_needArgument τ n s (nI 0) e_x104) ?_
                  refine jg_aload_n dX11_ship_95 rfl ?_
                  refine cs_get (s := s) (w := .ref (o + 10)) fl_X11_27 dX11_ship_96 hO.ob0 rfl ?_
                  refine cs_get (s := s) (w := .ref (o + 37)) fl_X11_123 dX11_ship_99 hO.1.ob0 rfl ?_
                  refine cs_get (s := s) (w := .int (s.1 (o + 37) 3)) fl_X11_154 dX11_ship_102 (hO.1.ob 27 (by decide) rfl) rfl ?_
                  refine jg_bipush (v := nI 80) dX11_ship_105 (by decide) ?_
                  obtain ⟨x107, e_x107, h⟩ := bd_some h
                  rcases x107 with y108 | z109
                  · replace h := se_l h
                    refine cs_callS (As := [.int (s.1 (o + 37) 3), .int (nI 80)]) ks_X11_82 dX11_ship_107 rfl (by decide) (Nat.le_of_ble_eq_true rfl) rfl (by decide) (Nat.le_of_ble_eq_true rfl) (t_X11_needRoom τ n s (s.1 (o + 37) 3) (nI 80) e_x107) ?_
                    refine jg_aload_n dX11_ship_110 rfl ?_
                    refine cs_get (s := s) (w := .ref (o + 10)) fl_X11_27 dX11_ship_111 hO.ob0 rfl ?_
                    refine cs_get (s := s) (w := .ref (o + 37)) fl_X11_123 dX11_ship_114 hO.1.ob0 rfl ?_
                    refine cs_get (s := s) (w := .ref (o + 49)) fl_X11_157 dX11_ship_117 (hO.1.ob 27 (by decide) rfl) rfl ?_
                    refine jg_aload_n dX11_ship_120 rfl ?_
                    refine cs_get (s := s) (w := .ref (o + 10)) fl_X11_27 dX11_ship_121 hO.ob0 rfl ?_
                    refine cs_get (s := s) (w := .ref (o + 37)) fl_X11_123 dX11_ship_124 hO.1.ob0 rfl ?_
                    refine cs_get (s := s) (w := .int (s.1 (o + 37) 3)) fl_X11_154 dX11_ship_127 (hO.1.ob 27 (by decide) rfl) rfl ?_
                    obtain ⟨q110, h⟩ := gd_some h
                    refine cs_ldr (s := s) (q := (o + 49)) (i := (s.1 (o + 37) 3)) (kd := 6) (by decide) dX11_ship_130 (hO.1.ar 39 (by decide) rfl) q110 ?_
                    refine jg_astore (L' := [some (.ref o), some (.int a1), some (.int a2), some (.int a3), some (.int a4), some (.int a5), some (.int a6), some (.int a7), some (.int a8), some (.ref (o + 49 + 1 + (s.1 (o + 37) 3).toNatClampNeg))]) dX11_ship_131 (by decide) rfl ?_
                    refine jg_aload dX11_ship_133 rfl ?_
                    refine jg_iload_n dX11_ship_135 rfl ?_
                    refine jg_iload_n dX11_ship_136 rfl ?_
                    refine jg_iload dX11_ship_137 rfl ?_
                    refine jg_iload dX11_ship_139 rfl ?_
                    obtain ⟨x111, e_x111, h⟩ := bd_some h
                    refine cs_call (q := (o + 49 + 1 + (s.1 (o + 37) 3).toNatClampNeg)) (As := [.int a2, .int a3, .int a4, .int a7]) kv_X11_161 dX11_ship_141 (hO.1.ship q110.2) rfl rfl (by decide) (Nat.le_of_ble_eq_true rfl) rfl (by decide) (Nat.le_of_ble_eq_true rfl) (t_X9_build τ n (o + 49 + 1 + (s.1 (o + 37) 3).toNatClampNeg) s a2 a3 a4 a7 (hO.1.ship q110.2) e_x111) ?_
                    refine jg_aload dX11_ship_144 rfl ?_
                    refine jg_iload dX11_ship_146 rfl ?_
                    refine cs_put (s := x111) (k := 4) (x := a5) fl_X11_167 dX11_ship_148 (hO.1.ship q110.2) (ltb rfl) (rfl) rfl rfl ?_
                    refine jg_aload dX11_ship_151 rfl ?_
                    refine jg_iload dX11_ship_153 rfl ?_
                    refine cs_put (s := (cp x111 (o + 49 + 1 + (s.1 (o + 37) 3).toNatClampNeg) 4 a5)) (k := 5) (x := a6) fl_X11_170 dX11_ship_155 (hO.1.ship q110.2) (ltb rfl) (rfl) rfl rfl ?_
                    obtain ⟨x112, e_x112, h⟩ := bd_some h
                    refine cs_sub (Option.some.inj e_x112) ?_
                    refine jg_aload dX11_ship_158 rfl ?_
                    refine jg_iload_n dX11_ship_160 rfl ?_
                    refine cs_put (s := x112) (k := 6) (x := a1) fl_X11_173 dX11_ship_161 (hO.1.ship q110.2) (ltb rfl) (rfl) rfl rfl ?_
                    refine jg_aload dX11_ship_164 rfl ?_
                    refine jg_iload dX11_ship_166 rfl ?_
                    refine cs_put (s := (cp x112 (o + 49 + 1 + (s.1 (o + 37) 3).toNatClampNeg) 6 a1)) (k := 7) (x := a8) fl_X11_176 dX11_ship_168 (hO.1.ship q110.2) (ltb rfl) (rfl) rfl rfl ?_
                    obtain ⟨x113, e_x113, h⟩ := bd_some h
                    refine cs_sub (Option.some.inj e_x113) ?_
                    refine jg_aload dX11_ship_171 rfl ?_
                    refine jg_aload_n dX11_ship_173 rfl ?_
                    refine cs_get (s := x113) (w := .ref (o + 10)) fl_X11_27 dX11_ship_174 hO.ob0 rfl ?_
                    refine cs_get (s := x113) (w := .int (x113.1 (o + 10) 0)) fl_X11_49 dX11_ship_177 hO.1.ob0 rfl ?_
                    refine jg_aload_n dX11_ship_180 rfl ?_
                    refine cs_get (s := x113) (w := .ref (o + 10)) fl_X11_27 dX11_ship_181 hO.ob0 rfl ?_
                    obtain ⟨x114, e_x114, h⟩ := bd_some h
                    refine cs_call (q := (o + 10)) (As := []) kv_X11_179 dX11_ship_184 hO.1.ob0 rfl rfl (by decide) (Nat.le_of_ble_eq_true rfl) rfl (by decide) (Nat.le_of_ble_eq_true rfl) (t_X2_actOfToday F τ n (o + 10) x113 hO.1 e_x114) ?_
                    obtain ⟨q115, h⟩ := gd_some h
                    obtain ⟨x116, e_x116, h⟩ := bd_some h
                    refine cs_call (q := (o + 49 + 1 + (s.1 (o + 37) 3).toNatClampNeg)) (As := [.int (x113.1 (o + 10) 0), .ref x114]) kv_X11_183 dX11_ship_187 (hO.1.ship q110.2) rfl rfl (by decide) (Nat.le_of_ble_eq_true rfl) rfl (by decide) (Nat.le_of_ble_eq_true rfl) (t_X9_come τ n (o + 49 + 1 + (s.1 (o + 37) 3).toNatClampNeg) x114 x113 (x113.1 (o + 10) 0) (hO.1.ship q110.2) q115 e_x116) ?_
                    refine jg_aload_n dX11_ship_190 rfl ?_
                    refine cs_get (s := x116) (w := .ref (o + 10)) fl_X11_27 dX11_ship_191 hO.ob0 rfl ?_
                    refine cs_get (s := x116) (w := .ref (o + 37)) fl_X11_123 dX11_ship_194 hO.1.ob0 rfl ?_
                    refine jg_dup dX11_ship_197 rfl ?_
                    refine cs_get (s := x116) (w := .int (x116.1 (o + 37) 3)) fl_X11_154 dX11_ship_198 (hO.1.ob 27 (by decide) rfl) rfl ?_
                    refine jg_iconst (v := nI 1) dX11_ship_201 (by decide) ?_
                    refine jg_iadd (x := (x116.1 (o + 37) 3)) (y := (nI 1)) dX11_ship_202  ?_
                    refine cs_put (s := x116) (k := 3) (x := ((x116.1 (o + 37) 3) + (nI 1))) fl_X11_154 dX11_ship_203 (hO.1.ob 27 (by decide) rfl) (ltb rfl) (rfl) rfl rfl ?_
                    refine jg_aload_n dX11_ship_206 rfl ?_
                    refine cs_get (s := (cp x116 (o + 37) 3 ((x116.1 (o + 37) 3) + (nI 1)))) (w := .ref (o + 10)) fl_X11_27 dX11_ship_207 hO.ob0 rfl ?_
                    refine cs_get (s := (cp x116 (o + 37) 3 ((x116.1 (o + 37) 3) + (nI 1)))) (w := .ref (o + 37)) fl_X11_123 dX11_ship_210 hO.1.ob0 rfl ?_
                    refine cs_get (s := (cp x116 (o + 37) 3 ((x116.1 (o + 37) 3) + (nI 1)))) (w := .int ((cp x116 (o + 37) 3 ((x116.1 (o + 37) 3) + (nI 1))).1 (o + 37) 3)) fl_X11_154 dX11_ship_213 (hO.1.ob 27 (by decide) rfl) rfl ?_
                    refine jg_iconst (v := nI 1) dX11_ship_216 (by decide) ?_
                    refine jg_isub (x := ((cp x116 (o + 37) 3 ((x116.1 (o + 37) 3) + (nI 1))).1 (o + 37) 3)) (y := (nI 1)) dX11_ship_217  ?_
                    obtain rfl := Sum.inl.inj (Option.some.inj h)
                    exact jg_ireturn dX11_ship_218 rfl ⟨rfl, rfl⟩
                  · replace h := se_r h
                    cases h
                · replace h := se_r h
                  cases h
              · replace h := it_f c103 h
                refine jg_iconst (v := nI 1) dX11_ship_87 (by decide) ?_
                refine jg_goto (tgt := 92) dX11_ship_88 (by decide) ?_
                obtain ⟨x117, e_x117, h⟩ := bd_some h
                rcases x117 with y118 | z119
                · replace h := se_l h
                  refine cs_callS (As := [.int (nI 1)]) ks_X11_45 dX11_ship_92 rfl (by decide) (Nat.le_of_ble_eq_true rfl) rfl (by decide) (Nat.le_of_ble_eq_true rfl) (t_X11_needArgument τ n s (nI 1) e_x117) ?_
                  refine jg_aload_n dX11_ship_95 rfl ?_
                  refine cs_get (s := s) (w := .ref (o + 10)) fl_X11_27 dX11_ship_96 hO.ob0 rfl ?_
                  refine cs_get (s := s) (w := .ref (o + 37)) fl_X11_123 dX11_ship_99 hO.1.ob0 rfl ?_
                  refine cs_get (s := s) (w := .int (s.1 (o + 37) 3)) fl_X11_154 dX11_ship_102 (hO.1.ob 27 (by decide) rfl) rfl ?_
                  refine jg_bipush (v := nI 80) dX11_ship_105 (by decide) ?_
                  obtain ⟨x120, e_x120, h⟩ := bd_some h
                  rcases x120 with y121 | z122
                  · replace h := se_l h
                    refine cs_callS (As := [.int (s.1 (o + 37) 3), .int (nI 80)]) ks_X11_82 dX11_ship_107 rfl (by decide) (Nat.le_of_ble_eq_true rfl) rfl (by decide) (Nat.le_of_ble_eq_true rfl) (t_X11_needRoom τ n s (s.1 (o + 37) 3) (nI 80) e_x120) ?_
                    refine jg_aload_n dX11_ship_110 rfl ?_
                    refine cs_get (s := s) (w := .ref (o + 10)) fl_X11_27 dX11_ship_111 hO.ob0 rfl ?_
                    refine cs_get (s := s) (w := .ref (o + 37)) fl_X11_123 dX11_ship_114 hO.1.ob0 rfl ?_
                    refine cs_get (s := s) (w := .ref (o + 49)) fl_X11_157 dX11_ship_117 (hO.1.ob 27 (by decide) rfl) rfl ?_
                    refine jg_aload_n dX11_ship_120 rfl ?_
                    refine cs_get (s := s) (w := .ref (o + 10)) fl_X11_27 dX11_ship_121 hO.ob0 rfl ?_
                    refine cs_get (s := s) (w := .ref (o + 37)) fl_X11_123 dX11_ship_124 hO.1.ob0 rfl ?_
                    refine cs_get (s := s) (w := .int (s.1 (o + 37) 3)) fl_X11_154 dX11_ship_127 (hO.1.ob 27 (by decide) rfl) rfl ?_
                    obtain ⟨q123, h⟩ := gd_some h
                    refine cs_ldr (s := s) (q := (o + 49)) (i := (s.1 (o + 37) 3)) (kd := 6) (by decide) dX11_ship_130 (hO.1.ar 39 (by decide) rfl) q123 ?_
                    refine jg_astore (L' := [some (.ref o), some (.int a1), some (.int a2), some (.int a3), some (.int a4), some (.int a5), some (.int a6), some (.int a7), some (.int a8), some (.ref (o + 49 + 1 + (s.1 (o + 37) 3).toNatClampNeg))]) dX11_ship_131 (by decide) rfl ?_
                    refine jg_aload dX11_ship_133 rfl ?_
                    refine jg_iload_n dX11_ship_135 rfl ?_
                    refine jg_iload_n dX11_ship_136 rfl ?_
                    refine jg_iload dX11_ship_137 rfl ?_
                    refine jg_iload dX11_ship_139 rfl ?_
                    obtain ⟨x124, e_x124, h⟩ := bd_some h
                    refine cs_call (q := (o + 49 + 1 + (s.1 (o + 37) 3).toNatClampNeg)) (As := [.int a2, .int a3, .int a4, .int a7]) kv_X11_161 dX11_ship_141 (hO.1.ship q123.2) rfl rfl (by decide) (Nat.le_of_ble_eq_true rfl) rfl (by decide) (Nat.le_of_ble_eq_true rfl) (t_X9_build τ n (o + 49 + 1 + (s.1 (o + 37) 3).toNatClampNeg) s a2 a3 a4 a7 (hO.1.ship q123.2) e_x124) ?_
                    refine jg_aload dX11_ship_144 rfl ?_
                    refine jg_iload dX11_ship_146 rfl ?_
                    refine cs_put (s := x124) (k := 4) (x := a5) fl_X11_167 dX11_ship_148 (hO.1.ship q123.2) (ltb rfl) (rfl) rfl rfl ?_
                    refine jg_aload dX11_ship_151 rfl ?_
                    refine jg_iload dX11_ship_153 rfl ?_
                    refine cs_put (s := (cp x124 (o + 49 + 1 + (s.1 (o + 37) 3).toNatClampNeg) 4 a5)) (k := 5) (x := a6) fl_X11_170 dX11_ship_155 (hO.1.ship q123.2) (ltb rfl) (rfl) rfl rfl ?_
                    obtain ⟨x125, e_x125, h⟩ := bd_some h
                    refine cs_sub (Option.some.inj e_x125) ?_
                    refine jg_aload dX11_ship_158 rfl ?_
                    refine jg_iload_n dX11_ship_160 rfl ?_
                    refine cs_put (s := x125) (k := 6) (x := a1) fl_X11_173 dX11_ship_161 (hO.1.ship q123.2) (ltb rfl) (rfl) rfl rfl ?_
                    refine jg_aload dX11_ship_164 rfl ?_
                    refine jg_iload dX11_ship_166 rfl ?_
                    refine cs_put (s := (cp x125 (o + 49 + 1 + (s.1 (o + 37) 3).toNatClampNeg) 6 a1)) (k := 7) (x := a8) fl_X11_176 dX11_ship_168 (hO.1.ship q123.2) (ltb rfl) (rfl) rfl rfl ?_
                    obtain ⟨x126, e_x126, h⟩ := bd_some h
                    refine cs_sub (Option.some.inj e_x126) ?_
                    refine jg_aload dX11_ship_171 rfl ?_
                    refine jg_aload_n dX11_ship_173 rfl ?_
                    refine cs_get (s := x126) (w := .ref (o + 10)) fl_X11_27 dX11_ship_174 hO.ob0 rfl ?_
                    refine cs_get (s := x126) (w := .int (x126.1 (o + 10) 0)) fl_X11_49 dX11_ship_177 hO.1.ob0 rfl ?_
                    refine jg_aload_n dX11_ship_180 rfl ?_
                    refine cs_get (s := x126) (w := .ref (o + 10)) fl_X11_27 dX11_ship_181 hO.ob0 rfl ?_
                    obtain ⟨x127, e_x127, h⟩ := bd_some h
                    refine cs_call (q := (o + 10)) (As := []) kv_X11_179 dX11_ship_184 hO.1.ob0 rfl rfl (by decide) (Nat.le_of_ble_eq_true rfl) rfl (by decide) (Nat.le_of_ble_eq_true rfl) (t_X2_actOfToday F τ n (o + 10) x126 hO.1 e_x127) ?_
                    obtain ⟨q128, h⟩ := gd_some h
                    obtain ⟨x129, e_x129, h⟩ := bd_some h
                    refine cs_call (q := (o + 49 + 1 + (s.1 (o + 37) 3).toNatClampNeg)) (As := [.int (x126.1 (o + 10) 0), .ref x127]) kv_X11_183 dX11_ship_187 (hO.1.ship q123.2) rfl rfl (by decide) (Nat.le_of_ble_eq_true rfl) rfl (by decide) (Nat.le_of_ble_eq_true rfl) (t_X9_come τ n (o + 49 + 1 + (s.1 (o + 37) 3).toNatClampNeg) x127 x126 (x126.1 (o + 10) 0) (hO.1.ship q123.2) q128 e_x129) ?_
                    refine jg_aload_n dX11_ship_190 rfl ?_
                    refine cs_get (s := x129) (w := .ref (o + 10)) fl_X11_27 dX11_ship_191 hO.ob0 rfl ?_
                    refine cs_get (s := x129) (w := .ref (o + 37)) fl_X11_123 dX11_ship_194 hO.1.ob0 rfl ?_
                    refine jg_dup dX11_ship_197 rfl ?_
                    refine cs_get (s := x129) (w := .int (x129.1 (o + 37) 3)) fl_X11_154 dX11_ship_198 (hO.1.ob 27 (by decide) rfl) rfl ?_
                    refine jg_iconst (v := nI 1) dX11_ship_201 (by decide) ?_
                    refine jg_iadd (x := (x129.1 (o + 37) 3)) (y := (nI 1)) dX11_ship_202  ?_
                    refine cs_put (s := x129) (k := 3) (x := ((x129.1 (o + 37) 3) + (nI 1))) fl_X11_154 dX11_ship_203 (hO.1.ob 27 (by decide) rfl) (ltb rfl) (rfl) rfl rfl ?_
                    refine jg_aload_n dX11_ship_206 rfl ?_
                    refine cs_get (s := (cp x129 (o + 37) 3 ((x129.1 (o + 37) 3) + (nI 1)))) (w := .ref (o + 10)) fl_X11_27 dX11_ship_207 hO.ob0 rfl ?_
                    refine cs_get (s := (cp x129 (o + 37) 3 ((x129.1 (o + 37) 3) + (nI 1)))) (w := .ref (o + 37)) fl_X11_123 dX11_ship_210 hO.1.ob0 rfl ?_
                    refine cs_get (s := (cp x129 (o + 37) 3 ((x129.1 (o + 37) 3) + (nI 1)))) (w := .int ((cp x129 (o + 37) 3 ((x129.1 (o + 37) 3) + (nI 1))).1 (o + 37) 3)) fl_X11_154 dX11_ship_213 (hO.1.ob 27 (by decide) rfl) rfl ?_
                    refine jg_iconst (v := nI 1) dX11_ship_216 (by decide) ?_
                    refine jg_isub (x := ((cp x129 (o + 37) 3 ((x129.1 (o + 37) 3) + (nI 1))).1 (o + 37) 3)) (y := (nI 1)) dX11_ship_217  ?_
                    obtain rfl := Sum.inl.inj (Option.some.inj h)
                    exact jg_ireturn dX11_ship_218 rfl ⟨rfl, rfl⟩
                  · replace h := se_r h
                    cases h
                · replace h := se_r h
                  cases h
        · replace h := se_r h
          cases h
      · replace h := it_f c68 h
        refine jg_iload dX11_ship_34 rfl ?_
        refine jg_iconst (v := nI 1) dX11_ship_36 (by decide) ?_
        refine jg_sipush (v := nI 900) dX11_ship_37 (by decide) ?_
        obtain ⟨x130, e_x130, h⟩ := bd_some h
        refine cs_callS (As := [.int a4, .int (nI 1), .int (nI 900)]) ks_X11_41 dX11_ship_40 rfl (by decide) (Nat.le_of_ble_eq_true rfl) rfl (by decide) (Nat.le_of_ble_eq_true rfl) (t_X11_within τ n s a4 (nI 1) (nI 900) e_x130) ?_
        refine jg_if_eq (x := x130) (tgt := 50) dX11_ship_43 (by decide) (fun c131 => ?_) (fun c131 => ?_)
        · replace h := it_t c131 h
          refine jg_iconst (v := nI 0) dX11_ship_50 (by decide) ?_
          obtain ⟨x132, e_x132, h⟩ := bd_some h
          rcases x132 with y133 | z134
          · replace h := se_l h
            refine cs_callS (As := [.int (nI 0)]) ks_X11_45 dX11_ship_51 rfl (by decide) (Nat.le_of_ble_eq_true rfl) rfl (by decide) (Nat.le_of_ble_eq_true rfl) (t_X11_needArgument τ n s (nI 0) e_x132) ?_
            refine jg_iload dX11_ship_54 rfl ?_
            refine jg_iconst (v := nI 1) dX11_ship_56 (by decide) ?_
            refine jg_bipush (v := nI 80) dX11_ship_57 (by decide) ?_
            obtain ⟨x135, e_x135, h⟩ := bd_some h
            refine cs_callS (As := [.int a5, .int (nI 1), .int (nI 80)]) ks_X11_41 dX11_ship_59 rfl (by decide) (Nat.le_of_ble_eq_true rfl) rfl (by decide) (Nat.le_of_ble_eq_true rfl) (t_X11_within τ n s a5 (nI 1) (nI 80) e_x135) ?_
            refine jg_if_eq (x := x135) (tgt := 91) dX11_ship_62 (by decide) (fun c136 => ?_) (fun c136 => ?_)
            · replace h := it_t c136 h
              refine jg_iconst (v := nI 0) dX11_ship_91 (by decide) ?_
              obtain ⟨x137, e_x137, h⟩ := bd_some h
              rcases x137 with y138 | z139
              · replace h := se_l h
                refine cs_callS (As := [.int (nI 0)]) ks_X11_45 dX11_ship_92 rfl (by decide) (Nat.le_of_ble_eq_true rfl) rfl (by decide) (Nat.le_of_ble_eq_true rfl) (t_X11_needArgument τ n s (nI 0) e_x137) ?_
                refine jg_aload_n dX11_ship_95 rfl ?_
                refine cs_get (s := s) (w := .ref (o + 10)) fl_X11_27 dX11_ship_96 hO.ob0 rfl ?_
                refine cs_get (s := s) (w := .ref (o + 37)) fl_X11_123 dX11_ship_99 hO.1.ob0 rfl ?_
                refine cs_get (s := s) (w := .int (s.1 (o + 37) 3)) fl_X11_154 dX11_ship_102 (hO.1.ob 27 (by decide) rfl) rfl ?_
                refine jg_bipush (v := nI 80) dX11_ship_105 (by decide) ?_
                obtain ⟨x140, e_x140, h⟩ := bd_some h
                rcases x140 with y141 | z142
                · replace h := se_l h
                  refine cs_callS (As := [.int (s.1 (o + 37) 3), .int (nI 80)]) ks_X11_82 dX11_ship_107 rfl (by decide) (Nat.le_of_ble_eq_true rfl) rfl (by decide) (Nat.le_of_ble_eq_true rfl) (t_X11_needRoom τ n s (s.1 (o + 37) 3) (nI 80) e_x140) ?_
                  refine jg_aload_n dX11_ship_110 rfl ?_
                  refine cs_get (s := s) (w := .ref (o + 10)) fl_X11_27 dX11_ship_111 hO.ob0 rfl ?_
                  refine cs_get (s := s) (w := .ref (o + 37)) fl_X11_123 dX11_ship_114 hO.1.ob0 rfl ?_
                  refine cs_get (s := s) (w := .ref (o + 49)) fl_X11_157 dX11_ship_117 (hO.1.ob 27 (by decide) rfl) rfl ?_
                  refine jg_aload_n dX11_ship_120 rfl ?_
                  refine cs_get (s := s) (w := .ref (o + 10)) fl_X11_27 dX11_ship_121 hO.ob0 rfl ?_
                  refine cs_get (s := s) (w := .ref (o + 37)) fl_X11_123 dX11_ship_124 hO.1.ob0 rfl ?_
                  refine cs_get (s := s) (w := .int (s.1 (o + 37) 3)) fl_X11_154 dX11_ship_127 (hO.1.ob 27 (by decide) rfl) rfl ?_
                  obtain ⟨q143, h⟩ := gd_some h
                  refine cs_ldr (s := s) (q := (o + 49)) (i := (s.1 (o + 37) 3)) (kd := 6) (by decide) dX11_ship_130 (hO.1.ar 39 (by decide) rfl) q143 ?_
                  refine jg_astore (L' := [some (.ref o), some (.int a1), some (.int a2), some (.int a3), some (.int a4), some (.int a5), some (.int a6), some (.int a7), some (.int a8), some (.ref (o + 49 + 1 + (s.1 (o + 37) 3).toNatClampNeg))]) dX11_ship_131 (by decide) rfl ?_
                  refine jg_aload dX11_ship_133 rfl ?_
                  refine jg_iload_n dX11_ship_135 rfl ?_
                  refine jg_iload_n dX11_ship_136 rfl ?_
                  refine jg_iload dX11_ship_137 rfl ?_
                  refine jg_iload dX11_ship_139 rfl ?_
                  obtain ⟨x144, e_x144, h⟩ := bd_some h
                  refine cs_call (q := (o + 49 + 1 + (s.1 (o + 37) 3).toNatClampNeg)) (As := [.int a2, .int a3, .int a4, .int a7]) kv_X11_161 dX11_ship_141 (hO.1.ship q143.2) rfl rfl (by decide) (Nat.le_of_ble_eq_true rfl) rfl (by decide) (Nat.le_of_ble_eq_true rfl) (t_X9_build τ n (o + 49 + 1 + (s.1 (o + 37) 3).toNatClampNeg) s a2 a3 a4 a7 (hO.1.ship q143.2) e_x144) ?_
                  refine jg_aload dX11_ship_144 rfl ?_
                  refine jg_iload dX11_ship_146 rfl ?_
                  refine cs_put (s := x144) (k := 4) (x := a5) fl_X11_167 dX11_ship_148 (hO.1.ship q143.2) (ltb rfl) (rfl) rfl rfl ?_
                  refine jg_aload dX11_ship_151 rfl ?_
                  refine jg_iload dX11_ship_153 rfl ?_
                  refine cs_put (s := (cp x144 (o + 49 + 1 + (s.1 (o + 37) 3).toNatClampNeg) 4 a5)) (k := 5) (x := a6) fl_X11_170 dX11_ship_155 (hO.1.ship q143.2) (ltb rfl) (rfl) rfl rfl ?_
                  obtain ⟨x145, e_x145, h⟩ := bd_some h
                  refine cs_sub (Option.some.inj e_x145) ?_
                  refine jg_aload dX11_ship_158 rfl ?_
                  refine jg_iload_n dX11_ship_160 rfl ?_
                  refine cs_put (s := x145) (k := 6) (x := a1) fl_X11_173 dX11_ship_161 (hO.1.ship q143.2) (ltb rfl) (rfl) rfl rfl ?_
                  refine jg_aload dX11_ship_164 rfl ?_
                  refine jg_iload dX11_ship_166 rfl ?_
                  refine cs_put (s := (cp x145 (o + 49 + 1 + (s.1 (o + 37) 3).toNatClampNeg) 6 a1)) (k := 7) (x := a8) fl_X11_176 dX11_ship_168 (hO.1.ship q143.2) (ltb rfl) (rfl) rfl rfl ?_
                  obtain ⟨x146, e_x146, h⟩ := bd_some h
                  refine cs_sub (Option.some.inj e_x146) ?_
                  refine jg_aload dX11_ship_171 rfl ?_
                  refine jg_aload_n dX11_ship_173 rfl ?_
                  refine cs_get (s := x146) (w := .ref (o + 10)) fl_X11_27 dX11_ship_174 hO.ob0 rfl ?_
                  refine cs_get (s := x146) (w := .int (x146.1 (o + 10) 0)) fl_X11_49 dX11_ship_177 hO.1.ob0 rfl ?_
                  refine jg_aload_n dX11_ship_180 rfl ?_
                  refine cs_get (s := x146) (w := .ref (o + 10)) fl_X11_27 dX11_ship_181 hO.ob0 rfl ?_
                  obtain ⟨x147, e_x147, h⟩ := bd_some h
                  refine cs_call (q := (o + 10)) (As := []) kv_X11_179 dX11_ship_184 hO.1.ob0 rfl rfl (by decide) (Nat.le_of_ble_eq_true rfl) rfl (by decide) (Nat.le_of_ble_eq_true rfl) (t_X2_actOfToday F τ n (o + 10) x146 hO.1 e_x147) ?_
                  obtain ⟨q148, h⟩ := gd_some h
                  obtain ⟨x149, e_x149, h⟩ := bd_some h
                  refine cs_call (q := (o + 49 + 1 + (s.1 (o + 37) 3).toNatClampNeg)) (As := [.int (x146.1 (o + 10) 0), .ref x147]) kv_X11_183 dX11_ship_187 (hO.1.ship q143.2) rfl rfl (by decide) (Nat.le_of_ble_eq_true rfl) rfl (by decide) (Nat.le_of_ble_eq_true rfl) (t_X9_come τ n (o + 49 + 1 + (s.1 (o + 37) 3).toNatClampNeg) x147 x146 (x146.1 (o + 10) 0) (hO.1.ship q143.2) q148 e_x149) ?_
                  refine jg_aload_n dX11_ship_190 rfl ?_
                  refine cs_get (s := x149) (w := .ref (o + 10)) fl_X11_27 dX11_ship_191 hO.ob0 rfl ?_
                  refine cs_get (s := x149) (w := .ref (o + 37)) fl_X11_123 dX11_ship_194 hO.1.ob0 rfl ?_
                  refine jg_dup dX11_ship_197 rfl ?_
                  refine cs_get (s := x149) (w := .int (x149.1 (o + 37) 3)) fl_X11_154 dX11_ship_198 (hO.1.ob 27 (by decide) rfl) rfl ?_
                  refine jg_iconst (v := nI 1) dX11_ship_201 (by decide) ?_
                  refine jg_iadd (x := (x149.1 (o + 37) 3)) (y := (nI 1)) dX11_ship_202  ?_
                  refine cs_put (s := x149) (k := 3) (x := ((x149.1 (o + 37) 3) + (nI 1))) fl_X11_154 dX11_ship_203 (hO.1.ob 27 (by decide) rfl) (ltb rfl) (rfl) rfl rfl ?_
                  refine jg_aload_n dX11_ship_206 rfl ?_
                  refine cs_get (s := (cp x149 (o + 37) 3 ((x149.1 (o + 37) 3) + (nI 1)))) (w := .ref (o + 10)) fl_X11_27 dX11_ship_207 hO.ob0 rfl ?_
                  refine cs_get (s := (cp x149 (o + 37) 3 ((x149.1 (o + 37) 3) + (nI 1)))) (w := .ref (o + 37)) fl_X11_123 dX11_ship_210 hO.1.ob0 rfl ?_
                  refine cs_get (s := (cp x149 (o + 37) 3 ((x149.1 (o + 37) 3) + (nI 1)))) (w := .int ((cp x149 (o + 37) 3 ((x149.1 (o + 37) 3) + (nI 1))).1 (o + 37) 3)) fl_X11_154 dX11_ship_213 (hO.1.ob 27 (by decide) rfl) rfl ?_
                  refine jg_iconst (v := nI 1) dX11_ship_216 (by decide) ?_
                  refine jg_isub (x := ((cp x149 (o + 37) 3 ((x149.1 (o + 37) 3) + (nI 1))).1 (o + 37) 3)) (y := (nI 1)) dX11_ship_217  ?_
                  obtain rfl := Sum.inl.inj (Option.some.inj h)
                  exact jg_ireturn dX11_ship_218 rfl ⟨rfl, rfl⟩
                · replace h := se_r h
                  cases h
              · replace h := se_r h
                cases h
            · replace h := it_f c136 h
              refine jg_iload dX11_ship_65 rfl ?_
              refine jg_iconst (v := nI 1) dX11_ship_67 (by decide) ?_
              refine jg_bipush (v := nI 80) dX11_ship_68 (by decide) ?_
              obtain ⟨x150, e_x150, h⟩ := bd_some h
              refine cs_callS (As := [.int a6, .int (nI 1), .int (nI 80)]) ks_X11_41 dX11_ship_70 rfl (by decide) (Nat.le_of_ble_eq_true rfl) rfl (by decide) (Nat.le_of_ble_eq_true rfl) (t_X11_within τ n s a6 (nI 1) (nI 80) e_x150) ?_
              refine jg_if_eq (x := x150) (tgt := 91) dX11_ship_73 (by decide) (fun c151 => ?_) (fun c151 => ?_)
              · replace h := it_t c151 h
                refine jg_iconst (v := nI 0) dX11_ship_91 (by decide) ?_
                obtain ⟨x152, e_x152, h⟩ := bd_some h
                rcases x152 with y153 | z154
                · replace h := se_l h
                  refine cs_callS (As := [.int (nI 0)]) ks_X11_45 dX11_ship_92 rfl (by decide) (Nat.le_of_ble_eq_true rfl) rfl (by decide) (Nat.le_of_ble_eq_true rfl) (t_X11_needArgument τ n s (nI 0) e_x152) ?_
                  refine jg_aload_n dX11_ship_95 rfl ?_
                  refine cs_get (s := s) (w := .ref (o + 10)) fl_X11_27 dX11_ship_96 hO.ob0 rfl ?_
                  refine cs_get (s := s) (w := .ref (o + 37)) fl_X11_123 dX11_ship_99 hO.1.ob0 rfl ?_
                  refine cs_get (s := s) (w := .int (s.1 (o + 37) 3)) fl_X11_154 dX11_ship_102 (hO.1.ob 27 (by decide) rfl) rfl ?_
                  refine jg_bipush (v := nI 80) dX11_ship_105 (by decide) ?_
                  obtain ⟨x155, e_x155, h⟩ := bd_some h
                  rcases x155 with y156 | z157
                  · replace h := se_l h
                    refine cs_callS (As := [.int (s.1 (o + 37) 3), .int (nI 80)]) ks_X11_82 dX11_ship_107 rfl (by decide) (Nat.le_of_ble_eq_true rfl) rfl (by decide) (Nat.le_of_ble_eq_true rfl) (t_X11_needRoom τ n s (s.1 (o + 37) 3) (nI 80) e_x155) ?_
                    refine jg_aload_n dX11_ship_110 rfl ?_
                    refine cs_get (s := s) (w := .ref (o + 10)) fl_X11_27 dX11_ship_111 hO.ob0 rfl ?_
                    refine cs_get (s := s) (w := .ref (o + 37)) fl_X11_123 dX11_ship_114 hO.1.ob0 rfl ?_
                    refine cs_get (s := s) (w := .ref (o + 49)) fl_X11_157 dX11_ship_117 (hO.1.ob 27 (by decide) rfl) rfl ?_
                    refine jg_aload_n dX11_ship_120 rfl ?_
                    refine cs_get (s := s) (w := .ref (o + 10)) fl_X11_27 dX11_ship_121 hO.ob0 rfl ?_
                    refine cs_get (s := s) (w := .ref (o + 37)) fl_X11_123 dX11_ship_124 hO.1.ob0 rfl ?_
                    refine cs_get (s := s) (w := .int (s.1 (o + 37) 3)) fl_X11_154 dX11_ship_127 (hO.1.ob 27 (by decide) rfl) rfl ?_
                    obtain ⟨q158, h⟩ := gd_some h
                    refine cs_ldr (s := s) (q := (o + 49)) (i := (s.1 (o + 37) 3)) (kd := 6) (by decide) dX11_ship_130 (hO.1.ar 39 (by decide) rfl) q158 ?_
                    refine jg_astore (L' := [some (.ref o), some (.int a1), some (.int a2), some (.int a3), some (.int a4), some (.int a5), some (.int a6), some (.int a7), some (.int a8), some (.ref (o + 49 + 1 + (s.1 (o + 37) 3).toNatClampNeg))]) dX11_ship_131 (by decide) rfl ?_
                    refine jg_aload dX11_ship_133 rfl ?_
                    refine jg_iload_n dX11_ship_135 rfl ?_
                    refine jg_iload_n dX11_ship_136 rfl ?_
                    refine jg_iload dX11_ship_137 rfl ?_
                    refine jg_iload dX11_ship_139 rfl ?_
                    obtain ⟨x159, e_x159, h⟩ := bd_some h
                    refine cs_call (q := (o + 49 + 1 + (s.1 (o + 37) 3).toNatClampNeg)) (As := [.int a2, .int a3, .int a4, .int a7]) kv_X11_161 dX11_ship_141 (hO.1.ship q158.2) rfl rfl (by decide) (Nat.le_of_ble_eq_true rfl) rfl (by decide) (Nat.le_of_ble_eq_true rfl) (t_X9_build τ n (o + 49 + 1 + (s.1 (o + 37) 3).toNatClampNeg) s a2 a3 a4 a7 (hO.1.ship q158.2) e_x159) ?_
                    refine jg_aload dX11_ship_144 rfl ?_
                    refine jg_iload dX11_ship_146 rfl ?_
                    refine cs_put (s := x159) (k := 4) (x := a5) fl_X11_167 dX11_ship_148 (hO.1.ship q158.2) (ltb rfl) (rfl) rfl rfl ?_
                    refine jg_aload dX11_ship_151 rfl ?_
                    refine jg_iload dX11_ship_153 rfl ?_
                    refine cs_put (s := (cp x159 (o + 49 + 1 + (s.1 (o + 37) 3).toNatClampNeg) 4 a5)) (k := 5) (x := a6) fl_X11_170 dX11_ship_155 (hO.1.ship q158.2) (ltb rfl) (rfl) rfl rfl ?_
                    obtain ⟨x160, e_x160, h⟩ := bd_some h
                    refine cs_sub (Option.some.inj e_x160) ?_
                    refine jg_aload dX11_ship_158 rfl ?_
                    refine jg_iload_n dX11_ship_160 rfl ?_
                    refine cs_put (s := x160) (k := 6) (x := a1) fl_X11_173 dX11_ship_161 (hO.1.ship q158.2) (ltb rfl) (rfl) rfl rfl ?_
                    refine jg_aload dX11_ship_164 rfl ?_
                    refine jg_iload dX11_ship_166 rfl ?_
                    refine cs_put (s := (cp x160 (o + 49 + 1 + (s.1 (o + 37) 3).toNatClampNeg) 6 a1)) (k := 7) (x := a8) fl_X11_176 dX11_ship_168 (hO.1.ship q158.2) (ltb rfl) (rfl) rfl rfl ?_
                    obtain ⟨x161, e_x161, h⟩ := bd_some h
                    refine cs_sub (Option.some.inj e_x161) ?_
                    refine jg_aload dX11_ship_171 rfl ?_
                    refine jg_aload_n dX11_ship_173 rfl ?_
                    refine cs_get (s := x161) (w := .ref (o + 10)) fl_X11_27 dX11_ship_174 hO.ob0 rfl ?_
                    refine cs_get (s := x161) (w := .int (x161.1 (o + 10) 0)) fl_X11_49 dX11_ship_177 hO.1.ob0 rfl ?_
                    refine jg_aload_n dX11_ship_180 rfl ?_
                    refine cs_get (s := x161) (w := .ref (o + 10)) fl_X11_27 dX11_ship_181 hO.ob0 rfl ?_
                    obtain ⟨x162, e_x162, h⟩ := bd_some h
                    refine cs_call (q := (o + 10)) (As := []) kv_X11_179 dX11_ship_184 hO.1.ob0 rfl rfl (by decide) (Nat.le_of_ble_eq_true rfl) rfl (by decide) (Nat.le_of_ble_eq_true rfl) (t_X2_actOfToday F τ n (o + 10) x161 hO.1 e_x162) ?_
                    obtain ⟨q163, h⟩ := gd_some h
                    obtain ⟨x164, e_x164, h⟩ := bd_some h
                    refine cs_call (q := (o + 49 + 1 + (s.1 (o + 37) 3).toNatClampNeg)) (As := [.int (x161.1 (o + 10) 0), .ref x162]) kv_X11_183 dX11_ship_187 (hO.1.ship q158.2) rfl rfl (by decide) (Nat.le_of_ble_eq_true rfl) rfl (by decide) (Nat.le_of_ble_eq_true rfl) (t_X9_come τ n (o + 49 + 1 + (s.1 (o + 37) 3).toNatClampNeg) x162 x161 (x161.1 (o + 10) 0) (hO.1.ship q158.2) q163 e_x164) ?_
                    refine jg_aload_n dX11_ship_190 rfl ?_
                    refine cs_get (s := x164) (w := .ref (o + 10)) fl_X11_27 dX11_ship_191 hO.ob0 rfl ?_
                    refine cs_get (s := x164) (w := .ref (o + 37)) fl_X11_123 dX11_ship_194 hO.1.ob0 rfl ?_
                    refine jg_dup dX11_ship_197 rfl ?_
                    refine cs_get (s := x164) (w := .int (x164.1 (o + 37) 3)) fl_X11_154 dX11_ship_198 (hO.1.ob 27 (by decide) rfl) rfl ?_
                    refine jg_iconst (v := nI 1) dX11_ship_201 (by decide) ?_
                    refine jg_iadd (x := (x164.1 (o + 37) 3)) (y := (nI 1)) dX11_ship_202  ?_
                    refine cs_put (s := x164) (k := 3) (x := ((x164.1 (o + 37) 3) + (nI 1))) fl_X11_154 dX11_ship_203 (hO.1.ob 27 (by decide) rfl) (ltb rfl) (rfl) rfl rfl ?_
                    refine jg_aload_n dX11_ship_206 rfl ?_
                    refine cs_get (s := (cp x164 (o + 37) 3 ((x164.1 (o + 37) 3) + (nI 1)))) (w := .ref (o + 10)) fl_X11_27 dX11_ship_207 hO.ob0 rfl ?_
                    refine cs_get (s := (cp x164 (o + 37) 3 ((x164.1 (o + 37) 3) + (nI 1)))) (w := .ref (o + 37)) fl_X11_123 dX11_ship_210 hO.1.ob0 rfl ?_
                    refine cs_get (s := (cp x164 (o + 37) 3 ((x164.1 (o + 37) 3) + (nI 1)))) (w := .int ((cp x164 (o + 37) 3 ((x164.1 (o + 37) 3) + (nI 1))).1 (o + 37) 3)) fl_X11_154 dX11_ship_213 (hO.1.ob 27 (by decide) rfl) rfl ?_
                    refine jg_iconst (v := nI 1) dX11_ship_216 (by decide) ?_
                    refine jg_isub (x := ((cp x164 (o + 37) 3 ((x164.1 (o + 37) 3) + (nI 1))).1 (o + 37) 3)) (y := (nI 1)) dX11_ship_217  ?_
                    obtain rfl := Sum.inl.inj (Option.some.inj h)
                    exact jg_ireturn dX11_ship_218 rfl ⟨rfl, rfl⟩
                  · replace h := se_r h
                    cases h
                · replace h := se_r h
                  cases h
              · replace h := it_f c151 h
                refine jg_iload dX11_ship_76 rfl ?_
                refine jg_iconst (v := nI 0) dX11_ship_78 (by decide) ?_
                refine jg_ldc kk_X11_153 dX11_ship_79 ?_
                rw [show (1000000 : Int32) = nI 1000000 from rfl]
                obtain ⟨x165, e_x165, h⟩ := bd_some h
                refine cs_callS (As := [.int a8, .int (nI 0), .int (nI 1000000)]) ks_X11_41 dX11_ship_81 rfl (by decide) (Nat.le_of_ble_eq_true rfl) rfl (by decide) (Nat.le_of_ble_eq_true rfl) (t_X11_within τ n s a8 (nI 0) (nI 1000000) e_x165) ?_
                refine jg_if_eq (x := x165) (tgt := 91) dX11_ship_84 (by decide) (fun c166 => ?_) (fun c166 => ?_)
                · replace h := it_t c166 h
                  refine jg_iconst (v := nI 0) dX11_ship_91 (by decide) ?_
                  obtain ⟨x167, e_x167, h⟩ := bd_some h
                  rcases x167 with y168 | z169
                  · replace h := se_l h
                    refine cs_callS (As := [.int (nI 0)]) ks_X11_45 dX11_ship_92 rfl (by decide) (Nat.le_of_ble_eq_true rfl) rfl (by decide) (Nat.le_of_ble_eq_true rfl) (t_X11_needArgument τ n s (nI 0) e_x167) ?_
                    refine jg_aload_n dX11_ship_95 rfl ?_
                    refine cs_get (s := s) (w := .ref (o + 10)) fl_X11_27 dX11_ship_96 hO.ob0 rfl ?_
                    refine cs_get (s := s) (w := .ref (o + 37)) fl_X11_123 dX11_ship_99 hO.1.ob0 rfl ?_
                    refine cs_get (s := s) (w := .int (s.1 (o + 37) 3)) fl_X11_154 dX11_ship_102 (hO.1.ob 27 (by decide) rfl) rfl ?_
                    refine jg_bipush (v := nI 80) dX11_ship_105 (by decide) ?_
                    obtain ⟨x170, e_x170, h⟩ := bd_some h
                    rcases x170 with y171 | z172
                    · replace h := se_l h
                      refine cs_callS (As := [.int (s.1 (o + 37) 3), .int (nI 80)]) ks_X11_82 dX11_ship_107 rfl (by decide) (Nat.le_of_ble_eq_true rfl) rfl (by decide) (Nat.le_of_ble_eq_true rfl) (t_X11_needRoom τ n s (s.1 (o + 37) 3) (nI 80) e_x170) ?_
                      refine jg_aload_n dX11_ship_110 rfl ?_
                      refine cs_get (s := s) (w := .ref (o + 10)) fl_X11_27 dX11_ship_111 hO.ob0 rfl ?_
                      refine cs_get (s := s) (w := .ref (o + 37)) fl_X11_123 dX11_ship_114 hO.1.ob0 rfl ?_
                      refine cs_get (s := s) (w := .ref (o + 49)) fl_X11_157 dX11_ship_117 (hO.1.ob 27 (by decide) rfl) rfl ?_
                      refine jg_aload_n dX11_ship_120 rfl ?_
                      refine cs_get (s := s) (w := .ref (o + 10)) fl_X11_27 dX11_ship_121 hO.ob0 rfl ?_
                      refine cs_get (s := s) (w := .ref (o + 37)) fl_X11_123 dX11_ship_124 hO.1.ob0 rfl ?_
                      refine cs_get (s := s) (w := .int (s.1 (o + 37) 3)) fl_X11_154 dX11_ship_127 (hO.1.ob 27 (by decide) rfl) rfl ?_
                      obtain ⟨q173, h⟩ := gd_some h
                      refine cs_ldr (s := s) (q := (o + 49)) (i := (s.1 (o + 37) 3)) (kd := 6) (by decide) dX11_ship_130 (hO.1.ar 39 (by decide) rfl) q173 ?_
                      refine jg_astore (L' := [some (.ref o), some (.int a1), some (.int a2), some (.int a3), some (.int a4), some (.int a5), some (.int a6), some (.int a7), some (.int a8), some (.ref (o + 49 + 1 + (s.1 (o + 37) 3).toNatClampNeg))]) dX11_ship_131 (by decide) rfl ?_
                      refine jg_aload dX11_ship_133 rfl ?_
                      refine jg_iload_n dX11_ship_135 rfl ?_
                      refine jg_iload_n dX11_ship_136 rfl ?_
                      refine jg_iload dX11_ship_137 rfl ?_
                      refine jg_iload dX11_ship_139 rfl ?_
                      obtain ⟨x174, e_x174, h⟩ := bd_some h
                      refine cs_call (q := (o + 49 + 1 + (s.1 (o + 37) 3).toNatClampNeg)) (As := [.int a2, .int a3, .int a4, .int a7]) kv_X11_161 dX11_ship_141 (hO.1.ship q173.2) rfl rfl (by decide) (Nat.le_of_ble_eq_true rfl) rfl (by decide) (Nat.le_of_ble_eq_true rfl) (t_X9_build τ n (o + 49 + 1 + (s.1 (o + 37) 3).toNatClampNeg) s a2 a3 a4 a7 (hO.1.ship q173.2) e_x174) ?_
                      refine jg_aload dX11_ship_144 rfl ?_
                      refine jg_iload dX11_ship_146 rfl ?_
                      refine cs_put (s := x174) (k := 4) (x := a5) fl_X11_167 dX11_ship_148 (hO.1.ship q173.2) (ltb rfl) (rfl) rfl rfl ?_
                      refine jg_aload dX11_ship_151 rfl ?_
                      refine jg_iload dX11_ship_153 rfl ?_
                      refine cs_put (s := (cp x174 (o + 49 + 1 + (s.1 (o + 37) 3).toNatClampNeg) 4 a5)) (k := 5) (x := a6) fl_X11_170 dX11_ship_155 (hO.1.ship q173.2) (ltb rfl) (rfl) rfl rfl ?_
                      obtain ⟨x175, e_x175, h⟩ := bd_some h
                      refine cs_sub (Option.some.inj e_x175) ?_
                      refine jg_aload dX11_ship_158 rfl ?_
                      refine jg_iload_n dX11_ship_160 rfl ?_
                      refine cs_put (s := x175) (k := 6) (x := a1) fl_X11_173 dX11_ship_161 (hO.1.ship q173.2) (ltb rfl) (rfl) rfl rfl ?_
                      refine jg_aload dX11_ship_164 rfl ?_
                      refine jg_iload dX11_ship_166 rfl ?_
                      refine cs_put (s := (cp x175 (o + 49 + 1 + (s.1 (o + 37) 3).toNatClampNeg) 6 a1)) (k := 7) (x := a8) fl_X11_176 dX11_ship_168 (hO.1.ship q173.2) (ltb rfl) (rfl) rfl rfl ?_
                      obtain ⟨x176, e_x176, h⟩ := bd_some h
                      refine cs_sub (Option.some.inj e_x176) ?_
                      refine jg_aload dX11_ship_171 rfl ?_
                      refine jg_aload_n dX11_ship_173 rfl ?_
                      refine cs_get (s := x176) (w := .ref (o + 10)) fl_X11_27 dX11_ship_174 hO.ob0 rfl ?_
                      refine cs_get (s := x176) (w := .int (x176.1 (o + 10) 0)) fl_X11_49 dX11_ship_177 hO.1.ob0 rfl ?_
                      refine jg_aload_n dX11_ship_180 rfl ?_
                      refine cs_get (s := x176) (w := .ref (o + 10)) fl_X11_27 dX11_ship_181 hO.ob0 rfl ?_
                      obtain ⟨x177, e_x177, h⟩ := bd_some h
                      refine cs_call (q := (o + 10)) (As := []) kv_X11_179 dX11_ship_184 hO.1.ob0 rfl rfl (by decide) (Nat.le_of_ble_eq_true rfl) rfl (by decide) (Nat.le_of_ble_eq_true rfl) (t_X2_actOfToday F τ n (o + 10) x176 hO.1 e_x177) ?_
                      obtain ⟨q178, h⟩ := gd_some h
                      obtain ⟨x179, e_x179, h⟩ := bd_some h
                      refine cs_call (q := (o + 49 + 1 + (s.1 (o + 37) 3).toNatClampNeg)) (As := [.int (x176.1 (o + 10) 0), .ref x177]) kv_X11_183 dX11_ship_187 (hO.1.ship q173.2) rfl rfl (by decide) (Nat.le_of_ble_eq_true rfl) rfl (by decide) (Nat.le_of_ble_eq_true rfl) (t_X9_come τ n (o + 49 + 1 + (s.1 (o + 37) 3).toNatClampNeg) x177 x176 (x176.1 (o + 10) 0) (hO.1.ship q173.2) q178 e_x179) ?_
                      refine jg_aload_n dX11_ship_190 rfl ?_
                      refine cs_get (s := x179) (w := .ref (o + 10)) fl_X11_27 dX11_ship_191 hO.ob0 rfl ?_
                      refine cs_get (s := x179) (w := .ref (o + 37)) fl_X11_123 dX11_ship_194 hO.1.ob0 rfl ?_
                      refine jg_dup dX11_ship_197 rfl ?_
                      refine cs_get (s := x179) (w := .int (x179.1 (o + 37) 3)) fl_X11_154 dX11_ship_198 (hO.1.ob 27 (by decide) rfl) rfl ?_
                      refine jg_iconst (v := nI 1) dX11_ship_201 (by decide) ?_
                      refine jg_iadd (x := (x179.1 (o + 37) 3)) (y := (nI 1)) dX11_ship_202  ?_
                      refine cs_put (s := x179) (k := 3) (x := ((x179.1 (o + 37) 3) + (nI 1))) fl_X11_154 dX11_ship_203 (hO.1.ob 27 (by decide) rfl) (ltb rfl) (rfl) rfl rfl ?_
                      refine jg_aload_n dX11_ship_206 rfl ?_
                      refine cs_get (s := (cp x179 (o + 37) 3 ((x179.1 (o + 37) 3) + (nI 1)))) (w := .ref (o + 10)) fl_X11_27 dX11_ship_207 hO.ob0 rfl ?_
                      refine cs_get (s := (cp x179 (o + 37) 3 ((x179.1 (o + 37) 3) + (nI 1)))) (w := .ref (o + 37)) fl_X11_123 dX11_ship_210 hO.1.ob0 rfl ?_
                      refine cs_get (s := (cp x179 (o + 37) 3 ((x179.1 (o + 37) 3) + (nI 1)))) (w := .int ((cp x179 (o + 37) 3 ((x179.1 (o + 37) 3) + (nI 1))).1 (o + 37) 3)) fl_X11_154 dX11_ship_213 (hO.1.ob 27 (by decide) rfl) rfl ?_
                      refine jg_iconst (v := nI 1) dX11_ship_216 (by decide) ?_
                      refine jg_isub (x := ((cp x179 (o + 37) 3 ((x179.1 (o + 37) 3) + (nI 1))).1 (o + 37) 3)) (y := (nI 1)) dX11_ship_217  ?_
                      obtain rfl := Sum.inl.inj (Option.some.inj h)
                      exact jg_ireturn dX11_ship_218 rfl ⟨rfl, rfl⟩
                    · replace h := se_r h
                      cases h
                  · replace h := se_r h
                    cases h
                · replace h := it_f c166 h
                  refine jg_iconst (v := nI 1) dX11_ship_87 (by decide) ?_
                  refine jg_goto (tgt := 92) dX11_ship_88 (by decide) ?_
                  obtain ⟨x180, e_x180, h⟩ := bd_some h
                  rcases x180 with y181 | z182
                  · replace h := se_l h
                    refine cs_callS (As := [.int (nI 1)]) ks_X11_45 dX11_ship_92 rfl (by decide) (Nat.le_of_ble_eq_true rfl) rfl (by decide) (Nat.le_of_ble_eq_true rfl) (t_X11_needArgument τ n s (nI 1) e_x180) ?_
                    refine jg_aload_n dX11_ship_95 rfl ?_
                    refine cs_get (s := s) (w := .ref (o + 10)) fl_X11_27 dX11_ship_96 hO.ob0 rfl ?_
                    refine cs_get (s := s) (w := .ref (o + 37)) fl_X11_123 dX11_ship_99 hO.1.ob0 rfl ?_
                    refine cs_get (s := s) (w := .int (s.1 (o + 37) 3)) fl_X11_154 dX11_ship_102 (hO.1.ob 27 (by decide) rfl) rfl ?_
                    refine jg_bipush (v := nI 80) dX11_ship_105 (by decide) ?_
                    obtain ⟨x183, e_x183, h⟩ := bd_some h
                    rcases x183 with y184 | z185
                    · replace h := se_l h
                      refine cs_callS (As := [.int (s.1 (o + 37) 3), .int (nI 80)]) ks_X11_82 dX11_ship_107 rfl (by decide) (Nat.le_of_ble_eq_true rfl) rfl (by decide) (Nat.le_of_ble_eq_true rfl) (t_X11_needRoom τ n s (s.1 (o + 37) 3) (nI 80) e_x183) ?_
                      refine jg_aload_n dX11_ship_110 rfl ?_
                      refine cs_get (s := s) (w := .ref (o + 10)) fl_X11_27 dX11_ship_111 hO.ob0 rfl ?_
                      refine cs_get (s := s) (w := .ref (o + 37)) fl_X11_123 dX11_ship_114 hO.1.ob0 rfl ?_
                      refine cs_get (s := s) (w := .ref (o + 49)) fl_X11_157 dX11_ship_117 (hO.1.ob 27 (by decide) rfl) rfl ?_
                      refine jg_aload_n dX11_ship_120 rfl ?_
                      refine cs_get (s := s) (w := .ref (o + 10)) fl_X11_27 dX11_ship_121 hO.ob0 rfl ?_
                      refine cs_get (s := s) (w := .ref (o + 37)) fl_X11_123 dX11_ship_124 hO.1.ob0 rfl ?_
                      refine cs_get (s := s) (w := .int (s.1 (o + 37) 3)) fl_X11_154 dX11_ship_127 (hO.1.ob 27 (by decide) rfl) rfl ?_
                      obtain ⟨q186, h⟩ := gd_some h
                      refine cs_ldr (s := s) (q := (o + 49)) (i := (s.1 (o + 37) 3)) (kd := 6) (by decide) dX11_ship_130 (hO.1.ar 39 (by decide) rfl) q186 ?_
                      refine jg_astore (L' := [some (.ref o), some (.int a1), some (.int a2), some (.int a3), some (.int a4), some (.int a5), some (.int a6), some (.int a7), some (.int a8), some (.ref (o + 49 + 1 + (s.1 (o + 37) 3).toNatClampNeg))]) dX11_ship_131 (by decide) rfl ?_
                      refine jg_aload dX11_ship_133 rfl ?_
                      refine jg_iload_n dX11_ship_135 rfl ?_
                      refine jg_iload_n dX11_ship_136 rfl ?_
                      refine jg_iload dX11_ship_137 rfl ?_
                      refine jg_iload dX11_ship_139 rfl ?_
                      obtain ⟨x187, e_x187, h⟩ := bd_some h
                      refine cs_call (q := (o + 49 + 1 + (s.1 (o + 37) 3).toNatClampNeg)) (As := [.int a2, .int a3, .int a4, .int a7]) kv_X11_161 dX11_ship_141 (hO.1.ship q186.2) rfl rfl (by decide) (Nat.le_of_ble_eq_true rfl) rfl (by decide) (Nat.le_of_ble_eq_true rfl) (t_X9_build τ n (o + 49 + 1 + (s.1 (o + 37) 3).toNatClampNeg) s a2 a3 a4 a7 (hO.1.ship q186.2) e_x187) ?_
                      refine jg_aload dX11_ship_144 rfl ?_
                      refine jg_iload dX11_ship_146 rfl ?_
                      refine cs_put (s := x187) (k := 4) (x := a5) fl_X11_167 dX11_ship_148 (hO.1.ship q186.2) (ltb rfl) (rfl) rfl rfl ?_
                      refine jg_aload dX11_ship_151 rfl ?_
                      refine jg_iload dX11_ship_153 rfl ?_
                      refine cs_put (s := (cp x187 (o + 49 + 1 + (s.1 (o + 37) 3).toNatClampNeg) 4 a5)) (k := 5) (x := a6) fl_X11_170 dX11_ship_155 (hO.1.ship q186.2) (ltb rfl) (rfl) rfl rfl ?_
                      obtain ⟨x188, e_x188, h⟩ := bd_some h
                      refine cs_sub (Option.some.inj e_x188) ?_
                      refine jg_aload dX11_ship_158 rfl ?_
                      refine jg_iload_n dX11_ship_160 rfl ?_
                      refine cs_put (s := x188) (k := 6) (x := a1) fl_X11_173 dX11_ship_161 (hO.1.ship q186.2) (ltb rfl) (rfl) rfl rfl ?_
                      refine jg_aload dX11_ship_164 rfl ?_
                      refine jg_iload dX11_ship_166 rfl ?_
                      refine cs_put (s := (cp x188 (o + 49 + 1 + (s.1 (o + 37) 3).toNatClampNeg) 6 a1)) (k := 7) (x := a8) fl_X11_176 dX11_ship_168 (hO.1.ship q186.2) (ltb rfl) (rfl) rfl rfl ?_
                      obtain ⟨x189, e_x189, h⟩ := bd_some h
                      refine cs_sub (Option.some.inj e_x189) ?_
                      refine jg_aload dX11_ship_171 rfl ?_
                      refine jg_aload_n dX11_ship_173 rfl ?_
                      refine cs_get (s := x189) (w := .ref (o + 10)) fl_X11_27 dX11_ship_174 hO.ob0 rfl ?_
                      refine cs_get (s := x189) (w := .int (x189.1 (o + 10) 0)) fl_X11_49 dX11_ship_177 hO.1.ob0 rfl ?_
                      refine jg_aload_n dX11_ship_180 rfl ?_
                      refine cs_get (s := x189) (w := .ref (o + 10)) fl_X11_27 dX11_ship_181 hO.ob0 rfl ?_
                      obtain ⟨x190, e_x190, h⟩ := bd_some h
                      refine cs_call (q := (o + 10)) (As := []) kv_X11_179 dX11_ship_184 hO.1.ob0 rfl rfl (by decide) (Nat.le_of_ble_eq_true rfl) rfl (by decide) (Nat.le_of_ble_eq_true rfl) (t_X2_actOfToday F τ n (o + 10) x189 hO.1 e_x190) ?_
                      obtain ⟨q191, h⟩ := gd_some h
                      obtain ⟨x192, e_x192, h⟩ := bd_some h
                      refine cs_call (q := (o + 49 + 1 + (s.1 (o + 37) 3).toNatClampNeg)) (As := [.int (x189.1 (o + 10) 0), .ref x190]) kv_X11_183 dX11_ship_187 (hO.1.ship q186.2) rfl rfl (by decide) (Nat.le_of_ble_eq_true rfl) rfl (by decide) (Nat.le_of_ble_eq_true rfl) (t_X9_come τ n (o + 49 + 1 + (s.1 (o + 37) 3).toNatClampNeg) x190 x189 (x189.1 (o + 10) 0) (hO.1.ship q186.2) q191 e_x192) ?_
                      refine jg_aload_n dX11_ship_190 rfl ?_
                      refine cs_get (s := x192) (w := .ref (o + 10)) fl_X11_27 dX11_ship_191 hO.ob0 rfl ?_
                      refine cs_get (s := x192) (w := .ref (o + 37)) fl_X11_123 dX11_ship_194 hO.1.ob0 rfl ?_
                      refine jg_dup dX11_ship_197 rfl ?_
                      refine cs_get (s := x192) (w := .int (x192.1 (o + 37) 3)) fl_X11_154 dX11_ship_198 (hO.1.ob 27 (by decide) rfl) rfl ?_
                      refine jg_iconst (v := nI 1) dX11_ship_201 (by decide) ?_
                      refine jg_iadd (x := (x192.1 (o + 37) 3)) (y := (nI 1)) dX11_ship_202  ?_
                      refine cs_put (s := x192) (k := 3) (x := ((x192.1 (o + 37) 3) + (nI 1))) fl_X11_154 dX11_ship_203 (hO.1.ob 27 (by decide) rfl) (ltb rfl) (rfl) rfl rfl ?_
                      refine jg_aload_n dX11_ship_206 rfl ?_
                      refine cs_get (s := (cp x192 (o + 37) 3 ((x192.1 (o + 37) 3) + (nI 1)))) (w := .ref (o + 10)) fl_X11_27 dX11_ship_207 hO.ob0 rfl ?_
                      refine cs_get (s := (cp x192 (o + 37) 3 ((x192.1 (o + 37) 3) + (nI 1)))) (w := .ref (o + 37)) fl_X11_123 dX11_ship_210 hO.1.ob0 rfl ?_
                      refine cs_get (s := (cp x192 (o + 37) 3 ((x192.1 (o + 37) 3) + (nI 1)))) (w := .int ((cp x192 (o + 37) 3 ((x192.1 (o + 37) 3) + (nI 1))).1 (o + 37) 3)) fl_X11_154 dX11_ship_213 (hO.1.ob 27 (by decide) rfl) rfl ?_
                      refine jg_iconst (v := nI 1) dX11_ship_216 (by decide) ?_
                      refine jg_isub (x := ((cp x192 (o + 37) 3 ((x192.1 (o + 37) 3) + (nI 1))).1 (o + 37) 3)) (y := (nI 1)) dX11_ship_217  ?_
                      obtain rfl := Sum.inl.inj (Option.some.inj h)
                      exact jg_ireturn dX11_ship_218 rfl ⟨rfl, rfl⟩
                    · replace h := se_r h
                      cases h
                  · replace h := se_r h
                    cases h
          · replace h := se_r h
            cases h
        · replace h := it_f c131 h
          refine jg_iconst (v := nI 1) dX11_ship_46 (by decide) ?_
          refine jg_goto (tgt := 51) dX11_ship_47 (by decide) ?_
          obtain ⟨x193, e_x193, h⟩ := bd_some h
          rcases x193 with y194 | z195
          · replace h := se_l h
            refine cs_callS (As := [.int (nI 1)]) ks_X11_45 dX11_ship_51 rfl (by decide) (Nat.le_of_ble_eq_true rfl) rfl (by decide) (Nat.le_of_ble_eq_true rfl) (t_X11_needArgument τ n s (nI 1) e_x193) ?_
            refine jg_iload dX11_ship_54 rfl ?_
            refine jg_iconst (v := nI 1) dX11_ship_56 (by decide) ?_
            refine jg_bipush (v := nI 80) dX11_ship_57 (by decide) ?_
            obtain ⟨x196, e_x196, h⟩ := bd_some h
            refine cs_callS (As := [.int a5, .int (nI 1), .int (nI 80)]) ks_X11_41 dX11_ship_59 rfl (by decide) (Nat.le_of_ble_eq_true rfl) rfl (by decide) (Nat.le_of_ble_eq_true rfl) (t_X11_within τ n s a5 (nI 1) (nI 80) e_x196) ?_
            refine jg_if_eq (x := x196) (tgt := 91) dX11_ship_62 (by decide) (fun c197 => ?_) (fun c197 => ?_)
            · replace h := it_t c197 h
              refine jg_iconst (v := nI 0) dX11_ship_91 (by decide) ?_
              obtain ⟨x198, e_x198, h⟩ := bd_some h
              rcases x198 with y199 | z200
              · replace h := se_l h
                refine cs_callS (As := [.int (nI 0)]) ks_X11_45 dX11_ship_92 rfl (by decide) (Nat.le_of_ble_eq_true rfl) rfl (by decide) (Nat.le_of_ble_eq_true rfl) (t_X11_needArgument τ n s (nI 0) e_x198) ?_
                refine jg_aload_n dX11_ship_95 rfl ?_
                refine cs_get (s := s) (w := .ref (o + 10)) fl_X11_27 dX11_ship_96 hO.ob0 rfl ?_
                refine cs_get (s := s) (w := .ref (o + 37)) fl_X11_123 dX11_ship_99 hO.1.ob0 rfl ?_
                refine cs_get (s := s) (w := .int (s.1 (o + 37) 3)) fl_X11_154 dX11_ship_102 (hO.1.ob 27 (by decide) rfl) rfl ?_
                refine jg_bipush (v := nI 80) dX11_ship_105 (by decide) ?_
                obtain ⟨x201, e_x201, h⟩ := bd_some h
                rcases x201 with y202 | z203
                · replace h := se_l h
                  refine cs_callS (As := [.int (s.1 (o + 37) 3), .int (nI 80)]) ks_X11_82 dX11_ship_107 rfl (by decide) (Nat.le_of_ble_eq_true rfl) rfl (by decide) (Nat.le_of_ble_eq_true rfl) (t_X11_needRoom τ n s (s.1 (o + 37) 3) (nI 80) e_x201) ?_
                  refine jg_aload_n dX11_ship_110 rfl ?_
                  refine cs_get (s := s) (w := .ref (o + 10)) fl_X11_27 dX11_ship_111 hO.ob0 rfl ?_
                  refine cs_get (s := s) (w := .ref (o + 37)) fl_X11_123 dX11_ship_114 hO.1.ob0 rfl ?_
                  refine cs_get (s := s) (w := .ref (o + 49)) fl_X11_157 dX11_ship_117 (hO.1.ob 27 (by decide) rfl) rfl ?_
                  refine jg_aload_n dX11_ship_120 rfl ?_
                  refine cs_get (s := s) (w := .ref (o + 10)) fl_X11_27 dX11_ship_121 hO.ob0 rfl ?_
                  refine cs_get (s := s) (w := .ref (o + 37)) fl_X11_123 dX11_ship_124 hO.1.ob0 rfl ?_
                  refine cs_get (s := s) (w := .int (s.1 (o + 37) 3)) fl_X11_154 dX11_ship_127 (hO.1.ob 27 (by decide) rfl) rfl ?_
                  obtain ⟨q204, h⟩ := gd_some h
                  refine cs_ldr (s := s) (q := (o + 49)) (i := (s.1 (o + 37) 3)) (kd := 6) (by decide) dX11_ship_130 (hO.1.ar 39 (by decide) rfl) q204 ?_
                  refine jg_astore (L' := [some (.ref o), some (.int a1), some (.int a2), some (.int a3), some (.int a4), some (.int a5), some (.int a6), some (.int a7), some (.int a8), some (.ref (o + 49 + 1 + (s.1 (o + 37) 3).toNatClampNeg))]) dX11_ship_131 (by decide) rfl ?_
                  refine jg_aload dX11_ship_133 rfl ?_
                  refine jg_iload_n dX11_ship_135 rfl ?_
                  refine jg_iload_n dX11_ship_136 rfl ?_
                  refine jg_iload dX11_ship_137 rfl ?_
                  refine jg_iload dX11_ship_139 rfl ?_
                  obtain ⟨x205, e_x205, h⟩ := bd_some h
                  refine cs_call (q := (o + 49 + 1 + (s.1 (o + 37) 3).toNatClampNeg)) (As := [.int a2, .int a3, .int a4, .int a7]) kv_X11_161 dX11_ship_141 (hO.1.ship q204.2) rfl rfl (by decide) (Nat.le_of_ble_eq_true rfl) rfl (by decide) (Nat.le_of_ble_eq_true rfl) (t_X9_build τ n (o + 49 + 1 + (s.1 (o + 37) 3).toNatClampNeg) s a2 a3 a4 a7 (hO.1.ship q204.2) e_x205) ?_
                  refine jg_aload dX11_ship_144 rfl ?_
                  refine jg_iload dX11_ship_146 rfl ?_
                  refine cs_put (s := x205) (k := 4) (x := a5) fl_X11_167 dX11_ship_148 (hO.1.ship q204.2) (ltb rfl) (rfl) rfl rfl ?_
                  refine jg_aload dX11_ship_151 rfl ?_
                  refine jg_iload dX11_ship_153 rfl ?_
                  refine cs_put (s := (cp x205 (o + 49 + 1 + (s.1 (o + 37) 3).toNatClampNeg) 4 a5)) (k := 5) (x := a6) fl_X11_170 dX11_ship_155 (hO.1.ship q204.2) (ltb rfl) (rfl) rfl rfl ?_
                  obtain ⟨x206, e_x206, h⟩ := bd_some h
                  refine cs_sub (Option.some.inj e_x206) ?_
                  refine jg_aload dX11_ship_158 rfl ?_
                  refine jg_iload_n dX11_ship_160 rfl ?_
                  refine cs_put (s := x206) (k := 6) (x := a1) fl_X11_173 dX11_ship_161 (hO.1.ship q204.2) (ltb rfl) (rfl) rfl rfl ?_
                  refine jg_aload dX11_ship_164 rfl ?_
                  refine jg_iload dX11_ship_166 rfl ?_
                  refine cs_put (s := (cp x206 (o + 49 + 1 + (s.1 (o + 37) 3).toNatClampNeg) 6 a1)) (k := 7) (x := a8) fl_X11_176 dX11_ship_168 (hO.1.ship q204.2) (ltb rfl) (rfl) rfl rfl ?_
                  obtain ⟨x207, e_x207, h⟩ := bd_some h
                  refine cs_sub (Option.some.inj e_x207) ?_
                  refine jg_aload dX11_ship_171 rfl ?_
                  refine jg_aload_n dX11_ship_173 rfl ?_
                  refine cs_get (s := x207) (w := .ref (o + 10)) fl_X11_27 dX11_ship_174 hO.ob0 rfl ?_
                  refine cs_get (s := x207) (w := .int (x207.1 (o + 10) 0)) fl_X11_49 dX11_ship_177 hO.1.ob0 rfl ?_
                  refine jg_aload_n dX11_ship_180 rfl ?_
                  refine cs_get (s := x207) (w := .ref (o + 10)) fl_X11_27 dX11_ship_181 hO.ob0 rfl ?_
                  obtain ⟨x208, e_x208, h⟩ := bd_some h
                  refine cs_call (q := (o + 10)) (As := []) kv_X11_179 dX11_ship_184 hO.1.ob0 rfl rfl (by decide) (Nat.le_of_ble_eq_true rfl) rfl (by decide) (Nat.le_of_ble_eq_true rfl) (t_X2_actOfToday F τ n (o + 10) x207 hO.1 e_x208) ?_
                  obtain ⟨q209, h⟩ := gd_some h
                  obtain ⟨x210, e_x210, h⟩ := bd_some h
                  refine cs_call (q := (o + 49 + 1 + (s.1 (o + 37) 3).toNatClampNeg)) (As := [.int (x207.1 (o + 10) 0), .ref x208]) kv_X11_183 dX11_ship_187 (hO.1.ship q204.2) rfl rfl (by decide) (Nat.le_of_ble_eq_true rfl) rfl (by decide) (Nat.le_of_ble_eq_true rfl) (t_X9_come τ n (o + 49 + 1 + (s.1 (o + 37) 3).toNatClampNeg) x208 x207 (x207.1 (o + 10) 0) (hO.1.ship q204.2) q209 e_x210) ?_
                  refine jg_aload_n dX11_ship_190 rfl ?_
                  refine cs_get (s := x210) (w := .ref (o + 10)) fl_X11_27 dX11_ship_191 hO.ob0 rfl ?_
                  refine cs_get (s := x210) (w := .ref (o + 37)) fl_X11_123 dX11_ship_194 hO.1.ob0 rfl ?_
                  refine jg_dup dX11_ship_197 rfl ?_
                  refine cs_get (s := x210) (w := .int (x210.1 (o + 37) 3)) fl_X11_154 dX11_ship_198 (hO.1.ob 27 (by decide) rfl) rfl ?_
                  refine jg_iconst (v := nI 1) dX11_ship_201 (by decide) ?_
                  refine jg_iadd (x := (x210.1 (o + 37) 3)) (y := (nI 1)) dX11_ship_202  ?_
                  refine cs_put (s := x210) (k := 3) (x := ((x210.1 (o + 37) 3) + (nI 1))) fl_X11_154 dX11_ship_203 (hO.1.ob 27 (by decide) rfl) (ltb rfl) (rfl) rfl rfl ?_
                  refine jg_aload_n dX11_ship_206 rfl ?_
                  refine cs_get (s := (cp x210 (o + 37) 3 ((x210.1 (o + 37) 3) + (nI 1)))) (w := .ref (o + 10)) fl_X11_27 dX11_ship_207 hO.ob0 rfl ?_
                  refine cs_get (s := (cp x210 (o + 37) 3 ((x210.1 (o + 37) 3) + (nI 1)))) (w := .ref (o + 37)) fl_X11_123 dX11_ship_210 hO.1.ob0 rfl ?_
                  refine cs_get (s := (cp x210 (o + 37) 3 ((x210.1 (o + 37) 3) + (nI 1)))) (w := .int ((cp x210 (o + 37) 3 ((x210.1 (o + 37) 3) + (nI 1))).1 (o + 37) 3)) fl_X11_154 dX11_ship_213 (hO.1.ob 27 (by decide) rfl) rfl ?_
                  refine jg_iconst (v := nI 1) dX11_ship_216 (by decide) ?_
                  refine jg_isub (x := ((cp x210 (o + 37) 3 ((x210.1 (o + 37) 3) + (nI 1))).1 (o + 37) 3)) (y := (nI 1)) dX11_ship_217  ?_
                  obtain rfl := Sum.inl.inj (Option.some.inj h)
                  exact jg_ireturn dX11_ship_218 rfl ⟨rfl, rfl⟩
                · replace h := se_r h
                  cases h
              · replace h := se_r h
                cases h
            · replace h := it_f c197 h
              refine jg_iload dX11_ship_65 rfl ?_
              refine jg_iconst (v := nI 1) dX11_ship_67 (by decide) ?_
              refine jg_bipush (v := nI 80) dX11_ship_68 (by decide) ?_
              obtain ⟨x211, e_x211, h⟩ := bd_some h
              refine cs_callS (As := [.int a6, .int (nI 1), .int (nI 80)]) ks_X11_41 dX11_ship_70 rfl (by decide) (Nat.le_of_ble_eq_true rfl) rfl (by decide) (Nat.le_of_ble_eq_true rfl) (t_X11_within τ n s a6 (nI 1) (nI 80) e_x211) ?_
              refine jg_if_eq (x := x211) (tgt := 91) dX11_ship_73 (by decide) (fun c212 => ?_) (fun c212 => ?_)
              · replace h := it_t c212 h
                refine jg_iconst (v := nI 0) dX11_ship_91 (by decide) ?_
                obtain ⟨x213, e_x213, h⟩ := bd_some h
                rcases x213 with y214 | z215
                · replace h := se_l h
                  refine cs_callS (As := [.int (nI 0)]) ks_X11_45 dX11_ship_92 rfl (by decide) (Nat.le_of_ble_eq_true rfl) rfl (by decide) (Nat.le_of_ble_eq_true rfl) (t_X11_needArgument τ n s (nI 0) e_x213) ?_
                  refine jg_aload_n dX11_ship_95 rfl ?_
                  refine cs_get (s := s) (w := .ref (o + 10)) fl_X11_27 dX11_ship_96 hO.ob0 rfl ?_
                  refine cs_get (s := s) (w := .ref (o + 37)) fl_X11_123 dX11_ship_99 hO.1.ob0 rfl ?_
                  refine cs_get (s := s) (w := .int (s.1 (o + 37) 3)) fl_X11_154 dX11_ship_102 (hO.1.ob 27 (by decide) rfl) rfl ?_
                  refine jg_bipush (v := nI 80) dX11_ship_105 (by decide) ?_
                  obtain ⟨x216, e_x216, h⟩ := bd_some h
                  rcases x216 with y217 | z218
                  · replace h := se_l h
                    refine cs_callS (As := [.int (s.1 (o + 37) 3), .int (nI 80)]) ks_X11_82 dX11_ship_107 rfl (by decide) (Nat.le_of_ble_eq_true rfl) rfl (by decide) (Nat.le_of_ble_eq_true rfl) (t_X11_needRoom τ n s (s.1 (o + 37) 3) (nI 80) e_x216) ?_
                    refine jg_aload_n dX11_ship_110 rfl ?_
                    refine cs_get (s := s) (w := .ref (o + 10)) fl_X11_27 dX11_ship_111 hO.ob0 rfl ?_
                    refine cs_get (s := s) (w := .ref (o + 37)) fl_X11_123 dX11_ship_114 hO.1.ob0 rfl ?_
                    refine cs_get (s := s) (w := .ref (o + 49)) fl_X11_157 dX11_ship_117 (hO.1.ob 27 (by decide) rfl) rfl ?_
                    refine jg_aload_n dX11_ship_120 rfl ?_
                    refine cs_get (s := s) (w := .ref (o + 10)) fl_X11_27 dX11_ship_121 hO.ob0 rfl ?_
                    refine cs_get (s := s) (w := .ref (o + 37)) fl_X11_123 dX11_ship_124 hO.1.ob0 rfl ?_
                    refine cs_get (s := s) (w := .int (s.1 (o + 37) 3)) fl_X11_154 dX11_ship_127 (hO.1.ob 27 (by decide) rfl) rfl ?_
                    obtain ⟨q219, h⟩ := gd_some h
                    refine cs_ldr (s := s) (q := (o + 49)) (i := (s.1 (o + 37) 3)) (kd := 6) (by decide) dX11_ship_130 (hO.1.ar 39 (by decide) rfl) q219 ?_
                    refine jg_astore (L' := [some (.ref o), some (.int a1), some (.int a2), some (.int a3), some (.int a4), some (.int a5), some (.int a6), some (.int a7), some (.int a8), some (.ref (o + 49 + 1 + (s.1 (o + 37) 3).toNatClampNeg))]) dX11_ship_131 (by decide) rfl ?_
                    refine jg_aload dX11_ship_133 rfl ?_
                    refine jg_iload_n dX11_ship_135 rfl ?_
                    refine jg_iload_n dX11_ship_136 rfl ?_
                    refine jg_iload dX11_ship_137 rfl ?_
                    refine jg_iload dX11_ship_139 rfl ?_
                    obtain ⟨x220, e_x220, h⟩ := bd_some h
                    refine cs_call (q := (o + 49 + 1 + (s.1 (o + 37) 3).toNatClampNeg)) (As := [.int a2, .int a3, .int a4, .int a7]) kv_X11_161 dX11_ship_141 (hO.1.ship q219.2) rfl rfl (by decide) (Nat.le_of_ble_eq_true rfl) rfl (by decide) (Nat.le_of_ble_eq_true rfl) (t_X9_build τ n (o + 49 + 1 + (s.1 (o + 37) 3).toNatClampNeg) s a2 a3 a4 a7 (hO.1.ship q219.2) e_x220) ?_
                    refine jg_aload dX11_ship_144 rfl ?_
                    refine jg_iload dX11_ship_146 rfl ?_
                    refine cs_put (s := x220) (k := 4) (x := a5) fl_X11_167 dX11_ship_148 (hO.1.ship q219.2) (ltb rfl) (rfl) rfl rfl ?_
                    refine jg_aload dX11_ship_151 rfl ?_
                    refine jg_iload dX11_ship_153 rfl ?_
                    refine cs_put (s := (cp x220 (o + 49 + 1 + (s.1 (o + 37) 3).toNatClampNeg) 4 a5)) (k := 5) (x := a6) fl_X11_170 dX11_ship_155 (hO.1.ship q219.2) (ltb rfl) (rfl) rfl rfl ?_
                    obtain ⟨x221, e_x221, h⟩ := bd_some h
                    refine cs_sub (Option.some.inj e_x221) ?_
                    refine jg_aload dX11_ship_158 rfl ?_
                    refine jg_iload_n dX11_ship_160 rfl ?_
                    refine cs_put (s := x221) (k := 6) (x := a1) fl_X11_173 dX11_ship_161 (hO.1.ship q219.2) (ltb rfl) (rfl) rfl rfl ?_
                    refine jg_aload dX11_ship_164 rfl ?_
                    refine jg_iload dX11_ship_166 rfl ?_
                    refine cs_put (s := (cp x221 (o + 49 + 1 + (s.1 (o + 37) 3).toNatClampNeg) 6 a1)) (k := 7) (x := a8) fl_X11_176 dX11_ship_168 (hO.1.ship q219.2) (ltb rfl) (rfl) rfl rfl ?_
                    obtain ⟨x222, e_x222, h⟩ := bd_some h
                    refine cs_sub (Option.some.inj e_x222) ?_
                    refine jg_aload dX11_ship_171 rfl ?_
                    refine jg_aload_n dX11_ship_173 rfl ?_
                    refine cs_get (s := x222) (w := .ref (o + 10)) fl_X11_27 dX11_ship_174 hO.ob0 rfl ?_
                    refine cs_get (s := x222) (w := .int (x222.1 (o + 10) 0)) fl_X11_49 dX11_ship_177 hO.1.ob0 rfl ?_
                    refine jg_aload_n dX11_ship_180 rfl ?_
                    refine cs_get (s := x222) (w := .ref (o + 10)) fl_X11_27 dX11_ship_181 hO.ob0 rfl ?_
                    obtain ⟨x223, e_x223, h⟩ := bd_some h
                    refine cs_call (q := (o + 10)) (As := []) kv_X11_179 dX11_ship_184 hO.1.ob0 rfl rfl (by decide) (Nat.le_of_ble_eq_true rfl) rfl (by decide) (Nat.le_of_ble_eq_true rfl) (t_X2_actOfToday F τ n (o + 10) x222 hO.1 e_x223) ?_
                    obtain ⟨q224, h⟩ := gd_some h
                    obtain ⟨x225, e_x225, h⟩ := bd_some h
                    refine cs_call (q := (o + 49 + 1 + (s.1 (o + 37) 3).toNatClampNeg)) (As := [.int (x222.1 (o + 10) 0), .ref x223]) kv_X11_183 dX11_ship_187 (hO.1.ship q219.2) rfl rfl (by decide) (Nat.le_of_ble_eq_true rfl) rfl (by decide) (Nat.le_of_ble_eq_true rfl) (t_X9_come τ n (o + 49 + 1 + (s.1 (o + 37) 3).toNatClampNeg) x223 x222 (x222.1 (o + 10) 0) (hO.1.ship q219.2) q224 e_x225) ?_
                    refine jg_aload_n dX11_ship_190 rfl ?_
                    refine cs_get (s := x225) (w := .ref (o + 10)) fl_X11_27 dX11_ship_191 hO.ob0 rfl ?_
                    refine cs_get (s := x225) (w := .ref (o + 37)) fl_X11_123 dX11_ship_194 hO.1.ob0 rfl ?_
                    refine jg_dup dX11_ship_197 rfl ?_
                    refine cs_get (s := x225) (w := .int (x225.1 (o + 37) 3)) fl_X11_154 dX11_ship_198 (hO.1.ob 27 (by decide) rfl) rfl ?_
                    refine jg_iconst (v := nI 1) dX11_ship_201 (by decide) ?_
                    refine jg_iadd (x := (x225.1 (o + 37) 3)) (y := (nI 1)) dX11_ship_202  ?_
                    refine cs_put (s := x225) (k := 3) (x := ((x225.1 (o + 37) 3) + (nI 1))) fl_X11_154 dX11_ship_203 (hO.1.ob 27 (by decide) rfl) (ltb rfl) (rfl) rfl rfl ?_
                    refine jg_aload_n dX11_ship_206 rfl ?_
                    refine cs_get (s := (cp x225 (o + 37) 3 ((x225.1 (o + 37) 3) + (nI 1)))) (w := .ref (o + 10)) fl_X11_27 dX11_ship_207 hO.ob0 rfl ?_
                    refine cs_get (s := (cp x225 (o + 37) 3 ((x225.1 (o + 37) 3) + (nI 1)))) (w := .ref (o + 37)) fl_X11_123 dX11_ship_210 hO.1.ob0 rfl ?_
                    refine cs_get (s := (cp x225 (o + 37) 3 ((x225.1 (o + 37) 3) + (nI 1)))) (w := .int ((cp x225 (o + 37) 3 ((x225.1 (o + 37) 3) + (nI 1))).1 (o + 37) 3)) fl_X11_154 dX11_ship_213 (hO.1.ob 27 (by decide) rfl) rfl ?_
                    refine jg_iconst (v := nI 1) dX11_ship_216 (by decide) ?_
                    refine jg_isub (x := ((cp x225 (o + 37) 3 ((x225.1 (o + 37) 3) + (nI 1))).1 (o + 37) 3)) (y := (nI 1)) dX11_ship_217  ?_
                    obtain rfl := Sum.inl.inj (Option.some.inj h)
                    exact jg_ireturn dX11_ship_218 rfl ⟨rfl, rfl⟩
                  · replace h := se_r h
                    cases h
                · replace h := se_r h
                  cases h
              · replace h := it_f c212 h
                refine jg_iload dX11_ship_76 rfl ?_
                refine jg_iconst (v := nI 0) dX11_ship_78 (by decide) ?_
                refine jg_ldc kk_X11_153 dX11_ship_79 ?_
                rw [show (1000000 : Int32) = nI 1000000 from rfl]
                obtain ⟨x226, e_x226, h⟩ := bd_some h
                refine cs_callS (As := [.int a8, .int (nI 0), .int (nI 1000000)]) ks_X11_41 dX11_ship_81 rfl (by decide) (Nat.le_of_ble_eq_true rfl) rfl (by decide) (Nat.le_of_ble_eq_true rfl) (t_X11_within τ n s a8 (nI 0) (nI 1000000) e_x226) ?_
                refine jg_if_eq (x := x226) (tgt := 91) dX11_ship_84 (by decide) (fun c227 => ?_) (fun c227 => ?_)
                · replace h := it_t c227 h
                  refine jg_iconst (v := nI 0) dX11_ship_91 (by decide) ?_
                  obtain ⟨x228, e_x228, h⟩ := bd_some h
                  rcases x228 with y229 | z230
                  · replace h := se_l h
                    refine cs_callS (As := [.int (nI 0)]) ks_X11_45 dX11_ship_92 rfl (by decide) (Nat.le_of_ble_eq_true rfl) rfl (by decide) (Nat.le_of_ble_eq_true rfl) (t_X11_needArgument τ n s (nI 0) e_x228) ?_
                    refine jg_aload_n dX11_ship_95 rfl ?_
                    refine cs_get (s := s) (w := .ref (o + 10)) fl_X11_27 dX11_ship_96 hO.ob0 rfl ?_
                    refine cs_get (s := s) (w := .ref (o + 37)) fl_X11_123 dX11_ship_99 hO.1.ob0 rfl ?_
                    refine cs_get (s := s) (w := .int (s.1 (o + 37) 3)) fl_X11_154 dX11_ship_102 (hO.1.ob 27 (by decide) rfl) rfl ?_
                    refine jg_bipush (v := nI 80) dX11_ship_105 (by decide) ?_
                    obtain ⟨x231, e_x231, h⟩ := bd_some h
                    rcases x231 with y232 | z233
                    · replace h := se_l h
                      refine cs_callS (As := [.int (s.1 (o + 37) 3), .int (nI 80)]) ks_X11_82 dX11_ship_107 rfl (by decide) (Nat.le_of_ble_eq_true rfl) rfl (by decide) (Nat.le_of_ble_eq_true rfl) (t_X11_needRoom τ n s (s.1 (o + 37) 3) (nI 80) e_x231) ?_
                      refine jg_aload_n dX11_ship_110 rfl ?_
                      refine cs_get (s := s) (w := .ref (o + 10)) fl_X11_27 dX11_ship_111 hO.ob0 rfl ?_
                      refine cs_get (s := s) (w := .ref (o + 37)) fl_X11_123 dX11_ship_114 hO.1.ob0 rfl ?_
                      refine cs_get (s := s) (w := .ref (o + 49)) fl_X11_157 dX11_ship_117 (hO.1.ob 27 (by decide) rfl) rfl ?_
                      refine jg_aload_n dX11_ship_120 rfl ?_
                      refine cs_get (s := s) (w := .ref (o + 10)) fl_X11_27 dX11_ship_121 hO.ob0 rfl ?_
                      refine cs_get (s := s) (w := .ref (o + 37)) fl_X11_123 dX11_ship_124 hO.1.ob0 rfl ?_
                      refine cs_get (s := s) (w := .int (s.1 (o + 37) 3)) fl_X11_154 dX11_ship_127 (hO.1.ob 27 (by decide) rfl) rfl ?_
                      obtain ⟨q234, h⟩ := gd_some h
                      refine cs_ldr (s := s) (q := (o + 49)) (i := (s.1 (o + 37) 3)) (kd := 6) (by decide) dX11_ship_130 (hO.1.ar 39 (by decide) rfl) q234 ?_
                      refine jg_astore (L' := [some (.ref o), some (.int a1), some (.int a2), some (.int a3), some (.int a4), some (.int a5), some (.int a6), some (.int a7), some (.int a8), some (.ref (o + 49 + 1 + (s.1 (o + 37) 3).toNatClampNeg))]) dX11_ship_131 (by decide) rfl ?_
                      refine jg_aload dX11_ship_133 rfl ?_
                      refine jg_iload_n dX11_ship_135 rfl ?_
                      refine jg_iload_n dX11_ship_136 rfl ?_
                      refine jg_iload dX11_ship_137 rfl ?_
                      refine jg_iload dX11_ship_139 rfl ?_
                      obtain ⟨x235, e_x235, h⟩ := bd_some h
                      refine cs_call (q := (o + 49 + 1 + (s.1 (o + 37) 3).toNatClampNeg)) (As := [.int a2, .int a3, .int a4, .int a7]) kv_X11_161 dX11_ship_141 (hO.1.ship q234.2) rfl rfl (by decide) (Nat.le_of_ble_eq_true rfl) rfl (by decide) (Nat.le_of_ble_eq_true rfl) (t_X9_build τ n (o + 49 + 1 + (s.1 (o + 37) 3).toNatClampNeg) s a2 a3 a4 a7 (hO.1.ship q234.2) e_x235) ?_
                      refine jg_aload dX11_ship_144 rfl ?_
                      refine jg_iload dX11_ship_146 rfl ?_
                      refine cs_put (s := x235) (k := 4) (x := a5) fl_X11_167 dX11_ship_148 (hO.1.ship q234.2) (ltb rfl) (rfl) rfl rfl ?_
                      refine jg_aload dX11_ship_151 rfl ?_
                      refine jg_iload dX11_ship_153 rfl ?_
                      refine cs_put (s := (cp x235 (o + 49 + 1 + (s.1 (o + 37) 3).toNatClampNeg) 4 a5)) (k := 5) (x := a6) fl_X11_170 dX11_ship_155 (hO.1.ship q234.2) (ltb rfl) (rfl) rfl rfl ?_
                      obtain ⟨x236, e_x236, h⟩ := bd_some h
                      refine cs_sub (Option.some.inj e_x236) ?_
                      refine jg_aload dX11_ship_158 rfl ?_
                      refine jg_iload_n dX11_ship_160 rfl ?_
                      refine cs_put (s := x236) (k := 6) (x := a1) fl_X11_173 dX11_ship_161 (hO.1.ship q234.2) (ltb rfl) (rfl) rfl rfl ?_
                      refine jg_aload dX11_ship_164 rfl ?_
                      refine jg_iload dX11_ship_166 rfl ?_
                      refine cs_put (s := (cp x236 (o + 49 + 1 + (s.1 (o + 37) 3).toNatClampNeg) 6 a1)) (k := 7) (x := a8) fl_X11_176 dX11_ship_168 (hO.1.ship q234.2) (ltb rfl) (rfl) rfl rfl ?_
                      obtain ⟨x237, e_x237, h⟩ := bd_some h
                      refine cs_sub (Option.some.inj e_x237) ?_
                      refine jg_aload dX11_ship_171 rfl ?_
                      refine jg_aload_n dX11_ship_173 rfl ?_
                      refine cs_get (s := x237) (w := .ref (o + 10)) fl_X11_27 dX11_ship_174 hO.ob0 rfl ?_
                      refine cs_get (s := x237) (w := .int (x237.1 (o + 10) 0)) fl_X11_49 dX11_ship_177 hO.1.ob0 rfl ?_
                      refine jg_aload_n dX11_ship_180 rfl ?_
                      refine cs_get (s := x237) (w := .ref (o + 10)) fl_X11_27 dX11_ship_181 hO.ob0 rfl ?_
                      obtain ⟨x238, e_x238, h⟩ := bd_some h
                      refine cs_call (q := (o + 10)) (As := []) kv_X11_179 dX11_ship_184 hO.1.ob0 rfl rfl (by decide) (Nat.le_of_ble_eq_true rfl) rfl (by decide) (Nat.le_of_ble_eq_true rfl) (t_X2_actOfToday F τ n (o + 10) x237 hO.1 e_x238) ?_
                      obtain ⟨q239, h⟩ := gd_some h
                      obtain ⟨x240, e_x240, h⟩ := bd_some h
                      refine cs_call (q := (o + 49 + 1 + (s.1 (o + 37) 3).toNatClampNeg)) (As := [.int (x237.1 (o + 10) 0), .ref x238]) kv_X11_183 dX11_ship_187 (hO.1.ship q234.2) rfl rfl (by decide) (Nat.le_of_ble_eq_true rfl) rfl (by decide) (Nat.le_of_ble_eq_true rfl) (t_X9_come τ n (o + 49 + 1 + (s.1 (o + 37) 3).toNatClampNeg) x238 x237 (x237.1 (o + 10) 0) (hO.1.ship q234.2) q239 e_x240) ?_
                      refine jg_aload_n dX11_ship_190 rfl ?_
                      refine cs_get (s := x240) (w := .ref (o + 10)) fl_X11_27 dX11_ship_191 hO.ob0 rfl ?_
                      refine cs_get (s := x240) (w := .ref (o + 37)) fl_X11_123 dX11_ship_194 hO.1.ob0 rfl ?_
                      refine jg_dup dX11_ship_197 rfl ?_
                      refine cs_get (s := x240) (w := .int (x240.1 (o + 37) 3)) fl_X11_154 dX11_ship_198 (hO.1.ob 27 (by decide) rfl) rfl ?_
                      refine jg_iconst (v := nI 1) dX11_ship_201 (by decide) ?_
                      refine jg_iadd (x := (x240.1 (o + 37) 3)) (y := (nI 1)) dX11_ship_202  ?_
                      refine cs_put (s := x240) (k := 3) (x := ((x240.1 (o + 37) 3) + (nI 1))) fl_X11_154 dX11_ship_203 (hO.1.ob 27 (by decide) rfl) (ltb rfl) (rfl) rfl rfl ?_
                      refine jg_aload_n dX11_ship_206 rfl ?_
                      refine cs_get (s := (cp x240 (o + 37) 3 ((x240.1 (o + 37) 3) + (nI 1)))) (w := .ref (o + 10)) fl_X11_27 dX11_ship_207 hO.ob0 rfl ?_
                      refine cs_get (s := (cp x240 (o + 37) 3 ((x240.1 (o + 37) 3) + (nI 1)))) (w := .ref (o + 37)) fl_X11_123 dX11_ship_210 hO.1.ob0 rfl ?_
                      refine cs_get (s := (cp x240 (o + 37) 3 ((x240.1 (o + 37) 3) + (nI 1)))) (w := .int ((cp x240 (o + 37) 3 ((x240.1 (o + 37) 3) + (nI 1))).1 (o + 37) 3)) fl_X11_154 dX11_ship_213 (hO.1.ob 27 (by decide) rfl) rfl ?_
                      refine jg_iconst (v := nI 1) dX11_ship_216 (by decide) ?_
                      refine jg_isub (x := ((cp x240 (o + 37) 3 ((x240.1 (o + 37) 3) + (nI 1))).1 (o + 37) 3)) (y := (nI 1)) dX11_ship_217  ?_
                      obtain rfl := Sum.inl.inj (Option.some.inj h)
                      exact jg_ireturn dX11_ship_218 rfl ⟨rfl, rfl⟩
                    · replace h := se_r h
                      cases h
                  · replace h := se_r h
                    cases h
                · replace h := it_f c227 h
                  refine jg_iconst (v := nI 1) dX11_ship_87 (by decide) ?_
                  refine jg_goto (tgt := 92) dX11_ship_88 (by decide) ?_
                  obtain ⟨x241, e_x241, h⟩ := bd_some h
                  rcases x241 with y242 | z243
                  · replace h := se_l h
                    refine cs_callS (As := [.int (nI 1)]) ks_X11_45 dX11_ship_92 rfl (by decide) (Nat.le_of_ble_eq_true rfl) rfl (by decide) (Nat.le_of_ble_eq_true rfl) (t_X11_needArgument τ n s (nI 1) e_x241) ?_
                    refine jg_aload_n dX11_ship_95 rfl ?_
                    refine cs_get (s := s) (w := .ref (o + 10)) fl_X11_27 dX11_ship_96 hO.ob0 rfl ?_
                    refine cs_get (s := s) (w := .ref (o + 37)) fl_X11_123 dX11_ship_99 hO.1.ob0 rfl ?_
                    refine cs_get (s := s) (w := .int (s.1 (o + 37) 3)) fl_X11_154 dX11_ship_102 (hO.1.ob 27 (by decide) rfl) rfl ?_
                    refine jg_bipush (v := nI 80) dX11_ship_105 (by decide) ?_
                    obtain ⟨x244, e_x244, h⟩ := bd_some h
                    rcases x244 with y245 | z246
                    · replace h := se_l h
                      refine cs_callS (As := [.int (s.1 (o + 37) 3), .int (nI 80)]) ks_X11_82 dX11_ship_107 rfl (by decide) (Nat.le_of_ble_eq_true rfl) rfl (by decide) (Nat.le_of_ble_eq_true rfl) (t_X11_needRoom τ n s (s.1 (o + 37) 3) (nI 80) e_x244) ?_
                      refine jg_aload_n dX11_ship_110 rfl ?_
                      refine cs_get (s := s) (w := .ref (o + 10)) fl_X11_27 dX11_ship_111 hO.ob0 rfl ?_
                      refine cs_get (s := s) (w := .ref (o + 37)) fl_X11_123 dX11_ship_114 hO.1.ob0 rfl ?_
                      refine cs_get (s := s) (w := .ref (o + 49)) fl_X11_157 dX11_ship_117 (hO.1.ob 27 (by decide) rfl) rfl ?_
                      refine jg_aload_n dX11_ship_120 rfl ?_
                      refine cs_get (s := s) (w := .ref (o + 10)) fl_X11_27 dX11_ship_121 hO.ob0 rfl ?_
                      refine cs_get (s := s) (w := .ref (o + 37)) fl_X11_123 dX11_ship_124 hO.1.ob0 rfl ?_
                      refine cs_get (s := s) (w := .int (s.1 (o + 37) 3)) fl_X11_154 dX11_ship_127 (hO.1.ob 27 (by decide) rfl) rfl ?_
                      obtain ⟨q247, h⟩ := gd_some h
                      refine cs_ldr (s := s) (q := (o + 49)) (i := (s.1 (o + 37) 3)) (kd := 6) (by decide) dX11_ship_130 (hO.1.ar 39 (by decide) rfl) q247 ?_
                      refine jg_astore (L' := [some (.ref o), some (.int a1), some (.int a2), some (.int a3), some (.int a4), some (.int a5), some (.int a6), some (.int a7), some (.int a8), some (.ref (o + 49 + 1 + (s.1 (o + 37) 3).toNatClampNeg))]) dX11_ship_131 (by decide) rfl ?_
                      refine jg_aload dX11_ship_133 rfl ?_
                      refine jg_iload_n dX11_ship_135 rfl ?_
                      refine jg_iload_n dX11_ship_136 rfl ?_
                      refine jg_iload dX11_ship_137 rfl ?_
                      refine jg_iload dX11_ship_139 rfl ?_
                      obtain ⟨x248, e_x248, h⟩ := bd_some h
                      refine cs_call (q := (o + 49 + 1 + (s.1 (o + 37) 3).toNatClampNeg)) (As := [.int a2, .int a3, .int a4, .int a7]) kv_X11_161 dX11_ship_141 (hO.1.ship q247.2) rfl rfl (by decide) (Nat.le_of_ble_eq_true rfl) rfl (by decide) (Nat.le_of_ble_eq_true rfl) (t_X9_build τ n (o + 49 + 1 + (s.1 (o + 37) 3).toNatClampNeg) s a2 a3 a4 a7 (hO.1.ship q247.2) e_x248) ?_
                      refine jg_aload dX11_ship_144 rfl ?_
                      refine jg_iload dX11_ship_146 rfl ?_
                      refine cs_put (s := x248) (k := 4) (x := a5) fl_X11_167 dX11_ship_148 (hO.1.ship q247.2) (ltb rfl) (rfl) rfl rfl ?_
                      refine jg_aload dX11_ship_151 rfl ?_
                      refine jg_iload dX11_ship_153 rfl ?_
                      refine cs_put (s := (cp x248 (o + 49 + 1 + (s.1 (o + 37) 3).toNatClampNeg) 4 a5)) (k := 5) (x := a6) fl_X11_170 dX11_ship_155 (hO.1.ship q247.2) (ltb rfl) (rfl) rfl rfl ?_
                      obtain ⟨x249, e_x249, h⟩ := bd_some h
                      refine cs_sub (Option.some.inj e_x249) ?_
                      refine jg_aload dX11_ship_158 rfl ?_
                      refine jg_iload_n dX11_ship_160 rfl ?_
                      refine cs_put (s := x249) (k := 6) (x := a1) fl_X11_173 dX11_ship_161 (hO.1.ship q247.2) (ltb rfl) (rfl) rfl rfl ?_
                      refine jg_aload dX11_ship_164 rfl ?_
                      refine jg_iload dX11_ship_166 rfl ?_
                      refine cs_put (s := (cp x249 (o + 49 + 1 + (s.1 (o + 37) 3).toNatClampNeg) 6 a1)) (k := 7) (x := a8) fl_X11_176 dX11_ship_168 (hO.1.ship q247.2) (ltb rfl) (rfl) rfl rfl ?_
                      obtain ⟨x250, e_x250, h⟩ := bd_some h
                      refine cs_sub (Option.some.inj e_x250) ?_
                      refine jg_aload dX11_ship_171 rfl ?_
                      refine jg_aload_n dX11_ship_173 rfl ?_
                      refine cs_get (s := x250) (w := .ref (o + 10)) fl_X11_27 dX11_ship_174 hO.ob0 rfl ?_
                      refine cs_get (s := x250) (w := .int (x250.1 (o + 10) 0)) fl_X11_49 dX11_ship_177 hO.1.ob0 rfl ?_
                      refine jg_aload_n dX11_ship_180 rfl ?_
                      refine cs_get (s := x250) (w := .ref (o + 10)) fl_X11_27 dX11_ship_181 hO.ob0 rfl ?_
                      obtain ⟨x251, e_x251, h⟩ := bd_some h
                      refine cs_call (q := (o + 10)) (As := []) kv_X11_179 dX11_ship_184 hO.1.ob0 rfl rfl (by decide) (Nat.le_of_ble_eq_true rfl) rfl (by decide) (Nat.le_of_ble_eq_true rfl) (t_X2_actOfToday F τ n (o + 10) x250 hO.1 e_x251) ?_
                      obtain ⟨q252, h⟩ := gd_some h
                      obtain ⟨x253, e_x253, h⟩ := bd_some h
                      refine cs_call (q := (o + 49 + 1 + (s.1 (o + 37) 3).toNatClampNeg)) (As := [.int (x250.1 (o + 10) 0), .ref x251]) kv_X11_183 dX11_ship_187 (hO.1.ship q247.2) rfl rfl (by decide) (Nat.le_of_ble_eq_true rfl) rfl (by decide) (Nat.le_of_ble_eq_true rfl) (t_X9_come τ n (o + 49 + 1 + (s.1 (o + 37) 3).toNatClampNeg) x251 x250 (x250.1 (o + 10) 0) (hO.1.ship q247.2) q252 e_x253) ?_
                      refine jg_aload_n dX11_ship_190 rfl ?_
                      refine cs_get (s := x253) (w := .ref (o + 10)) fl_X11_27 dX11_ship_191 hO.ob0 rfl ?_
                      refine cs_get (s := x253) (w := .ref (o + 37)) fl_X11_123 dX11_ship_194 hO.1.ob0 rfl ?_
                      refine jg_dup dX11_ship_197 rfl ?_
                      refine cs_get (s := x253) (w := .int (x253.1 (o + 37) 3)) fl_X11_154 dX11_ship_198 (hO.1.ob 27 (by decide) rfl) rfl ?_
                      refine jg_iconst (v := nI 1) dX11_ship_201 (by decide) ?_
                      refine jg_iadd (x := (x253.1 (o + 37) 3)) (y := (nI 1)) dX11_ship_202  ?_
                      refine cs_put (s := x253) (k := 3) (x := ((x253.1 (o + 37) 3) + (nI 1))) fl_X11_154 dX11_ship_203 (hO.1.ob 27 (by decide) rfl) (ltb rfl) (rfl) rfl rfl ?_
                      refine jg_aload_n dX11_ship_206 rfl ?_
                      refine cs_get (s := (cp x253 (o + 37) 3 ((x253.1 (o + 37) 3) + (nI 1)))) (w := .ref (o + 10)) fl_X11_27 dX11_ship_207 hO.ob0 rfl ?_
                      refine cs_get (s := (cp x253 (o + 37) 3 ((x253.1 (o + 37) 3) + (nI 1)))) (w := .ref (o + 37)) fl_X11_123 dX11_ship_210 hO.1.ob0 rfl ?_
                      refine cs_get (s := (cp x253 (o + 37) 3 ((x253.1 (o + 37) 3) + (nI 1)))) (w := .int ((cp x253 (o + 37) 3 ((x253.1 (o + 37) 3) + (nI 1))).1 (o + 37) 3)) fl_X11_154 dX11_ship_213 (hO.1.ob 27 (by decide) rfl) rfl ?_
                      refine jg_iconst (v := nI 1) dX11_ship_216 (by decide) ?_
                      refine jg_isub (x := ((cp x253 (o + 37) 3 ((x253.1 (o + 37) 3) + (nI 1))).1 (o + 37) 3)) (y := (nI 1)) dX11_ship_217  ?_
                      obtain rfl := Sum.inl.inj (Option.some.inj h)
                      exact jg_ireturn dX11_ship_218 rfl ⟨rfl, rfl⟩
                    · replace h := se_r h
                      cases h
                  · replace h := se_r h
                    cases h
          · replace h := se_r h
            cases h
  · replace h := se_r h
    cases h
set_option maxHeartbeats 4000000 in
theorem x_X11_ship {Γ : jg_G} {g : Nat → jg_C} (F : Nat) (τ : cT) (n : Nat) (o : Nat) (s : cS) (a1 : Int32) (a2 : Int32) (a3 : Int32) (a4 : Int32) (a5 : Int32) (a6 : Int32) (a7 : Int32) (a8 : Int32) (hO : Sh τ n o) (hn : n < 1000000) (hT : τ n = .inr (8, 0)) {z : Nat × cS} (h : o_X11_ship F τ n o s a1 a2 a3 a4 a5 a6 a7 a8 = some (.inr z)) : jc Γ mX11_ship 7 1 6 [some (.ref o), some (.int a1), some (.int a2), some (.int a3), some (.int a4), some (.int a5), some (.int a6), some (.int a7), some (.int a8), none] (ct_h g τ s, n) (.inr (exn z.1)) (ct_h (gx g n) τ z.2, n + 1) := by
  refine jc_of ?_
  rw [o_X11_ship] at h
  refine jg_iload_n dX11_ship_0 rfl ?_
  refine jg_aload_n dX11_ship_1 rfl ?_
  refine cs_get (s := s) (w := .ref (o + 10)) fl_X11_27 dX11_ship_2 hO.ob0 rfl ?_
  refine cs_get (s := s) (w := .ref (o + 131)) fl_X11_141 dX11_ship_5 hO.1.ob0 rfl ?_
  refine cs_get (s := s) (w := .int (s.1 (o + 131) 6)) fl_X11_145 dX11_ship_8 (hO.1.ob 121 (by decide) rfl) rfl ?_
  obtain ⟨x1, e_x1, h⟩ := bd_some h
  rcases x1 with y2 | z3
  · replace h := se_l h
    refine cs_callS (As := [.int a1, .int (s.1 (o + 131) 6)]) ks_X11_90 dX11_ship_11 rfl (by decide) (Nat.le_of_ble_eq_true rfl) rfl (by decide) (Nat.le_of_ble_eq_true rfl) (t_X11_needIndex τ n s a1 (s.1 (o + 131) 6) e_x1) ?_
    refine jg_iload_n dX11_ship_14 rfl ?_
    refine jg_iconst (v := nI 0) dX11_ship_15 (by decide) ?_
    refine jg_iconst (v := nI 5) dX11_ship_16 (by decide) ?_
    obtain ⟨x4, e_x4, h⟩ := bd_some h
    refine cs_callS (As := [.int a2, .int (nI 0), .int (nI 5)]) ks_X11_41 dX11_ship_17 rfl (by decide) (Nat.le_of_ble_eq_true rfl) rfl (by decide) (Nat.le_of_ble_eq_true rfl) (t_X11_within τ n s a2 (nI 0) (nI 5) e_x4) ?_
    refine jg_if_eq (x := x4) (tgt := 50) dX11_ship_20 (by decide) (fun c5 => ?_) (fun c5 => ?_)
    · replace h := it_t c5 h
      refine jg_iconst (v := nI 0) dX11_ship_50 (by decide) ?_
      obtain ⟨x6, e_x6, h⟩ := bd_some h
      rcases x6 with y7 | z8
      · replace h := se_l h
        refine cs_callS (As := [.int (nI 0)]) ks_X11_45 dX11_ship_51 rfl (by decide) (Nat.le_of_ble_eq_true rfl) rfl (by decide) (Nat.le_of_ble_eq_true rfl) (t_X11_needArgument τ n s (nI 0) e_x6) ?_
        refine jg_iload dX11_ship_54 rfl ?_
        refine jg_iconst (v := nI 1) dX11_ship_56 (by decide) ?_
        refine jg_bipush (v := nI 80) dX11_ship_57 (by decide) ?_
        obtain ⟨x9, e_x9, h⟩ := bd_some h
        refine cs_callS (As := [.int a5, .int (nI 1), .int (nI 80)]) ks_X11_41 dX11_ship_59 rfl (by decide) (Nat.le_of_ble_eq_true rfl) rfl (by decide) (Nat.le_of_ble_eq_true rfl) (t_X11_within τ n s a5 (nI 1) (nI 80) e_x9) ?_
        refine jg_if_eq (x := x9) (tgt := 91) dX11_ship_62 (by decide) (fun c10 => ?_) (fun c10 => ?_)
        · replace h := it_t c10 h
          refine jg_iconst (v := nI 0) dX11_ship_91 (by decide) ?_
          obtain ⟨x11, e_x11, h⟩ := bd_some h
          rcases x11 with y12 | z13
          · replace h := se_l h
            refine cs_callS (As := [.int (nI 0)]) ks_X11_45 dX11_ship_92 rfl (by decide) (Nat.le_of_ble_eq_true rfl) rfl (by decide) (Nat.le_of_ble_eq_true rfl) (t_X11_needArgument τ n s (nI 0) e_x11) ?_
            refine jg_aload_n dX11_ship_95 rfl ?_
            refine cs_get (s := s) (w := .ref (o + 10)) fl_X11_27 dX11_ship_96 hO.ob0 rfl ?_
            refine cs_get (s := s) (w := .ref (o + 37)) fl_X11_123 dX11_ship_99 hO.1.ob0 rfl ?_
            refine cs_get (s := s) (w := .int (s.1 (o + 37) 3)) fl_X11_154 dX11_ship_102 (hO.1.ob 27 (by decide) rfl) rfl ?_
            refine jg_bipush (v := nI 80) dX11_ship_105 (by decide) ?_
            obtain ⟨x14, e_x14, h⟩ := bd_some h
            rcases x14 with y15 | z16
            · replace h := se_l h
              refine cs_callS (As := [.int (s.1 (o + 37) 3), .int (nI 80)]) ks_X11_82 dX11_ship_107 rfl (by decide) (Nat.le_of_ble_eq_true rfl) rfl (by decide) (Nat.le_of_ble_eq_true rfl) (t_X11_needRoom τ n s (s.1 (o + 37) 3) (nI 80) e_x14) ?_
              refine jg_aload_n dX11_ship_110 rfl ?_
              refine cs_get (s := s) (w := .ref (o + 10)) fl_X11_27 dX11_ship_111 hO.ob0 rfl ?_
              refine cs_get (s := s) (w := .ref (o + 37)) fl_X11_123 dX11_ship_114 hO.1.ob0 rfl ?_
              refine cs_get (s := s) (w := .ref (o + 49)) fl_X11_157 dX11_ship_117 (hO.1.ob 27 (by decide) rfl) rfl ?_
              refine jg_aload_n dX11_ship_120 rfl ?_
              refine cs_get (s := s) (w := .ref (o + 10)) fl_X11_27 dX11_ship_121 hO.ob0 rfl ?_
              refine cs_get (s := s) (w := .ref (o + 37)) fl_X11_123 dX11_ship_124 hO.1.ob0 rfl ?_
              refine cs_get (s := s) (w := .int (s.1 (o + 37) 3)) fl_X11_154 dX11_ship_127 (hO.1.ob 27 (by decide) rfl) rfl ?_
              obtain ⟨q17, h⟩ := gd_some h
              refine cs_ldr (s := s) (q := (o + 49)) (i := (s.1 (o + 37) 3)) (kd := 6) (by decide) dX11_ship_130 (hO.1.ar 39 (by decide) rfl) q17 ?_
              refine jg_astore (L' := [some (.ref o), some (.int a1), some (.int a2), some (.int a3), some (.int a4), some (.int a5), some (.int a6), some (.int a7), some (.int a8), some (.ref (o + 49 + 1 + (s.1 (o + 37) 3).toNatClampNeg))]) dX11_ship_131 (by decide) rfl ?_
              refine jg_aload dX11_ship_133 rfl ?_
              refine jg_iload_n dX11_ship_135 rfl ?_
              refine jg_iload_n dX11_ship_136 rfl ?_
              refine jg_iload dX11_ship_137 rfl ?_
              refine jg_iload dX11_ship_139 rfl ?_
              obtain ⟨x18, e_x18, h⟩ := bd_some h
              refine cs_call (q := (o + 49 + 1 + (s.1 (o + 37) 3).toNatClampNeg)) (As := [.int a2, .int a3, .int a4, .int a7]) kv_X11_161 dX11_ship_141 (hO.1.ship q17.2) rfl rfl (by decide) (Nat.le_of_ble_eq_true rfl) rfl (by decide) (Nat.le_of_ble_eq_true rfl) (t_X9_build τ n (o + 49 + 1 + (s.1 (o + 37) 3).toNatClampNeg) s a2 a3 a4 a7 (hO.1.ship q17.2) e_x18) ?_
              refine jg_aload dX11_ship_144 rfl ?_
              refine jg_iload dX11_ship_146 rfl ?_
              refine cs_put (s := x18) (k := 4) (x := a5) fl_X11_167 dX11_ship_148 (hO.1.ship q17.2) (ltb rfl) (rfl) rfl rfl ?_
              refine jg_aload dX11_ship_151 rfl ?_
              refine jg_iload dX11_ship_153 rfl ?_
              refine cs_put (s := (cp x18 (o + 49 + 1 + (s.1 (o + 37) 3).toNatClampNeg) 4 a5)) (k := 5) (x := a6) fl_X11_170 dX11_ship_155 (hO.1.ship q17.2) (ltb rfl) (rfl) rfl rfl ?_
              obtain ⟨x19, e_x19, h⟩ := bd_some h
              refine cs_sub (Option.some.inj e_x19) ?_
              refine jg_aload dX11_ship_158 rfl ?_
              refine jg_iload_n dX11_ship_160 rfl ?_
              refine cs_put (s := x19) (k := 6) (x := a1) fl_X11_173 dX11_ship_161 (hO.1.ship q17.2) (ltb rfl) (rfl) rfl rfl ?_
              refine jg_aload dX11_ship_164 rfl ?_
              refine jg_iload dX11_ship_166 rfl ?_
              refine cs_put (s := (cp x19 (o + 49 + 1 + (s.1 (o + 37) 3).toNatClampNeg) 6 a1)) (k := 7) (x := a8) fl_X11_176 dX11_ship_168 (hO.1.ship q17.2) (ltb rfl) (rfl) rfl rfl ?_
              obtain ⟨x20, e_x20, h⟩ := bd_some h
              refine cs_sub (Option.some.inj e_x20) ?_
              refine jg_aload dX11_ship_171 rfl ?_
              refine jg_aload_n dX11_ship_173 rfl ?_
              refine cs_get (s := x20) (w := .ref (o + 10)) fl_X11_27 dX11_ship_174 hO.ob0 rfl ?_
              refine cs_get (s := x20) (w := .int (x20.1 (o + 10) 0)) fl_X11_49 dX11_ship_177 hO.1.ob0 rfl ?_
              refine jg_aload_n dX11_ship_180 rfl ?_
              refine cs_get (s := x20) (w := .ref (o + 10)) fl_X11_27 dX11_ship_181 hO.ob0 rfl ?_
              obtain ⟨x21, e_x21, h⟩ := bd_some h
              refine cs_call (q := (o + 10)) (As := []) kv_X11_179 dX11_ship_184 hO.1.ob0 rfl rfl (by decide) (Nat.le_of_ble_eq_true rfl) rfl (by decide) (Nat.le_of_ble_eq_true rfl) (t_X2_actOfToday F τ n (o + 10) x20 hO.1 e_x21) ?_
              obtain ⟨q22, h⟩ := gd_some h
              obtain ⟨x23, e_x23, h⟩ := bd_some h
              refine cs_call (q := (o + 49 + 1 + (s.1 (o + 37) 3).toNatClampNeg)) (As := [.int (x20.1 (o + 10) 0), .ref x21]) kv_X11_183 dX11_ship_187 (hO.1.ship q17.2) rfl rfl (by decide) (Nat.le_of_ble_eq_true rfl) rfl (by decide) (Nat.le_of_ble_eq_true rfl) (t_X9_come τ n (o + 49 + 1 + (s.1 (o + 37) 3).toNatClampNeg) x21 x20 (x20.1 (o + 10) 0) (hO.1.ship q17.2) q22 e_x23) ?_
              refine jg_aload_n dX11_ship_190 rfl ?_
              refine cs_get (s := x23) (w := .ref (o + 10)) fl_X11_27 dX11_ship_191 hO.ob0 rfl ?_
              refine cs_get (s := x23) (w := .ref (o + 37)) fl_X11_123 dX11_ship_194 hO.1.ob0 rfl ?_
              refine jg_dup dX11_ship_197 rfl ?_
              refine cs_get (s := x23) (w := .int (x23.1 (o + 37) 3)) fl_X11_154 dX11_ship_198 (hO.1.ob 27 (by decide) rfl) rfl ?_
              refine jg_iconst (v := nI 1) dX11_ship_201 (by decide) ?_
              refine jg_iadd (x := (x23.1 (o + 37) 3)) (y := (nI 1)) dX11_ship_202  ?_
              refine cs_put (s := x23) (k := 3) (x := ((x23.1 (o + 37) 3) + (nI 1))) fl_X11_154 dX11_ship_203 (hO.1.ob 27 (by decide) rfl) (ltb rfl) (rfl) rfl rfl ?_
              refine jg_aload_n dX11_ship_206 rfl ?_
              refine cs_get (s := (cp x23 (o + 37) 3 ((x23.1 (o + 37) 3) + (nI 1)))) (w := .ref (o + 10)) fl_X11_27 dX11_ship_207 hO.ob0 rfl ?_
              refine cs_get (s := (cp x23 (o + 37) 3 ((x23.1 (o + 37) 3) + (nI 1)))) (w := .ref (o + 37)) fl_X11_123 dX11_ship_210 hO.1.ob0 rfl ?_
              refine cs_get (s := (cp x23 (o + 37) 3 ((x23.1 (o + 37) 3) + (nI 1)))) (w := .int ((cp x23 (o + 37) 3 ((x23.1 (o + 37) 3) + (nI 1))).1 (o + 37) 3)) fl_X11_154 dX11_ship_213 (hO.1.ob 27 (by decide) rfl) rfl ?_
              refine jg_iconst (v := nI 1) dX11_ship_216 (by decide) ?_
              refine jg_isub (x := ((cp x23 (o + 37) 3 ((x23.1 (o + 37) 3) + (nI 1))).1 (o + 37) 3)) (y := (nI 1)) dX11_ship_217  ?_
              cases h
            · replace h := se_r h
              obtain rfl := Sum.inr.inj (Option.some.inj h)
              exact jc_SX (As := [.int (s.1 (o + 37) 3), .int (nI 80)]) ks_X11_82 dX11_ship_107 rfl (by decide) (Nat.le_of_ble_eq_true rfl) rfl (by decide) (Nat.le_refl _) (Nat.le_refl _) (Nat.le_of_ble_eq_true rfl) (x_X11_needRoom τ n s (s.1 (o + 37) 3) (nI 80) hn hT e_x14) ⟨rfl, rfl⟩
          · replace h := se_r h
            obtain rfl := Sum.inr.inj (Option.some.inj h)
            exact jc_SX (As := [.int (nI 0)]) ks_X11_45 dX11_ship_92 rfl (by decide) (Nat.le_of_ble_eq_true rfl) rfl (by decide) (Nat.le_refl _) (Nat.le_refl _) (Nat.le_of_ble_eq_true rfl) (x_X11_needArgument τ n s (nI 0) hn hT e_x11) ⟨rfl, rfl⟩
        · replace h := it_f c10 h
          refine jg_iload dX11_ship_65 rfl ?_
          refine jg_iconst (v := nI 1) dX11_ship_67 (by decide) ?_
          refine jg_bipush (v := nI 80) dX11_ship_68 (by decide) ?_
          obtain ⟨x24, e_x24, h⟩ := bd_some h
          refine cs_callS (As := [.int a6, .int (nI 1), .int (nI 80)]) ks_X11_41 dX11_ship_70 rfl (by decide) (Nat.le_of_ble_eq_true rfl) rfl (by decide) (Nat.le_of_ble_eq_true rfl) (t_X11_within τ n s a6 (nI 1) (nI 80) e_x24) ?_
          refine jg_if_eq (x := x24) (tgt := 91) dX11_ship_73 (by decide) (fun c25 => ?_) (fun c25 => ?_)
          · replace h := it_t c25 h
            refine jg_iconst (v := nI 0) dX11_ship_91 (by decide) ?_
            obtain ⟨x26, e_x26, h⟩ := bd_some h
            rcases x26 with y27 | z28
            · replace h := se_l h
              refine cs_callS (As := [.int (nI 0)]) ks_X11_45 dX11_ship_92 rfl (by decide) (Nat.le_of_ble_eq_true rfl) rfl (by decide) (Nat.le_of_ble_eq_true rfl) (t_X11_needArgument τ n s (nI 0) e_x26) ?_
              refine jg_aload_n dX11_ship_95 rfl ?_
              refine cs_get (s := s) (w := .ref (o + 10)) fl_X11_27 dX11_ship_96 hO.ob0 rfl ?_
              refine cs_get (s := s) (w := .ref (o + 37)) fl_X11_123 dX11_ship_99 hO.1.ob0 rfl ?_
              refine cs_get (s := s) (w := .int (s.1 (o + 37) 3)) fl_X11_154 dX11_ship_102 (hO.1.ob 27 (by decide) rfl) rfl ?_
              refine jg_bipush (v := nI 80) dX11_ship_105 (by decide) ?_
              obtain ⟨x29, e_x29, h⟩ := bd_some h
              rcases x29 with y30 | z31
              · replace h := se_l h
                refine cs_callS (As := [.int (s.1 (o + 37) 3), .int (nI 80)]) ks_X11_82 dX11_ship_107 rfl (by decide) (Nat.le_of_ble_eq_true rfl) rfl (by decide) (Nat.le_of_ble_eq_true rfl) (t_X11_needRoom τ n s (s.1 (o + 37) 3) (nI 80) e_x29) ?_
                refine jg_aload_n dX11_ship_110 rfl ?_
                refine cs_get (s := s) (w := .ref (o + 10)) fl_X11_27 dX11_ship_111 hO.ob0 rfl ?_
                refine cs_get (s := s) (w := .ref (o + 37)) fl_X11_123 dX11_ship_114 hO.1.ob0 rfl ?_
                refine cs_get (s := s) (w := .ref (o + 49)) fl_X11_157 dX11_ship_117 (hO.1.ob 27 (by decide) rfl) rfl ?_
                refine jg_aload_n dX11_ship_120 rfl ?_
                refine cs_get (s := s) (w := .ref (o + 10)) fl_X11_27 dX11_ship_121 hO.ob0 rfl ?_
                refine cs_get (s := s) (w := .ref (o + 37)) fl_X11_123 dX11_ship_124 hO.1.ob0 rfl ?_
                refine cs_get (s := s) (w := .int (s.1 (o + 37) 3)) fl_X11_154 dX11_ship_127 (hO.1.ob 27 (by decide) rfl) rfl ?_
                obtain ⟨q32, h⟩ := gd_some h
                refine cs_ldr (s := s) (q := (o + 49)) (i := (s.1 (o + 37) 3)) (kd := 6) (by decide) dX11_ship_130 (hO.1.ar 39 (by decide) rfl) q32 ?_
                refine jg_astore (L' := [some (.ref o), some (.int a1), some (.int a2), some (.int a3), some (.int a4), some (.int a5), some (.int a6), some (.int a7), some (.int a8), some (.ref (o + 49 + 1 + (s.1 (o + 37) 3).toNatClampNeg))]) dX11_ship_131 (by decide) rfl ?_
                refine jg_aload dX11_ship_133 rfl ?_
                refine jg_iload_n dX11_ship_135 rfl ?_
                refine jg_iload_n dX11_ship_136 rfl ?_
                refine jg_iload dX11_ship_137 rfl ?_
                refine jg_iload dX11_ship_139 rfl ?_
                obtain ⟨x33, e_x33, h⟩ := bd_some h
                refine cs_call (q := (o + 49 + 1 + (s.1 (o + 37) 3).toNatClampNeg)) (As := [.int a2, .int a3, .int a4, .int a7]) kv_X11_161 dX11_ship_141 (hO.1.ship q32.2) rfl rfl (by decide) (Nat.le_of_ble_eq_true rfl) rfl (by decide) (Nat.le_of_ble_eq_true rfl) (t_X9_build τ n (o + 49 + 1 + (s.1 (o + 37) 3).toNatClampNeg) s a2 a3 a4 a7 (hO.1.ship q32.2) e_x33) ?_
                refine jg_aload dX11_ship_144 rfl ?_
                refine jg_iload dX11_ship_146 rfl ?_
                refine cs_put (s := x33) (k := 4) (x := a5) fl_X11_167 dX11_ship_148 (hO.1.ship q32.2) (ltb rfl) (rfl) rfl rfl ?_
                refine jg_aload dX11_ship_151 rfl ?_
                refine jg_iload dX11_ship_153 rfl ?_
                refine cs_put (s := (cp x33 (o + 49 + 1 + (s.1 (o + 37) 3).toNatClampNeg) 4 a5)) (k := 5) (x := a6) fl_X11_170 dX11_ship_155 (hO.1.ship q32.2) (ltb rfl) (rfl) rfl rfl ?_
                obtain ⟨x34, e_x34, h⟩ := bd_some h
                refine cs_sub (Option.some.inj e_x34) ?_
                refine jg_aload dX11_ship_158 rfl ?_
                refine jg_iload_n dX11_ship_160 rfl ?_
                refine cs_put (s := x34) (k := 6) (x := a1) fl_X11_173 dX11_ship_161 (hO.1.ship q32.2) (ltb rfl) (rfl) rfl rfl ?_
                refine jg_aload dX11_ship_164 rfl ?_
                refine jg_iload dX11_ship_166 rfl ?_
                refine cs_put (s := (cp x34 (o + 49 + 1 + (s.1 (o + 37) 3).toNatClampNeg) 6 a1)) (k := 7) (x := a8) fl_X11_176 dX11_ship_168 (hO.1.ship q32.2) (ltb rfl) (rfl) rfl rfl ?_
                obtain ⟨x35, e_x35, h⟩ := bd_some h
                refine cs_sub (Option.some.inj e_x35) ?_
                refine jg_aload dX11_ship_171 rfl ?_
                refine jg_aload_n dX11_ship_173 rfl ?_
                refine cs_get (s := x35) (w := .ref (o + 10)) fl_X11_27 dX11_ship_174 hO.ob0 rfl ?_
                refine cs_get (s := x35) (w := .int (x35.1 (o + 10) 0)) fl_X11_49 dX11_ship_177 hO.1.ob0 rfl ?_
                refine jg_aload_n dX11_ship_180 rfl ?_
                refine cs_get (s := x35) (w := .ref (o + 10)) fl_X11_27 dX11_ship_181 hO.ob0 rfl ?_
                obtain ⟨x36, e_x36, h⟩ := bd_some h
                refine cs_call (q := (o + 10)) (As := []) kv_X11_179 dX11_ship_184 hO.1.ob0 rfl rfl (by decide) (Nat.le_of_ble_eq_true rfl) rfl (by decide) (Nat.le_of_ble_eq_true rfl) (t_X2_actOfToday F τ n (o + 10) x35 hO.1 e_x36) ?_
                obtain ⟨q37, h⟩ := gd_some h
                obtain ⟨x38, e_x38, h⟩ := bd_some h
                refine cs_call (q := (o + 49 + 1 + (s.1 (o + 37) 3).toNatClampNeg)) (As := [.int (x35.1 (o + 10) 0), .ref x36]) kv_X11_183 dX11_ship_187 (hO.1.ship q32.2) rfl rfl (by decide) (Nat.le_of_ble_eq_true rfl) rfl (by decide) (Nat.le_of_ble_eq_true rfl) (t_X9_come τ n (o + 49 + 1 + (s.1 (o + 37) 3).toNatClampNeg) x36 x35 (x35.1 (o + 10) 0) (hO.1.ship q32.2) q37 e_x38) ?_
                refine jg_aload_n dX11_ship_190 rfl ?_
                refine cs_get (s := x38) (w := .ref (o + 10)) fl_X11_27 dX11_ship_191 hO.ob0 rfl ?_
                refine cs_get (s := x38) (w := .ref (o + 37)) fl_X11_123 dX11_ship_194 hO.1.ob0 rfl ?_
                refine jg_dup dX11_ship_197 rfl ?_
                refine cs_get (s := x38) (w := .int (x38.1 (o + 37) 3)) fl_X11_154 dX11_ship_198 (hO.1.ob 27 (by decide) rfl) rfl ?_
                refine jg_iconst (v := nI 1) dX11_ship_201 (by decide) ?_
                refine jg_iadd (x := (x38.1 (o + 37) 3)) (y := (nI 1)) dX11_ship_202  ?_
                refine cs_put (s := x38) (k := 3) (x := ((x38.1 (o + 37) 3) + (nI 1))) fl_X11_154 dX11_ship_203 (hO.1.ob 27 (by decide) rfl) (ltb rfl) (rfl) rfl rfl ?_
                refine jg_aload_n dX11_ship_206 rfl ?_
                refine cs_get (s := (cp x38 (o + 37) 3 ((x38.1 (o + 37) 3) + (nI 1)))) (w := .ref (o + 10)) fl_X11_27 dX11_ship_207 hO.ob0 rfl ?_
                refine cs_get (s := (cp x38 (o + 37) 3 ((x38.1 (o + 37) 3) + (nI 1)))) (w := .ref (o + 37)) fl_X11_123 dX11_ship_210 hO.1.ob0 rfl ?_
                refine cs_get (s := (cp x38 (o + 37) 3 ((x38.1 (o + 37) 3) + (nI 1)))) (w := .int ((cp x38 (o + 37) 3 ((x38.1 (o + 37) 3) + (nI 1))).1 (o + 37) 3)) fl_X11_154 dX11_ship_213 (hO.1.ob 27 (by decide) rfl) rfl ?_
                refine jg_iconst (v := nI 1) dX11_ship_216 (by decide) ?_
                refine jg_isub (x := ((cp x38 (o + 37) 3 ((x38.1 (o + 37) 3) + (nI 1))).1 (o + 37) 3)) (y := (nI 1)) dX11_ship_217  ?_
                cases h
              · replace h := se_r h
                obtain rfl := Sum.inr.inj (Option.some.inj h)
                exact jc_SX (As := [.int (s.1 (o + 37) 3), .int (nI 80)]) ks_X11_82 dX11_ship_107 rfl (by decide) (Nat.le_of_ble_eq_true rfl) rfl (by decide) (Nat.le_refl _) (Nat.le_refl _) (Nat.le_of_ble_eq_true rfl) (x_X11_needRoom τ n s (s.1 (o + 37) 3) (nI 80) hn hT e_x29) ⟨rfl, rfl⟩
            · replace h := se_r h
              obtain rfl := Sum.inr.inj (Option.some.inj h)
              exact jc_SX (As := [.int (nI 0)]) ks_X11_45 dX11_ship_92 rfl (by decide) (Nat.le_of_ble_eq_true rfl) rfl (by decide) (Nat.le_refl _) (Nat.le_refl _) (Nat.le_of_ble_eq_true rfl) (x_X11_needArgument τ n s (nI 0) hn hT e_x26) ⟨rfl, rfl⟩
          · replace h := it_f c25 h
            refine jg_iload dX11_ship_76 rfl ?_
            refine jg_iconst (v := nI 0) dX11_ship_78 (by decide) ?_
            refine jg_ldc kk_X11_153 dX11_ship_79 ?_
            rw [show (1000000 : Int32) = nI 1000000 from rfl]
            obtain ⟨x39, e_x39, h⟩ := bd_some h
            refine cs_callS (As := [.int a8, .int (nI 0), .int (nI 1000000)]) ks_X11_41 dX11_ship_81 rfl (by decide) (Nat.le_of_ble_eq_true rfl) rfl (by decide) (Nat.le_of_ble_eq_true rfl) (t_X11_within τ n s a8 (nI 0) (nI 1000000) e_x39) ?_
            refine jg_if_eq (x := x39) (tgt := 91) dX11_ship_84 (by decide) (fun c40 => ?_) (fun c40 => ?_)
            · replace h := it_t c40 h
              refine jg_iconst (v := nI 0) dX11_ship_91 (by decide) ?_
              obtain ⟨x41, e_x41, h⟩ := bd_some h
              rcases x41 with y42 | z43
              · replace h := se_l h
                refine cs_callS (As := [.int (nI 0)]) ks_X11_45 dX11_ship_92 rfl (by decide) (Nat.le_of_ble_eq_true rfl) rfl (by decide) (Nat.le_of_ble_eq_true rfl) (t_X11_needArgument τ n s (nI 0) e_x41) ?_
                refine jg_aload_n dX11_ship_95 rfl ?_
                refine cs_get (s := s) (w := .ref (o + 10)) fl_X11_27 dX11_ship_96 hO.ob0 rfl ?_
                refine cs_get (s := s) (w := .ref (o + 37)) fl_X11_123 dX11_ship_99 hO.1.ob0 rfl ?_
                refine cs_get (s := s) (w := .int (s.1 (o + 37) 3)) fl_X11_154 dX11_ship_102 (hO.1.ob 27 (by decide) rfl) rfl ?_
                refine jg_bipush (v := nI 80) dX11_ship_105 (by decide) ?_
                obtain ⟨x44, e_x44, h⟩ := bd_some h
                rcases x44 with y45 | z46
                · replace h := se_l h
                  refine cs_callS (As := [.int (s.1 (o + 37) 3), .int (nI 80)]) ks_X11_82 dX11_ship_107 rfl (by decide) (Nat.le_of_ble_eq_true rfl) rfl (by decide) (Nat.le_of_ble_eq_true rfl) (t_X11_needRoom τ n s (s.1 (o + 37) 3) (nI 80) e_x44) ?_
                  refine jg_aload_n dX11_ship_110 rfl ?_
                  refine cs_get (s := s) (w := .ref (o + 10)) fl_X11_27 dX11_ship_111 hO.ob0 rfl ?_
                  refine cs_get (s := s) (w := .ref (o + 37)) fl_X11_123 dX11_ship_114 hO.1.ob0 rfl ?_
                  refine cs_get (s := s) (w := .ref (o + 49)) fl_X11_157 dX11_ship_117 (hO.1.ob 27 (by decide) rfl) rfl ?_
                  refine jg_aload_n dX11_ship_120 rfl ?_
                  refine cs_get (s := s) (w := .ref (o + 10)) fl_X11_27 dX11_ship_121 hO.ob0 rfl ?_
                  refine cs_get (s := s) (w := .ref (o + 37)) fl_X11_123 dX11_ship_124 hO.1.ob0 rfl ?_
                  refine cs_get (s := s) (w := .int (s.1 (o + 37) 3)) fl_X11_154 dX11_ship_127 (hO.1.ob 27 (by decide) rfl) rfl ?_
                  obtain ⟨q47, h⟩ := gd_some h
                  refine cs_ldr (s := s) (q := (o + 49)) (i := (s.1 (o + 37) 3)) (kd := 6) (by decide) dX11_ship_130 (hO.1.ar 39 (by decide) rfl) q47 ?_
                  refine jg_astore (L' := [some (.ref o), some (.int a1), some (.int a2), some (.int a3), some (.int a4), some (.int a5), some (.int a6), some (.int a7), some (.int a8), some (.ref (o + 49 + 1 + (s.1 (o + 37) 3).toNatClampNeg))]) dX11_ship_131 (by decide) rfl ?_
                  refine jg_aload dX11_ship_133 rfl ?_
                  refine jg_iload_n dX11_ship_135 rfl ?_
                  refine jg_iload_n dX11_ship_136 rfl ?_
                  refine jg_iload dX11_ship_137 rfl ?_
                  refine jg_iload dX11_ship_139 rfl ?_
                  obtain ⟨x48, e_x48, h⟩ := bd_some h
                  refine cs_call (q := (o + 49 + 1 + (s.1 (o + 37) 3).toNatClampNeg)) (As := [.int a2, .int a3, .int a4, .int a7]) kv_X11_161 dX11_ship_141 (hO.1.ship q47.2) rfl rfl (by decide) (Nat.le_of_ble_eq_true rfl) rfl (by decide) (Nat.le_of_ble_eq_true rfl) (t_X9_build τ n (o + 49 + 1 + (s.1 (o + 37) 3).toNatClampNeg) s a2 a3 a4 a7 (hO.1.ship q47.2) e_x48) ?_
                  refine jg_aload dX11_ship_144 rfl ?_
                  refine jg_iload dX11_ship_146 rfl ?_
                  refine cs_put (s := x48) (k := 4) (x := a5) fl_X11_167 dX11_ship_148 (hO.1.ship q47.2) (ltb rfl) (rfl) rfl rfl ?_
                  refine jg_aload dX11_ship_151 rfl ?_
                  refine jg_iload dX11_ship_153 rfl ?_
                  refine cs_put (s := (cp x48 (o + 49 + 1 + (s.1 (o + 37) 3).toNatClampNeg) 4 a5)) (k := 5) (x := a6) fl_X11_170 dX11_ship_155 (hO.1.ship q47.2) (ltb rfl) (rfl) rfl rfl ?_
                  obtain ⟨x49, e_x49, h⟩ := bd_some h
                  refine cs_sub (Option.some.inj e_x49) ?_
                  refine jg_aload dX11_ship_158 rfl ?_
                  refine jg_iload_n dX11_ship_160 rfl ?_
                  refine cs_put (s := x49) (k := 6) (x := a1) fl_X11_173 dX11_ship_161 (hO.1.ship q47.2) (ltb rfl) (rfl) rfl rfl ?_
                  refine jg_aload dX11_ship_164 rfl ?_
                  refine jg_iload dX11_ship_166 rfl ?_
                  refine cs_put (s := (cp x49 (o + 49 + 1 + (s.1 (o + 37) 3).toNatClampNeg) 6 a1)) (k := 7) (x := a8) fl_X11_176 dX11_ship_168 (hO.1.ship q47.2) (ltb rfl) (rfl) rfl rfl ?_
                  obtain ⟨x50, e_x50, h⟩ := bd_some h
                  refine cs_sub (Option.some.inj e_x50) ?_
                  refine jg_aload dX11_ship_171 rfl ?_
                  refine jg_aload_n dX11_ship_173 rfl ?_
                  refine cs_get (s := x50) (w := .ref (o + 10)) fl_X11_27 dX11_ship_174 hO.ob0 rfl ?_
                  refine cs_get (s := x50) (w := .int (x50.1 (o + 10) 0)) fl_X11_49 dX11_ship_177 hO.1.ob0 rfl ?_
                  refine jg_aload_n dX11_ship_180 rfl ?_
                  refine cs_get (s := x50) (w := .ref (o + 10)) fl_X11_27 dX11_ship_181 hO.ob0 rfl ?_
                  obtain ⟨x51, e_x51, h⟩ := bd_some h
                  refine cs_call (q := (o + 10)) (As := []) kv_X11_179 dX11_ship_184 hO.1.ob0 rfl rfl (by decide) (Nat.le_of_ble_eq_true rfl) rfl (by decide) (Nat.le_of_ble_eq_true rfl) (t_X2_actOfToday F τ n (o + 10) x50 hO.1 e_x51) ?_
                  obtain ⟨q52, h⟩ := gd_some h
                  obtain ⟨x53, e_x53, h⟩ := bd_some h
                  refine cs_call (q := (o + 49 + 1 + (s.1 (o + 37) 3).toNatClampNeg)) (As := [.int (x50.1 (o + 10) 0), .ref x51]) kv_X11_183 dX11_ship_187 (hO.1.ship q47.2) rfl rfl (by decide) (Nat.le_of_ble_eq_true rfl) rfl (by decide) (Nat.le_of_ble_eq_true rfl) (t_X9_come τ n (o + 49 + 1 + (s.1 (o + 37) 3).toNatClampNeg) x51 x50 (x50.1 (o + 10) 0) (hO.1.ship q47.2) q52 e_x53) ?_
                  refine jg_aload_n dX11_ship_190 rfl ?_
                  refine cs_get (s := x53) (w := .ref (o + 10)) fl_X11_27 dX11_ship_191 hO.ob0 rfl ?_
                  refine cs_get (s := x53) (w := .ref (o + 37)) fl_X11_123 dX11_ship_194 hO.1.ob0 rfl ?_
                  refine jg_dup dX11_ship_197 rfl ?_
                  refine cs_get (s := x53) (w := .int (x53.1 (o + 37) 3)) fl_X11_154 dX11_ship_198 (hO.1.ob 27 (by decide) rfl) rfl ?_
                  refine jg_iconst (v := nI 1) dX11_ship_201 (by decide) ?_
                  refine jg_iadd (x := (x53.1 (o + 37) 3)) (y := (nI 1)) dX11_ship_202  ?_
                  refine cs_put (s := x53) (k := 3) (x := ((x53.1 (o + 37) 3) + (nI 1))) fl_X11_154 dX11_ship_203 (hO.1.ob 27 (by decide) rfl) (ltb rfl) (rfl) rfl rfl ?_
                  refine jg_aload_n dX11_ship_206 rfl ?_
                  refine cs_get (s := (cp x53 (o + 37) 3 ((x53.1 (o + 37) 3) + (nI 1)))) (w := .ref (o + 10)) fl_X11_27 dX11_ship_207 hO.ob0 rfl ?_
                  refine cs_get (s := (cp x53 (o + 37) 3 ((x53.1 (o + 37) 3) + (nI 1)))) (w := .ref (o + 37)) fl_X11_123 dX11_ship_210 hO.1.ob0 rfl ?_
                  refine cs_get (s := (cp x53 (o + 37) 3 ((x53.1 (o + 37) 3) + (nI 1)))) (w := .int ((cp x53 (o + 37) 3 ((x53.1 (o + 37) 3) + (nI 1))).1 (o + 37) 3)) fl_X11_154 dX11_ship_213 (hO.1.ob 27 (by decide) rfl) rfl ?_
                  refine jg_iconst (v := nI 1) dX11_ship_216 (by decide) ?_
                  refine jg_isub (x := ((cp x53 (o + 37) 3 ((x53.1 (o + 37) 3) + (nI 1))).1 (o + 37) 3)) (y := (nI 1)) dX11_ship_217  ?_
                  cases h
                · replace h := se_r h
                  obtain rfl := Sum.inr.inj (Option.some.inj h)
                  exact jc_SX (As := [.int (s.1 (o + 37) 3), .int (nI 80)]) ks_X11_82 dX11_ship_107 rfl (by decide) (Nat.le_of_ble_eq_true rfl) rfl (by decide) (Nat.le_refl _) (Nat.le_refl _) (Nat.le_of_ble_eq_true rfl) (x_X11_needRoom τ n s (s.1 (o + 37) 3) (nI 80) hn hT e_x44) ⟨rfl, rfl⟩
              · replace h := se_r h
                obtain rfl := Sum.inr.inj (Option.some.inj h)
                exact jc_SX (As := [.int (nI 0)]) ks_X11_45 dX11_ship_92 rfl (by decide) (Nat.le_of_ble_eq_true rfl) rfl (by decide) (Nat.le_refl _) (Nat.le_refl _) (Nat.le_of_ble_eq_true rfl) (x_X11_needArgument τ n s (nI 0) hn hT e_x41) ⟨rfl, rfl⟩
            · replace h := it_f c40 h
              refine jg_iconst (v := nI 1) dX11_ship_87 (by decide) ?_
              refine jg_goto (tgt := 92) dX11_ship_88 (by decide) ?_
              obtain ⟨x54, e_x54, h⟩ := bd_some h
              rcases x54 with y55 | z56
              · replace h := se_l h
                refine cs_callS (As := [.int (nI 1)]) ks_X11_45 dX11_ship_92 rfl (by decide) (Nat.le_of_ble_eq_true rfl) rfl (by decide) (Nat.le_of_ble_eq_true rfl) (t_X11_needArgument τ n s (nI 1) e_x54) ?_
                refine jg_aload_n dX11_ship_95 rfl ?_
                refine cs_get (s := s) (w := .ref (o + 10)) fl_X11_27 dX11_ship_96 hO.ob0 rfl ?_
                refine cs_get (s := s) (w := .ref (o + 37)) fl_X11_123 dX11_ship_99 hO.1.ob0 rfl ?_
                refine cs_get (s := s) (w := .int (s.1 (o + 37) 3)) fl_X11_154 dX11_ship_102 (hO.1.ob 27 (by decide) rfl) rfl ?_
                refine jg_bipush (v := nI 80) dX11_ship_105 (by decide) ?_
                obtain ⟨x57, e_x57, h⟩ := bd_some h
                rcases x57 with y58 | z59
                · replace h := se_l h
                  refine cs_callS (As := [.int (s.1 (o + 37) 3), .int (nI 80)]) ks_X11_82 dX11_ship_107 rfl (by decide) (Nat.le_of_ble_eq_true rfl) rfl (by decide) (Nat.le_of_ble_eq_true rfl) (t_X11_needRoom τ n s (s.1 (o + 37) 3) (nI 80) e_x57) ?_
                  refine jg_aload_n dX11_ship_110 rfl ?_
                  refine cs_get (s := s) (w := .ref (o + 10)) fl_X11_27 dX11_ship_111 hO.ob0 rfl ?_
                  refine cs_get (s := s) (w := .ref (o + 37)) fl_X11_123 dX11_ship_114 hO.1.ob0 rfl ?_
                  refine cs_get (s := s) (w := .ref (o + 49)) fl_X11_157 dX11_ship_117 (hO.1.ob 27 (by decide) rfl) rfl ?_
                  refine jg_aload_n dX11_ship_120 rfl ?_
                  refine cs_get (s := s) (w := .ref (o + 10)) fl_X11_27 dX11_ship_121 hO.ob0 rfl ?_
                  refine cs_get (s := s) (w := .ref (o + 37)) fl_X11_123 dX11_ship_124 hO.1.ob0 rfl ?_
                  refine cs_get (s := s) (w := .int (s.1 (o + 37) 3)) fl_X11_154 dX11_ship_127 (hO.1.ob 27 (by decide) rfl) rfl ?_
                  obtain ⟨q60, h⟩ := gd_some h
                  refine cs_ldr (s := s) (q := (o + 49)) (i := (s.1 (o + 37) 3)) (kd := 6) (by decide) dX11_ship_130 (hO.1.ar 39 (by decide) rfl) q60 ?_
                  refine jg_astore (L' := [some (.ref o), some (.int a1), some (.int a2), some (.int a3), some (.int a4), some (.int a5), some (.int a6), some (.int a7), some (.int a8), some (.ref (o + 49 + 1 + (s.1 (o + 37) 3).toNatClampNeg))]) dX11_ship_131 (by decide) rfl ?_
                  refine jg_aload dX11_ship_133 rfl ?_
                  refine jg_iload_n dX11_ship_135 rfl ?_
                  refine jg_iload_n dX11_ship_136 rfl ?_
                  refine jg_iload dX11_ship_137 rfl ?_
                  refine jg_iload dX11_ship_139 rfl ?_
                  obtain ⟨x61, e_x61, h⟩ := bd_some h
                  refine cs_call (q := (o + 49 + 1 + (s.1 (o + 37) 3).toNatClampNeg)) (As := [.int a2, .int a3, .int a4, .int a7]) kv_X11_161 dX11_ship_141 (hO.1.ship q60.2) rfl rfl (by decide) (Nat.le_of_ble_eq_true rfl) rfl (by decide) (Nat.le_of_ble_eq_true rfl) (t_X9_build τ n (o + 49 + 1 + (s.1 (o + 37) 3).toNatClampNeg) s a2 a3 a4 a7 (hO.1.ship q60.2) e_x61) ?_
                  refine jg_aload dX11_ship_144 rfl ?_
                  refine jg_iload dX11_ship_146 rfl ?_
                  refine cs_put (s := x61) (k := 4) (x := a5) fl_X11_167 dX11_ship_148 (hO.1.ship q60.2) (ltb rfl) (rfl) rfl rfl ?_
                  refine jg_aload dX11_ship_151 rfl ?_
                  refine jg_iload dX11_ship_153 rfl ?_
                  refine cs_put (s := (cp x61 (o + 49 + 1 + (s.1 (o + 37) 3).toNatClampNeg) 4 a5)) (k := 5) (x := a6) fl_X11_170 dX11_ship_155 (hO.1.ship q60.2) (ltb rfl) (rfl) rfl rfl ?_
                  obtain ⟨x62, e_x62, h⟩ := bd_some h
                  refine cs_sub (Option.some.inj e_x62) ?_
                  refine jg_aload dX11_ship_158 rfl ?_
                  refine jg_iload_n dX11_ship_160 rfl ?_
                  refine cs_put (s := x62) (k := 6) (x := a1) fl_X11_173 dX11_ship_161 (hO.1.ship q60.2) (ltb rfl) (rfl) rfl rfl ?_
                  refine jg_aload dX11_ship_164 rfl ?_
                  refine jg_iload dX11_ship_166 rfl ?_
                  refine cs_put (s := (cp x62 (o + 49 + 1 + (s.1 (o + 37) 3).toNatClampNeg) 6 a1)) (k := 7) (x := a8) fl_X11_176 dX11_ship_168 (hO.1.ship q60.2) (ltb rfl) (rfl) rfl rfl ?_
                  obtain ⟨x63, e_x63, h⟩ := bd_some h
                  refine cs_sub (Option.some.inj e_x63) ?_
                  refine jg_aload dX11_ship_171 rfl ?_
                  refine jg_aload_n dX11_ship_173 rfl ?_
                  refine cs_get (s := x63) (w := .ref (o + 10)) fl_X11_27 dX11_ship_174 hO.ob0 rfl ?_
                  refine cs_get (s := x63) (w := .int (x63.1 (o + 10) 0)) fl_X11_49 dX11_ship_177 hO.1.ob0 rfl ?_
                  refine jg_aload_n dX11_ship_180 rfl ?_
                  refine cs_get (s := x63) (w := .ref (o + 10)) fl_X11_27 dX11_ship_181 hO.ob0 rfl ?_
                  obtain ⟨x64, e_x64, h⟩ := bd_some h
                  refine cs_call (q := (o + 10)) (As := []) kv_X11_179 dX11_ship_184 hO.1.ob0 rfl rfl (by decide) (Nat.le_of_ble_eq_true rfl) rfl (by decide) (Nat.le_of_ble_eq_true rfl) (t_X2_actOfToday F τ n (o + 10) x63 hO.1 e_x64) ?_
                  obtain ⟨q65, h⟩ := gd_some h
                  obtain ⟨x66, e_x66, h⟩ := bd_some h
                  refine cs_call (q := (o + 49 + 1 + (s.1 (o + 37) 3).toNatClampNeg)) (As := [.int (x63.1 (o + 10) 0), .ref x64]) kv_X11_183 dX11_ship_187 (hO.1.ship q60.2) rfl rfl (by decide) (Nat.le_of_ble_eq_true rfl) rfl (by decide) (Nat.le_of_ble_eq_true rfl) (t_X9_come τ n (o + 49 + 1 + (s.1 (o + 37) 3).toNatClampNeg) x64 x63 (x63.1 (o + 10) 0) (hO.1.ship q60.2) q65 e_x66) ?_
                  refine jg_aload_n dX11_ship_190 rfl ?_
                  refine cs_get (s := x66) (w := .ref (o + 10)) fl_X11_27 dX11_ship_191 hO.ob0 rfl ?_
                  refine cs_get (s := x66) (w := .ref (o + 37)) fl_X11_123 dX11_ship_194 hO.1.ob0 rfl ?_
                  refine jg_dup dX11_ship_197 rfl ?_
                  refine cs_get (s := x66) (w := .int (x66.1 (o + 37) 3)) fl_X11_154 dX11_ship_198 (hO.1.ob 27 (by decide) rfl) rfl ?_
                  refine jg_iconst (v := nI 1) dX11_ship_201 (by decide) ?_
                  refine jg_iadd (x := (x66.1 (o + 37) 3)) (y := (nI 1)) dX11_ship_202  ?_
                  refine cs_put (s := x66) (k := 3) (x := ((x66.1 (o + 37) 3) + (nI 1))) fl_X11_154 dX11_ship_203 (hO.1.ob 27 (by decide) rfl) (ltb rfl) (rfl) rfl rfl ?_
                  refine jg_aload_n dX11_ship_206 rfl ?_
                  refine cs_get (s := (cp x66 (o + 37) 3 ((x66.1 (o + 37) 3) + (nI 1)))) (w := .ref (o + 10)) fl_X11_27 dX11_ship_207 hO.ob0 rfl ?_
                  refine cs_get (s := (cp x66 (o + 37) 3 ((x66.1 (o + 37) 3) + (nI 1)))) (w := .ref (o + 37)) fl_X11_123 dX11_ship_210 hO.1.ob0 rfl ?_
                  refine cs_get (s := (cp x66 (o + 37) 3 ((x66.1 (o + 37) 3) + (nI 1)))) (w := .int ((cp x66 (o + 37) 3 ((x66.1 (o + 37) 3) + (nI 1))).1 (o + 37) 3)) fl_X11_154 dX11_ship_213 (hO.1.ob 27 (by decide) rfl) rfl ?_
                  refine jg_iconst (v := nI 1) dX11_ship_216 (by decide) ?_
                  refine jg_isub (x := ((cp x66 (o + 37) 3 ((x66.1 (o + 37) 3) + (nI 1))).1 (o + 37) 3)) (y := (nI 1)) dX11_ship_217  ?_
                  cases h
                · replace h := se_r h
                  obtain rfl := Sum.inr.inj (Option.some.inj h)
                  exact jc_SX (As := [.int (s.1 (o + 37) 3), .int (nI 80)]) ks_X11_82 dX11_ship_107 rfl (by decide) (Nat.le_of_ble_eq_true rfl) rfl (by decide) (Nat.le_refl _) (Nat.le_refl _) (Nat.le_of_ble_eq_true rfl) (x_X11_needRoom τ n s (s.1 (o + 37) 3) (nI 80) hn hT e_x57) ⟨rfl, rfl⟩
              · replace h := se_r h
                obtain rfl := Sum.inr.inj (Option.some.inj h)
                exact jc_SX (As := [.int (nI 1)]) ks_X11_45 dX11_ship_92 rfl (by decide) (Nat.le_of_ble_eq_true rfl) rfl (by decide) (Nat.le_refl _) (Nat.le_refl _) (Nat.le_of_ble_eq_true rfl) (x_X11_needArgument τ n s (nI 1) hn hT e_x54) ⟨rfl, rfl⟩
      · replace h := se_r h
        obtain rfl := Sum.inr.inj (Option.some.inj h)
        exact jc_SX (As := [.int (nI 0)]) ks_X11_45 dX11_ship_51 rfl (by decide) (Nat.le_of_ble_eq_true rfl) rfl (by decide) (Nat.le_refl _) (Nat.le_refl _) (Nat.le_of_ble_eq_true rfl) (x_X11_needArgument τ n s (nI 0) hn hT e_x6) ⟨rfl, rfl⟩
    · replace h := it_f c5 h
      refine jg_iload_n dX11_ship_23 rfl ?_
      refine jg_iconst (v := nI 1) dX11_ship_24 (by decide) ?_
      refine jg_sipush (v := nI 20000) dX11_ship_25 (by decide) ?_
      obtain ⟨x67, e_x67, h⟩ := bd_some h
      refine cs_callS (As := [.int a3, .int (nI 1), .int (nI 20000)]) ks_X11_41 dX11_ship_28 rfl (by decide) (Nat.le_of_ble_eq_true rfl) rfl (by decide) (Nat.le_of_ble_eq_true rfl) (t_X11_within τ n s a3 (nI 1) (nI 20000) e_x67) ?_
      refine jg_if_eq (x := x67) (tgt := 50) dX11_ship_31 (by decide) (fun c68 => ?_) (fun c68 => ?_)
      · replace h := it_t c68 h
        refine jg_iconst (v := nI 0) dX11_ship_50 (by decide) ?_
        obtain ⟨x69, e_x69, h⟩ := bd_some h
        rcases x69 with y70 | z71
        · replace h := se_l h
          refine cs_callS (As := [.int (nI 0)]) ks_X11_45 dX11_ship_51 rfl (by decide) (Nat.le_of_ble_eq_true rfl) rfl (by decide) (Nat.le_of_ble_eq_true rfl) (t_X11_needArgument τ n s (nI 0) e_x69) ?_
          refine jg_iload dX11_ship_54 rfl ?_
          refine jg_iconst (v := nI 1) dX11_ship_56 (by decide) ?_
          refine jg_bipush (v := nI 80) dX11_ship_57 (by decide) ?_
          obtain ⟨x72, e_x72, h⟩ := bd_some h
          refine cs_callS (As := [.int a5, .int (nI 1), .int (nI 80)]) ks_X11_41 dX11_ship_59 rfl (by decide) (Nat.le_of_ble_eq_true rfl) rfl (by decide) (Nat.le_of_ble_eq_true rfl) (t_X11_within τ n s a5 (nI 1) (nI 80) e_x72) ?_
          refine jg_if_eq (x := x72) (tgt := 91) dX11_ship_62 (by decide) (fun c73 => ?_) (fun c73 => ?_)
          · replace h := it_t c73 h
            refine jg_iconst (v := nI 0) dX11_ship_91 (by decide) ?_
            obtain ⟨x74, e_x74, h⟩ := bd_some h
            rcases x74 with y75 | z76
            · replace h := se_l h
              refine cs_callS (As := [.int (nI 0)]) ks_X11_45 dX11_ship_92 rfl (by decide) (Nat.le_of_ble_eq_true rfl) rfl (by decide) (Nat.le_of_ble_eq_true rfl) (t_X11_needArgument τ n s (nI 0) e_x74) ?_
              refine jg_aload_n dX11_ship_95 rfl ?_
              refine cs_get (s := s) (w := .ref (o + 10)) fl_X11_27 dX11_ship_96 hO.ob0 rfl ?_
              refine cs_get (s := s) (w := .ref (o + 37)) fl_X11_123 dX11_ship_99 hO.1.ob0 rfl ?_
              refine cs_get (s := s) (w := .int (s.1 (o + 37) 3)) fl_X11_154 dX11_ship_102 (hO.1.ob 27 (by decide) rfl) rfl ?_
              refine jg_bipush (v := nI 80) dX11_ship_105 (by decide) ?_
              obtain ⟨x77, e_x77, h⟩ := bd_some h
              rcases x77 with y78 | z79
              · replace h := se_l h
                refine cs_callS (As := [.int (s.1 (o + 37) 3), .int (nI 80)]) ks_X11_82 dX11_ship_107 rfl (by decide) (Nat.le_of_ble_eq_true rfl) rfl (by decide) (Nat.le_of_ble_eq_true rfl) (t_X11_needRoom τ n s (s.1 (o + 37) 3) (nI 80) e_x77) ?_
                refine jg_aload_n dX11_ship_110 rfl ?_
                refine cs_get (s := s) (w := .ref (o + 10)) fl_X11_27 dX11_ship_111 hO.ob0 rfl ?_
                refine cs_get (s := s) (w := .ref (o + 37)) fl_X11_123 dX11_ship_114 hO.1.ob0 rfl ?_
                refine cs_get (s := s) (w := .ref (o + 49)) fl_X11_157 dX11_ship_117 (hO.1.ob 27 (by decide) rfl) rfl ?_
                refine jg_aload_n dX11_ship_120 rfl ?_
                refine cs_get (s := s) (w := .ref (o + 10)) fl_X11_27 dX11_ship_121 hO.ob0 rfl ?_
                refine cs_get (s := s) (w := .ref (o + 37)) fl_X11_123 dX11_ship_124 hO.1.ob0 rfl ?_
                refine cs_get (s := s) (w := .int (s.1 (o + 37) 3)) fl_X11_154 dX11_ship_127 (hO.1.ob 27 (by decide) rfl) rfl ?_
                obtain ⟨q80, h⟩ := gd_some h
                refine cs_ldr (s := s) (q := (o + 49)) (i := (s.1 (o + 37) 3)) (kd := 6) (by decide) dX11_ship_130 (hO.1.ar 39 (by decide) rfl) q80 ?_
                refine jg_astore (L' := [some (.ref o), some (.int a1), some (.int a2), some (.int a3), some (.int a4), some (.int a5), some (.int a6), some (.int a7), some (.int a8), some (.ref (o + 49 + 1 + (s.1 (o + 37) 3).toNatClampNeg))]) dX11_ship_131 (by decide) rfl ?_
                refine jg_aload dX11_ship_133 rfl ?_
                refine jg_iload_n dX11_ship_135 rfl ?_
                refine jg_iload_n dX11_ship_136 rfl ?_
                refine jg_iload dX11_ship_137 rfl ?_
                refine jg_iload dX11_ship_139 rfl ?_
                obtain ⟨x81, e_x81, h⟩ := bd_some h
                refine cs_call (q := (o + 49 + 1 + (s.1 (o + 37) 3).toNatClampNeg)) (As := [.int a2, .int a3, .int a4, .int a7]) kv_X11_161 dX11_ship_141 (hO.1.ship q80.2) rfl rfl (by decide) (Nat.le_of_ble_eq_true rfl) rfl (by decide) (Nat.le_of_ble_eq_true rfl) (t_X9_build τ n (o + 49 + 1 + (s.1 (o + 37) 3).toNatClampNeg) s a2 a3 a4 a7 (hO.1.ship q80.2) e_x81) ?_
                refine jg_aload dX11_ship_144 rfl ?_
                refine jg_iload dX11_ship_146 rfl ?_
                refine cs_put (s := x81) (k := 4) (x := a5) fl_X11_167 dX11_ship_148 (hO.1.ship q80.2) (ltb rfl) (rfl) rfl rfl ?_
                refine jg_aload dX11_ship_151 rfl ?_
                refine jg_iload dX11_ship_153 rfl ?_
                refine cs_put (s := (cp x81 (o + 49 + 1 + (s.1 (o + 37) 3).toNatClampNeg) 4 a5)) (k := 5) (x := a6) fl_X11_170 dX11_ship_155 (hO.1.ship q80.2) (ltb rfl) (rfl) rfl rfl ?_
                obtain ⟨x82, e_x82, h⟩ := bd_some h
                refine cs_sub (Option.some.inj e_x82) ?_
                refine jg_aload dX11_ship_158 rfl ?_
                refine jg_iload_n dX11_ship_160 rfl ?_
                refine cs_put (s := x82) (k := 6) (x := a1) fl_X11_173 dX11_ship_161 (hO.1.ship q80.2) (ltb rfl) (rfl) rfl rfl ?_
                refine jg_aload dX11_ship_164 rfl ?_
                refine jg_iload dX11_ship_166 rfl ?_
                refine cs_put (s := (cp x82 (o + 49 + 1 + (s.1 (o + 37) 3).toNatClampNeg) 6 a1)) (k := 7) (x := a8) fl_X11_176 dX11_ship_168 (hO.1.ship q80.2) (ltb rfl) (rfl) rfl rfl ?_
                obtain ⟨x83, e_x83, h⟩ := bd_some h
                refine cs_sub (Option.some.inj e_x83) ?_
                refine jg_aload dX11_ship_171 rfl ?_
                refine jg_aload_n dX11_ship_173 rfl ?_
                refine cs_get (s := x83) (w := .ref (o + 10)) fl_X11_27 dX11_ship_174 hO.ob0 rfl ?_
                refine cs_get (s := x83) (w := .int (x83.1 (o + 10) 0)) fl_X11_49 dX11_ship_177 hO.1.ob0 rfl ?_
                refine jg_aload_n dX11_ship_180 rfl ?_
                refine cs_get (s := x83) (w := .ref (o + 10)) fl_X11_27 dX11_ship_181 hO.ob0 rfl ?_
                obtain ⟨x84, e_x84, h⟩ := bd_some h
                refine cs_call (q := (o + 10)) (As := []) kv_X11_179 dX11_ship_184 hO.1.ob0 rfl rfl (by decide) (Nat.le_of_ble_eq_true rfl) rfl (by decide) (Nat.le_of_ble_eq_true rfl) (t_X2_actOfToday F τ n (o + 10) x83 hO.1 e_x84) ?_
                obtain ⟨q85, h⟩ := gd_some h
                obtain ⟨x86, e_x86, h⟩ := bd_some h
                refine cs_call (q := (o + 49 + 1 + (s.1 (o + 37) 3).toNatClampNeg)) (As := [.int (x83.1 (o + 10) 0), .ref x84]) kv_X11_183 dX11_ship_187 (hO.1.ship q80.2) rfl rfl (by decide) (Nat.le_of_ble_eq_true rfl) rfl (by decide) (Nat.le_of_ble_eq_true rfl) (t_X9_come τ n (o + 49 + 1 + (s.1 (o + 37) 3).toNatClampNeg) x84 x83 (x83.1 (o + 10) 0) (hO.1.ship q80.2) q85 e_x86) ?_
                refine jg_aload_n dX11_ship_190 rfl ?_
                refine cs_get (s := x86) (w := .ref (o + 10)) fl_X11_27 dX11_ship_191 hO.ob0 rfl ?_
                refine cs_get (s := x86) (w := .ref (o + 37)) fl_X11_123 dX11_ship_194 hO.1.ob0 rfl ?_
                refine jg_dup dX11_ship_197 rfl ?_
                refine cs_get (s := x86) (w := .int (x86.1 (o + 37) 3)) fl_X11_154 dX11_ship_198 (hO.1.ob 27 (by decide) rfl) rfl ?_
                refine jg_iconst (v := nI 1) dX11_ship_201 (by decide) ?_
                refine jg_iadd (x := (x86.1 (o + 37) 3)) (y := (nI 1)) dX11_ship_202  ?_
                refine cs_put (s := x86) (k := 3) (x := ((x86.1 (o + 37) 3) + (nI 1))) fl_X11_154 dX11_ship_203 (hO.1.ob 27 (by decide) rfl) (ltb rfl) (rfl) rfl rfl ?_
                refine jg_aload_n dX11_ship_206 rfl ?_
                refine cs_get (s := (cp x86 (o + 37) 3 ((x86.1 (o + 37) 3) + (nI 1)))) (w := .ref (o + 10)) fl_X11_27 dX11_ship_207 hO.ob0 rfl ?_
                refine cs_get (s := (cp x86 (o + 37) 3 ((x86.1 (o + 37) 3) + (nI 1)))) (w := .ref (o + 37)) fl_X11_123 dX11_ship_210 hO.1.ob0 rfl ?_
                refine cs_get (s := (cp x86 (o + 37) 3 ((x86.1 (o + 37) 3) + (nI 1)))) (w := .int ((cp x86 (o + 37) 3 ((x86.1 (o + 37) 3) + (nI 1))).1 (o + 37) 3)) fl_X11_154 dX11_ship_213 (hO.1.ob 27 (by decide) rfl) rfl ?_
                refine jg_iconst (v := nI 1) dX11_ship_216 (by decide) ?_
                refine jg_isub (x := ((cp x86 (o + 37) 3 ((x86.1 (o + 37) 3) + (nI 1))).1 (o + 37) 3)) (y := (nI 1)) dX11_ship_217  ?_
                cases h
              · replace h := se_r h
                obtain rfl := Sum.inr.inj (Option.some.inj h)
                exact jc_SX (As := [.int (s.1 (o + 37) 3), .int (nI 80)]) ks_X11_82 dX11_ship_107 rfl (by decide) (Nat.le_of_ble_eq_true rfl) rfl (by decide) (Nat.le_refl _) (Nat.le_refl _) (Nat.le_of_ble_eq_true rfl) (x_X11_needRoom τ n s (s.1 (o + 37) 3) (nI 80) hn hT e_x77) ⟨rfl, rfl⟩
            · replace h := se_r h
              obtain rfl := Sum.inr.inj (Option.some.inj h)
              exact jc_SX (As := [.int (nI 0)]) ks_X11_45 dX11_ship_92 rfl (by decide) (Nat.le_of_ble_eq_true rfl) rfl (by decide) (Nat.le_refl _) (Nat.le_refl _) (Nat.le_of_ble_eq_true rfl) (x_X11_needArgument τ n s (nI 0) hn hT e_x74) ⟨rfl, rfl⟩
          · replace h := it_f c73 h
            refine jg_iload dX11_ship_65 rfl ?_
            refine jg_iconst (v := nI 1) dX11_ship_67 (by decide) ?_
            refine jg_bipush (v := nI 80) dX11_ship_68 (by decide) ?_
            obtain ⟨x87, e_x87, h⟩ := bd_some h
            refine cs_callS (As := [.int a6, .int (nI 1), .int (nI 80)]) ks_X11_41 dX11_ship_70 rfl (by decide) (Nat.le_of_ble_eq_true rfl) rfl (by decide) (Nat.le_of_ble_eq_true rfl) (t_X11_within τ n s a6 (nI 1) (nI 80) e_x87) ?_
            refine jg_if_eq (x := x87) (tgt := 91) dX11_ship_73 (by decide) (fun c88 => ?_) (fun c88 => ?_)
            · replace h := it_t c88 h
              refine jg_iconst (v := nI 0) dX11_ship_91 (by decide) ?_
              obtain ⟨x89, e_x89, h⟩ := bd_some h
              rcases x89 with y90 | z91
              · replace h := se_l h
                refine cs_callS (As := [.int (nI 0)]) ks_X11_45 dX11_ship_92 rfl (by decide) (Nat.le_of_ble_eq_true rfl) rfl (by decide) (Nat.le_of_ble_eq_true rfl) (t_X11_needArgument τ n s (nI 0) e_x89) ?_
                refine jg_aload_n dX11_ship_95 rfl ?_
                refine cs_get (s := s) (w := .ref (o + 10)) fl_X11_27 dX11_ship_96 hO.ob0 rfl ?_
                refine cs_get (s := s) (w := .ref (o + 37)) fl_X11_123 dX11_ship_99 hO.1.ob0 rfl ?_
                refine cs_get (s := s) (w := .int (s.1 (o + 37) 3)) fl_X11_154 dX11_ship_102 (hO.1.ob 27 (by decide) rfl) rfl ?_
                refine jg_bipush (v := nI 80) dX11_ship_105 (by decide) ?_
                obtain ⟨x92, e_x92, h⟩ := bd_some h
                rcases x92 with y93 | z94
                · replace h := se_l h
                  refine cs_callS (As := [.int (s.1 (o + 37) 3), .int (nI 80)]) ks_X11_82 dX11_ship_107 rfl (by decide) (Nat.le_of_ble_eq_true rfl) rfl (by decide) (Nat.le_of_ble_eq_true rfl) (t_X11_needRoom τ n s (s.1 (o + 37) 3) (nI 80) e_x92) ?_
                  refine jg_aload_n dX11_ship_110 rfl ?_
                  refine cs_get (s := s) (w := .ref (o + 10)) fl_X11_27 dX11_ship_111 hO.ob0 rfl ?_
                  refine cs_get (s := s) (w := .ref (o + 37)) fl_X11_123 dX11_ship_114 hO.1.ob0 rfl ?_
                  refine cs_get (s := s) (w := .ref (o + 49)) fl_X11_157 dX11_ship_117 (hO.1.ob 27 (by decide) rfl) rfl ?_
                  refine jg_aload_n dX11_ship_120 rfl ?_
                  refine cs_get (s := s) (w := .ref (o + 10)) fl_X11_27 dX11_ship_121 hO.ob0 rfl ?_
                  refine cs_get (s := s) (w := .ref (o + 37)) fl_X11_123 dX11_ship_124 hO.1.ob0 rfl ?_
                  refine cs_get (s := s) (w := .int (s.1 (o + 37) 3)) fl_X11_154 dX11_ship_127 (hO.1.ob 27 (by decide) rfl) rfl ?_
                  obtain ⟨q95, h⟩ := gd_some h
                  refine cs_ldr (s := s) (q := (o + 49)) (i := (s.1 (o + 37) 3)) (kd := 6) (by decide) dX11_ship_130 (hO.1.ar 39 (by decide) rfl) q95 ?_
                  refine jg_astore (L' := [some (.ref o), some (.int a1), some (.int a2), some (.int a3), some (.int a4), some (.int a5), some (.int a6), some (.int a7), some (.int a8), some (.ref (o + 49 + 1 + (s.1 (o + 37) 3).toNatClampNeg))]) dX11_ship_131 (by decide) rfl ?_
                  refine jg_aload dX11_ship_133 rfl ?_
                  refine jg_iload_n dX11_ship_135 rfl ?_
                  refine jg_iload_n dX11_ship_136 rfl ?_
                  refine jg_iload dX11_ship_137 rfl ?_
                  refine jg_iload dX11_ship_139 rfl ?_
                  obtain ⟨x96, e_x96, h⟩ := bd_some h
                  refine cs_call (q := (o + 49 + 1 + (s.1 (o + 37) 3).toNatClampNeg)) (As := [.int a2, .int a3, .int a4, .int a7]) kv_X11_161 dX11_ship_141 (hO.1.ship q95.2) rfl rfl (by decide) (Nat.le_of_ble_eq_true rfl) rfl (by decide) (Nat.le_of_ble_eq_true rfl) (t_X9_build τ n (o + 49 + 1 + (s.1 (o + 37) 3).toNatClampNeg) s a2 a3 a4 a7 (hO.1.ship q95.2) e_x96) ?_
                  refine jg_aload dX11_ship_144 rfl ?_
                  refine jg_iload dX11_ship_146 rfl ?_
                  refine cs_put (s := x96) (k := 4) (x := a5) fl_X11_167 dX11_ship_148 (hO.1.ship q95.2) (ltb rfl) (rfl) rfl rfl ?_
                  refine jg_aload dX11_ship_151 rfl ?_
                  refine jg_iload dX11_ship_153 rfl ?_
                  refine cs_put (s := (cp x96 (o + 49 + 1 + (s.1 (o + 37) 3).toNatClampNeg) 4 a5)) (k := 5) (x := a6) fl_X11_170 dX11_ship_155 (hO.1.ship q95.2) (ltb rfl) (rfl) rfl rfl ?_
                  obtain ⟨x97, e_x97, h⟩ := bd_some h
                  refine cs_sub (Option.some.inj e_x97) ?_
                  refine jg_aload dX11_ship_158 rfl ?_
                  refine jg_iload_n dX11_ship_160 rfl ?_
                  refine cs_put (s := x97) (k := 6) (x := a1) fl_X11_173 dX11_ship_161 (hO.1.ship q95.2) (ltb rfl) (rfl) rfl rfl ?_
                  refine jg_aload dX11_ship_164 rfl ?_
                  refine jg_iload dX11_ship_166 rfl ?_
                  refine cs_put (s := (cp x97 (o + 49 + 1 + (s.1 (o + 37) 3).toNatClampNeg) 6 a1)) (k := 7) (x := a8) fl_X11_176 dX11_ship_168 (hO.1.ship q95.2) (ltb rfl) (rfl) rfl rfl ?_
                  obtain ⟨x98, e_x98, h⟩ := bd_some h
                  refine cs_sub (Option.some.inj e_x98) ?_
                  refine jg_aload dX11_ship_171 rfl ?_
                  refine jg_aload_n dX11_ship_173 rfl ?_
                  refine cs_get (s := x98) (w := .ref (o + 10)) fl_X11_27 dX11_ship_174 hO.ob0 rfl ?_
                  refine cs_get (s := x98) (w := .int (x98.1 (o + 10) 0)) fl_X11_49 dX11_ship_177 hO.1.ob0 rfl ?_
                  refine jg_aload_n dX11_ship_180 rfl ?_
                  refine cs_get (s := x98) (w := .ref (o + 10)) fl_X11_27 dX11_ship_181 hO.ob0 rfl ?_
                  obtain ⟨x99, e_x99, h⟩ := bd_some h
                  refine cs_call (q := (o + 10)) (As := []) kv_X11_179 dX11_ship_184 hO.1.ob0 rfl rfl (by decide) (Nat.le_of_ble_eq_true rfl) rfl (by decide) (Nat.le_of_ble_eq_true rfl) (t_X2_actOfToday F τ n (o + 10) x98 hO.1 e_x99) ?_
                  obtain ⟨q100, h⟩ := gd_some h
                  obtain ⟨x101, e_x101, h⟩ := bd_some h
                  refine cs_call (q := (o + 49 + 1 + (s.1 (o + 37) 3).toNatClampNeg)) (As := [.int (x98.1 (o + 10) 0), .ref x99]) kv_X11_183 dX11_ship_187 (hO.1.ship q95.2) rfl rfl (by decide) (Nat.le_of_ble_eq_true rfl) rfl (by decide) (Nat.le_of_ble_eq_true rfl) (t_X9_come τ n (o + 49 + 1 + (s.1 (o + 37) 3).toNatClampNeg) x99 x98 (x98.1 (o + 10) 0) (hO.1.ship q95.2) q100 e_x101) ?_
                  refine jg_aload_n dX11_ship_190 rfl ?_
                  refine cs_get (s := x101) (w := .ref (o + 10)) fl_X11_27 dX11_ship_191 hO.ob0 rfl ?_
                  refine cs_get (s := x101) (w := .ref (o + 37)) fl_X11_123 dX11_ship_194 hO.1.ob0 rfl ?_
                  refine jg_dup dX11_ship_197 rfl ?_
                  refine cs_get (s := x101) (w := .int (x101.1 (o + 37) 3)) fl_X11_154 dX11_ship_198 (hO.1.ob 27 (by decide) rfl) rfl ?_
                  refine jg_iconst (v := nI 1) dX11_ship_201 (by decide) ?_
                  refine jg_iadd (x := (x101.1 (o + 37) 3)) (y := (nI 1)) dX11_ship_202  ?_
                  refine cs_put (s := x101) (k := 3) (x := ((x101.1 (o + 37) 3) + (nI 1))) fl_X11_154 dX11_ship_203 (hO.1.ob 27 (by decide) rfl) (ltb rfl) (rfl) rfl rfl ?_
                  refine jg_aload_n dX11_ship_206 rfl ?_
                  refine cs_get (s := (cp x101 (o + 37) 3 ((x101.1 (o + 37) 3) + (nI 1)))) (w := .ref (o + 10)) fl_X11_27 dX11_ship_207 hO.ob0 rfl ?_
                  refine cs_get (s := (cp x101 (o + 37) 3 ((x101.1 (o + 37) 3) + (nI 1)))) (w := .ref (o + 37)) fl_X11_123 dX11_ship_210 hO.1.ob0 rfl ?_
                  refine cs_get (s := (cp x101 (o + 37) 3 ((x101.1 (o + 37) 3) + (nI 1)))) (w := .int ((cp x101 (o + 37) 3 ((x101.1 (o + 37) 3) + (nI 1))).1 (o + 37) 3)) fl_X11_154 dX11_ship_213 (hO.1.ob 27 (by decide) rfl) rfl ?_
                  refine jg_iconst (v := nI 1) dX11_ship_216 (by decide) ?_
                  refine jg_isub (x := ((cp x101 (o + 37) 3 ((x101.1 (o + 37) 3) + (nI 1))).1 (o + 37) 3)) (y := (nI 1)) dX11_ship_217  ?_
                  cases h
                · replace h := se_r h
                  obtain rfl := Sum.inr.inj (Option.some.inj h)
                  exact jc_SX (As := [.int (s.1 (o + 37) 3), .int (nI 80)]) ks_X11_82 dX11_ship_107 rfl (by decide) (Nat.le_of_ble_eq_true rfl) rfl (by decide) (Nat.le_refl _) (Nat.le_refl _) (Nat.le_of_ble_eq_true rfl) (x_X11_needRoom τ n s (s.1 (o + 37) 3) (nI 80) hn hT e_x92) ⟨rfl, rfl⟩
              · replace h := se_r h
                obtain rfl := Sum.inr.inj (Option.some.inj h)
                exact jc_SX (As := [.int (nI 0)]) ks_X11_45 dX11_ship_92 rfl (by decide) (Nat.le_of_ble_eq_true rfl) rfl (by decide) (Nat.le_refl _) (Nat.le_refl _) (Nat.le_of_ble_eq_true rfl) (x_X11_needArgument τ n s (nI 0) hn hT e_x89) ⟨rfl, rfl⟩
            · replace h := it_f c88 h
              refine jg_iload dX11_ship_76 rfl ?_
              refine jg_iconst (v := nI 0) dX11_ship_78 (by decide) ?_
              refine jg_ldc kk_X11_153 dX11_ship_79 ?_
              rw [show (1000000 : Int32) = nI 1000000 from rfl]
              obtain ⟨x102, e_x102, h⟩ := bd_some h
              refine cs_callS (As := [.int a8, .int (nI 0), .int (nI 1000000)]) ks_X11_41 dX11_ship_81 rfl (by decide) (Nat.le_of_ble_eq_true rfl) rfl (by decide) (Nat.le_of_ble_eq_true rfl) (t_X11_within τ n s a8 (nI 0) (nI 1000000) e_x102) ?_
              refine jg_if_eq (x := x102) (tgt := 91) dX11_ship_84 (by decide) (fun c103 => ?_) (fun c103 => ?_)
              · replace h := it_t c103 h
                refine jg_iconst (v := nI 0) dX11_ship_91 (by decide) ?_
                obtain ⟨x104, e_x104, h⟩ := bd_some h
                rcases x104 with y105 | z106
                · replace h := se_l h
                  refine cs_callS (As := [.int (nI 0)]) ks_X11_45 dX11_ship_92 rfl (by decide) (Nat.le_of_ble_eq_true rfl) rfl (by decide) (Nat.le_of_ble_eq_true rfl) (t_X11_needArgument τ n s (nI 0) e_x104) ?_
                  refine jg_aload_n dX11_ship_95 rfl ?_
                  refine cs_get (s := s) (w := .ref (o + 10)) fl_X11_27 dX11_ship_96 hO.ob0 rfl ?_
                  refine cs_get (s := s) (w := .ref (o + 37)) fl_X11_123 dX11_ship_99 hO.1.ob0 rfl ?_
                  refine cs_get (s := s) (w := .int (s.1 (o + 37) 3)) fl_X11_154 dX11_ship_102 (hO.1.ob 27 (by decide) rfl) rfl ?_
                  refine jg_bipush (v := nI 80) dX11_ship_105 (by decide) ?_
                  obtain ⟨x107, e_x107, h⟩ := bd_some h
                  rcases x107 with y108 | z109
                  · replace h := se_l h
                    refine cs_callS (As := [.int (s.1 (o + 37) 3), .int (nI 80)]) ks_X11_82 dX11_ship_107 rfl (by decide) (Nat.le_of_ble_eq_true rfl) rfl (by decide) (Nat.le_of_ble_eq_true rfl) (t_X11_needRoom τ n s (s.1 (o + 37) 3) (nI 80) e_x107) ?_
                    refine jg_aload_n dX11_ship_110 rfl ?_
                    refine cs_get (s := s) (w := .ref (o + 10)) fl_X11_27 dX11_ship_111 hO.ob0 rfl ?_
                    refine cs_get (s := s) (w := .ref (o + 37)) fl_X11_123 dX11_ship_114 hO.1.ob0 rfl ?_
                    refine cs_get (s := s) (w := .ref (o + 49)) fl_X11_157 dX11_ship_117 (hO.1.ob 27 (by decide) rfl) rfl ?_
                    refine jg_aload_n dX11_ship_120 rfl ?_
                    refine cs_get (s := s) (w := .ref (o + 10)) fl_X11_27 dX11_ship_121 hO.ob0 rfl ?_
                    refine cs_get (s := s) (w := .ref (o + 37)) fl_X11_123 dX11_ship_124 hO.1.ob0 rfl ?_
                    refine cs_get (s := s) (w := .int (s.1 (o + 37) 3)) fl_X11_154 dX11_ship_127 (hO.1.ob 27 (by decide) rfl) rfl ?_
                    obtain ⟨q110, h⟩ := gd_some h
                    refine cs_ldr (s := s) (q := (o + 49)) (i := (s.1 (o + 37) 3)) (kd := 6) (by decide) dX11_ship_130 (hO.1.ar 39 (by decide) rfl) q110 ?_
                    refine jg_astore (L' := [some (.ref o), some (.int a1), some (.int a2), some (.int a3), some (.int a4), some (.int a5), some (.int a6), some (.int a7), some (.int a8), some (.ref (o + 49 + 1 + (s.1 (o + 37) 3).toNatClampNeg))]) dX11_ship_131 (by decide) rfl ?_
                    refine jg_aload dX11_ship_133 rfl ?_
                    refine jg_iload_n dX11_ship_135 rfl ?_
                    refine jg_iload_n dX11_ship_136 rfl ?_
                    refine jg_iload dX11_ship_137 rfl ?_
                    refine jg_iload dX11_ship_139 rfl ?_
                    obtain ⟨x111, e_x111, h⟩ := bd_some h
                    refine cs_call (q := (o + 49 + 1 + (s.1 (o + 37) 3).toNatClampNeg)) (As := [.int a2, .int a3, .int a4, .int a7]) kv_X11_161 dX11_ship_141 (hO.1.ship q110.2) rfl rfl (by decide) (Nat.le_of_ble_eq_true rfl) rfl (by decide) (Nat.le_of_ble_eq_true rfl) (t_X9_build τ n (o + 49 + 1 + (s.1 (o + 37) 3).toNatClampNeg) s a2 a3 a4 a7 (hO.1.ship q110.2) e_x111) ?_
                    refine jg_aload dX11_ship_144 rfl ?_
                    refine jg_iload dX11_ship_146 rfl ?_
                    refine cs_put (s := x111) (k := 4) (x := a5) fl_X11_167 dX11_ship_148 (hO.1.ship q110.2) (ltb rfl) (rfl) rfl rfl ?_
                    refine jg_aload dX11_ship_151 rfl ?_
                    refine jg_iload dX11_ship_153 rfl ?_
                    refine cs_put (s := (cp x111 (o + 49 + 1 + (s.1 (o + 37) 3).toNatClampNeg) 4 a5)) (k := 5) (x := a6) fl_X11_170 dX11_ship_155 (hO.1.ship q110.2) (ltb rfl) (rfl) rfl rfl ?_
                    obtain ⟨x112, e_x112, h⟩ := bd_some h
                    refine cs_sub (Option.some.inj e_x112) ?_
                    refine jg_aload dX11_ship_158 rfl ?_
                    refine jg_iload_n dX11_ship_160 rfl ?_
                    refine cs_put (s := x112) (k := 6) (x := a1) fl_X11_173 dX11_ship_161 (hO.1.ship q110.2) (ltb rfl) (rfl) rfl rfl ?_
                    refine jg_aload dX11_ship_164 rfl ?_
                    refine jg_iload dX11_ship_166 rfl ?_
                    refine cs_put (s := (cp x112 (o + 49 + 1 + (s.1 (o + 37) 3).toNatClampNeg) 6 a1)) (k := 7) (x := a8) fl_X11_176 dX11_ship_168 (hO.1.ship q110.2) (ltb rfl) (rfl) rfl rfl ?_
                    obtain ⟨x113, e_x113, h⟩ := bd_some h
                    refine cs_sub (Option.some.inj e_x113) ?_
                    refine jg_aload dX11_ship_171 rfl ?_
                    refine jg_aload_n dX11_ship_173 rfl ?_
                    refine cs_get (s := x113) (w := .ref (o + 10)) fl_X11_27 dX11_ship_174 hO.ob0 rfl ?_
                    refine cs_get (s := x113) (w := .int (x113.1 (o + 10) 0)) fl_X11_49 dX11_ship_177 hO.1.ob0 rfl ?_
                    refine jg_aload_n dX11_ship_180 rfl ?_
                    refine cs_get (s := x113) (w := .ref (o + 10)) fl_X11_27 dX11_ship_181 hO.ob0 rfl ?_
                    obtain ⟨x114, e_x114, h⟩ := bd_some h
                    refine cs_call (q := (o + 10)) (As := []) kv_X11_179 dX11_ship_184 hO.1.ob0 rfl rfl (by decide) (Nat.le_of_ble_eq_true rfl) rfl (by decide) (Nat.le_of_ble_eq_true rfl) (t_X2_actOfToday F τ n (o + 10) x113 hO.1 e_x114) ?_
                    obtain ⟨q115, h⟩ := gd_some h
                    obtain ⟨x116, e_x116, h⟩ := bd_some h
                    refine cs_call (q := (o + 49 + 1 + (s.1 (o + 37) 3).toNatClampNeg)) (As := [.int (x113.1 (o + 10) 0), .ref x114]) kv_X11_183 dX11_ship_187 (hO.1.ship q110.2) rfl rfl (by decide) (Nat.le_of_ble_eq_true rfl) rfl (by decide) (Nat.le_of_ble_eq_true rfl) (t_X9_come τ n (o + 49 + 1 + (s.1 (o + 37) 3).toNatClampNeg) x114 x113 (x113.1 (o + 10) 0) (hO.1.ship q110.2) q115 e_x116) ?_
                    refine jg_aload_n dX11_ship_190 rfl ?_
                    refine cs_get (s := x116) (w := .ref (o + 10)) fl_X11_27 dX11_ship_191 hO.ob0 rfl ?_
                    refine cs_get (s := x116) (w := .ref (o + 37)) fl_X11_123 dX11_ship_194 hO.1.ob0 rfl ?_
                    refine jg_dup dX11_ship_197 rfl ?_
                    refine cs_get (s := x116) (w := .int (x116.1 (o + 37) 3)) fl_X11_154 dX11_ship_198 (hO.1.ob 27 (by decide) rfl) rfl ?_
                    refine jg_iconst (v := nI 1) dX11_ship_201 (by decide) ?_
                    refine jg_iadd (x := (x116.1 (o + 37) 3)) (y := (nI 1)) dX11_ship_202  ?_
                    refine cs_put (s := x116) (k := 3) (x := ((x116.1 (o + 37) 3) + (nI 1))) fl_X11_154 dX11_ship_203 (hO.1.ob 27 (by decide) rfl) (ltb rfl) (rfl) rfl rfl ?_
                    refine jg_aload_n dX11_ship_206 rfl ?_
                    refine cs_get (s := (cp x116 (o + 37) 3 ((x116.1 (o + 37) 3) + (nI 1)))) (w := .ref (o + 10)) fl_X11_27 dX11_ship_207 hO.ob0 rfl ?_
                    refine cs_get (s := (cp x116 (o + 37) 3 ((x116.1 (o + 37) 3) + (nI 1)))) (w := .ref (o + 37)) fl_X11_123 dX11_ship_210 hO.1.ob0 rfl ?_
                    refine cs_get (s := (cp x116 (o + 37) 3 ((x116.1 (o + 37) 3) + (nI 1)))) (w := .int ((cp x116 (o + 37) 3 ((x116.1 (o + 37) 3) + (nI 1))).1 (o + 37) 3)) fl_X11_154 dX11_ship_213 (hO.1.ob 27 (by decide) rfl) rfl ?_
                    refine jg_iconst (v := nI 1) dX11_ship_216 (by decide) ?_
                    refine jg_isub (x := ((cp x116 (o + 37) 3 ((x116.1 (o + 37) 3) + (nI 1))).1 (o + 37) 3)) (y := (nI 1)) dX11_ship_217  ?_
                    cases h
                  · replace h := se_r h
                    obtain rfl := Sum.inr.inj (Option.some.inj h)
                    exact jc_SX (As := [.int (s.1 (o + 37) 3), .int (nI 80)]) ks_X11_82 dX11_ship_107 rfl (by decide) (Nat.le_of_ble_eq_true rfl) rfl (by decide) (Nat.le_refl _) (Nat.le_refl _) (Nat.le_of_ble_eq_true rfl) (x_X11_needRoom τ n s (s.1 (o + 37) 3) (nI 80) hn hT e_x107) ⟨rfl, rfl⟩
                · replace h := se_r h
                  obtain rfl := Sum.inr.inj (Option.some.inj h)
                  exact jc_SX (As := [.int (nI 0)]) ks_X11_45 dX11_ship_92 rfl (by decide) (Nat.le_of_ble_eq_true rfl) rfl (by decide) (Nat.le_refl _) (Nat.le_refl _) (Nat.le_of_ble_eq_true rfl) (x_X11_needArgument τ n s (nI 0) hn hT e_x104) ⟨rfl, rfl⟩
              · replace h := it_f c103 h
                refine jg_iconst (v := nI 1) dX11_ship_87 (by decide) ?_
                refine jg_goto (tgt := 92) dX11_ship_88 (by decide) ?_
                obtain ⟨x117, e_x117, h⟩ := bd_some h
                rcases x117 with y118 | z119
                · replace h := se_l h
                  refine cs_callS (As := [.int (nI 1)]) ks_X11_45 dX11_ship_92 rfl (by decide) (Nat.le_of_ble_eq_true rfl) rfl (by decide) (Nat.le_of_ble_eq_true rfl) (t_X11_needArgument τ n s (nI 1) e_x117) ?_
                  refine jg_aload_n dX11_ship_95 rfl ?_
                  refine cs_get (s := s) (w := .ref (o + 10)) fl_X11_27 dX11_ship_96 hO.ob0 rfl ?_
                  refine cs_get (s := s) (w := .ref (o + 37)) fl_X11_123 dX11_ship_99 hO.1.ob0 rfl ?_
                  refine cs_get (s := s) (w := .int (s.1 (o + 37) 3)) fl_X11_154 dX11_ship_102 (hO.1.ob 27 (by decide) rfl) rfl ?_
                  refine jg_bipush (v := nI 80) dX11_ship_105 (by decide) ?_
                  obtain ⟨x120, e_x120, h⟩ := bd_some h
                  rcases x120 with y121 | z122
                  · replace h := se_l h
                    refine cs_callS (As := [.int (s.1 (o + 37) 3), .int (nI 80)]) ks_X11_82 dX11_ship_107 rfl (by decide) (Nat.le_of_ble_eq_true rfl) rfl (by decide) (Nat.le_of_ble_eq_true rfl) (t_X11_needRoom τ n s (s.1 (o + 37) 3) (nI 80) e_x120) ?_
                    refine jg_aload_n dX11_ship_110 rfl ?_
                    refine cs_get (s := s) (w := .ref (o + 10)) fl_X11_27 dX11_ship_111 hO.ob0 rfl ?_
                    refine cs_get (s := s) (w := .ref (o + 37)) fl_X11_123 dX11_ship_114 hO.1.ob0 rfl ?_
                    refine cs_get (s := s) (w := .ref (o + 49)) fl_X11_157 dX11_ship_117 (hO.1.ob 27 (by decide) rfl) rfl ?_
                    refine jg_aload_n dX11_ship_120 rfl ?_
                    refine cs_get (s := s) (w := .ref (o + 10)) fl_X11_27 dX11_ship_121 hO.ob0 rfl ?_
                    refine cs_get (s := s) (w := .ref (o + 37)) fl_X11_123 dX11_ship_124 hO.1.ob0 rfl ?_
                    refine cs_get (s := s) (w := .int (s.1 (o + 37) 3)) fl_X11_154 dX11_ship_127 (hO.1.ob 27 (by decide) rfl) rfl ?_
                    obtain ⟨q123, h⟩ := gd_some h
                    refine cs_ldr (s := s) (q := (o + 49)) (i := (s.1 (o + 37) 3)) (kd := 6) (by decide) dX11_ship_130 (hO.1.ar 39 (by decide) rfl) q123 ?_
                    refine jg_astore (L' := [some (.ref o), some (.int a1), some (.int a2), some (.int a3), some (.int a4), some (.int a5), some (.int a6), some (.int a7), some (.int a8), some (.ref (o + 49 + 1 + (s.1 (o + 37) 3).toNatClampNeg))]) dX11_ship_131 (by decide) rfl ?_
                    refine jg_aload dX11_ship_133 rfl ?_
                    refine jg_iload_n dX11_ship_135 rfl ?_
                    refine jg_iload_n dX11_ship_136 rfl ?_
                    refine jg_iload dX11_ship_137 rfl ?_
                    refine jg_iload dX11_ship_139 rfl ?_
                    obtain ⟨x124, e_x124, h⟩ := bd_some h
                    refine cs_call (q := (o + 49 + 1 + (s.1 (o + 37) 3).toNatClampNeg)) (As := [.int a2, .int a3, .int a4, .int a7]) kv_X11_161 dX11_ship_141 (hO.1.ship q123.2) rfl rfl (by decide) (Nat.le_of_ble_eq_true rfl) rfl (by decide) (Nat.le_of_ble_eq_true rfl) (t_X9_build τ n (o + 49 + 1 + (s.1 (o + 37) 3).toNatClampNeg) s a2 a3 a4 a7 (hO.1.ship q123.2) e_x124) ?_
                    refine jg_aload dX11_ship_144 rfl ?_
                    refine jg_iload dX11_ship_146 rfl ?_
                    refine cs_put (s := x124) (k := 4) (x := a5) fl_X11_167 dX11_ship_148 (hO.1.ship q123.2) (ltb rfl) (rfl) rfl rfl ?_
                    refine jg_aload dX11_ship_151 rfl ?_
                    refine jg_iload dX11_ship_153 rfl ?_
                    refine cs_put (s := (cp x124 (o + 49 + 1 + (s.1 (o + 37) 3).toNatClampNeg) 4 a5)) (k := 5) (x := a6) fl_X11_170 dX11_ship_155 (hO.1.ship q123.2) (ltb rfl) (rfl) rfl rfl ?_
                    obtain ⟨x125, e_x125, h⟩ := bd_some h
                    refine cs_sub (Option.some.inj e_x125) ?_
                    refine jg_aload dX11_ship_158 rfl ?_
                    refine jg_iload_n dX11_ship_160 rfl ?_
                    refine cs_put (s := x125) (k := 6) (x := a1) fl_X11_173 dX11_ship_161 (hO.1.ship q123.2) (ltb rfl) (rfl) rfl rfl ?_
                    refine jg_aload dX11_ship_164 rfl ?_
                    refine jg_iload dX11_ship_166 rfl ?_
                    refine cs_put (s := (cp x125 (o + 49 + 1 + (s.1 (o + 37) 3).toNatClampNeg) 6 a1)) (k := 7) (x := a8) fl_X11_176 dX11_ship_168 (hO.1.ship q123.2) (ltb rfl) (rfl) rfl rfl ?_
                    obtain ⟨x126, e_x126, h⟩ := bd_some h
                    refine cs_sub (Option.some.inj e_x126) ?_
                    refine jg_aload dX11_ship_171 rfl ?_
                    refine jg_aload_n dX11_ship_173 rfl ?_
                    refine cs_get (s := x126) (w := .ref (o + 10)) fl_X11_27 dX11_ship_174 hO.ob0 rfl ?_
                    refine cs_get (s := x126) (w := .int (x126.1 (o + 10) 0)) fl_X11_49 dX11_ship_177 hO.1.ob0 rfl ?_
                    refine jg_aload_n dX11_ship_180 rfl ?_
                    refine cs_get (s := x126) (w := .ref (o + 10)) fl_X11_27 dX11_ship_181 hO.ob0 rfl ?_
                    obtain ⟨x127, e_x127, h⟩ := bd_some h
                    refine cs_call (q := (o + 10)) (As := []) kv_X11_179 dX11_ship_184 hO.1.ob0 rfl rfl (by decide) (Nat.le_of_ble_eq_true rfl) rfl (by decide) (Nat.le_of_ble_eq_true rfl) (t_X2_actOfToday F τ n (o + 10) x126 hO.1 e_x127) ?_
                    obtain ⟨q128, h⟩ := gd_some h
                    obtain ⟨x129, e_x129, h⟩ := bd_some h
                    refine cs_call (q := (o + 49 + 1 + (s.1 (o + 37) 3).toNatClampNeg)) (As := [.int (x126.1 (o + 10) 0), .ref x127]) kv_X11_183 dX11_ship_187 (hO.1.ship q123.2) rfl rfl (by decide) (Nat.le_of_ble_eq_true rfl) rfl (by decide) (Nat.le_of_ble_eq_true rfl) (t_X9_come τ n (o + 49 + 1 + (s.1 (o + 37) 3).toNatClampNeg) x127 x126 (x126.1 (o + 10) 0) (hO.1.ship q123.2) q128 e_x129) ?_
                    refine jg_aload_n dX11_ship_190 rfl ?_
                    refine cs_get (s := x129) (w := .ref (o + 10)) fl_X11_27 dX11_ship_191 hO.ob0 rfl ?_
                    refine cs_get (s := x129) (w := .ref (o + 37)) fl_X11_123 dX11_ship_194 hO.1.ob0 rfl ?_
                    refine jg_dup dX11_ship_197 rfl ?_
                    refine cs_get (s := x129) (w := .int (x129.1 (o + 37) 3)) fl_X11_154 dX11_ship_198 (hO.1.ob 27 (by decide) rfl) rfl ?_
                    refine jg_iconst (v := nI 1) dX11_ship_201 (by decide) ?_
                    refine jg_iadd (x := (x129.1 (o + 37) 3)) (y := (nI 1)) dX11_ship_202  ?_
                    refine cs_put (s := x129) (k := 3) (x := ((x129.1 (o + 37) 3) + (nI 1))) fl_X11_154 dX11_ship_203 (hO.1.ob 27 (by decide) rfl) (ltb rfl) (rfl) rfl rfl ?_
                    refine jg_aload_n dX11_ship_206 rfl ?_
                    refine cs_get (s := (cp x129 (o + 37) 3 ((x129.1 (o + 37) 3) + (nI 1)))) (w := .ref (o + 10)) fl_X11_27 dX11_ship_207 hO.ob0 rfl ?_
                    refine cs_get (s := (cp x129 (o + 37) 3 ((x129.1 (o + 37) 3) + (nI 1)))) (w := .ref (o + 37)) fl_X11_123 dX11_ship_210 hO.1.ob0 rfl ?_
                    refine cs_get (s := (cp x129 (o + 37) 3 ((x129.1 (o + 37) 3) + (nI 1)))) (w := .int ((cp x129 (o + 37) 3 ((x129.1 (o + 37) 3) + (nI 1))).1 (o + 37) 3)) fl_X11_154 dX11_ship_213 (hO.1.ob 27 (by decide) rfl) rfl ?_
                    refine jg_iconst (v := nI 1) dX11_ship_216 (by decide) ?_
                    refine jg_isub (x := ((cp x129 (o + 37) 3 ((x129.1 (o + 37) 3) + (nI 1))).1 (o + 37) 3)) (y := (nI 1)) dX11_ship_217  ?_
                    cases h
                  · replace h := se_r h
                    obtain rfl := Sum.inr.inj (Option.some.inj h)
                    exact jc_SX (As := [.int (s.1 (o + 37) 3), .int (nI 80)]) ks_X11_82 dX11_ship_107 rfl (by decide) (Nat.le_of_ble_eq_true rfl) rfl (by decide) (Nat.le_refl _) (Nat.le_refl _) (Nat.le_of_ble_eq_true rfl) (x_X11_needRoom τ n s (s.1 (o + 37) 3) (nI 80) hn hT e_x120) ⟨rfl, rfl⟩
                · replace h := se_r h
                  obtain rfl := Sum.inr.inj (Option.some.inj h)
                  exact jc_SX (As := [.int (nI 1)]) ks_X11_45 dX11_ship_92 rfl (by decide) (Nat.le_of_ble_eq_true rfl) rfl (by decide) (Nat.le_refl _) (Nat.le_refl _) (Nat.le_of_ble_eq_true rfl) (x_X11_needArgument τ n s (nI 1) hn hT e_x117) ⟨rfl, rfl⟩
        · replace h := se_r h
          obtain rfl := Sum.inr.inj (Option.some.inj h)
          exact jc_SX (As := [.int (nI 0)]) ks_X11_45 dX11_ship_51 rfl (by decide) (Nat.le_of_ble_eq_true rfl) rfl (by decide) (Nat.le_refl _) (Nat.le_refl _) (Nat.le_of_ble_eq_true rfl) (x_X11_needArgument τ n s (nI 0) hn hT e_x69) ⟨rfl, rfl⟩
      · replace h := it_f c68 h
        refine jg_iload dX11_ship_34 rfl ?_
        refine jg_iconst (v := nI 1) dX11_ship_36 (by decide) ?_
        refine jg_sipush (v := nI 900) dX11_ship_37 (by decide) ?_
        obtain ⟨x130, e_x130, h⟩ := bd_some h
        refine cs_callS (As := [.int a4, .int (nI 1), .int (nI 900)]) ks_X11_41 dX11_ship_40 rfl (by decide) (Nat.le_of_ble_eq_true rfl) rfl (by decide) (Nat.le_of_ble_eq_true rfl) (t_X11_within τ n s a4 (nI 1) (nI 900) e_x130) ?_
        refine jg_if_eq (x := x130) (tgt := 50) dX11_ship_43 (by decide) (fun c131 => ?_) (fun c131 => ?_)
        · replace h := it_t c131 h
          refine jg_iconst (v := nI 0) dX11_ship_50 (by decide) ?_
          obtain ⟨x132, e_x132, h⟩ := bd_some h
          rcases x132 with y133 | z134
          · replace h := se_l h
            refine cs_callS (As := [.int (nI 0)]) ks_X11_45 dX11_ship_51 rfl (by decide) (Nat.le_of_ble_eq_true rfl) rfl (by decide) (Nat.le_of_ble_eq_true rfl) (t_X11_needArgument τ n s (nI 0) e_x132) ?_
            refine jg_iload dX11_ship_54 rfl ?_
            refine jg_iconst (v := nI 1) dX11_ship_56 (by decide) ?_
            refine jg_bipush (v := nI 80) dX11_ship_57 (by decide) ?_
            obtain ⟨x135, e_x135, h⟩ := bd_some h
            refine cs_callS (As := [.int a5, .int (nI 1), .int (nI 80)]) ks_X11_41 dX11_ship_59 rfl (by decide) (Nat.le_of_ble_eq_true rfl) rfl (by decide) (Nat.le_of_ble_eq_true rfl) (t_X11_within τ n s a5 (nI 1) (nI 80) e_x135) ?_
            refine jg_if_eq (x := x135) (tgt := 91) dX11_ship_62 (by decide) (fun c136 => ?_) (fun c136 => ?_)
            · replace h := it_t c136 h
              refine jg_iconst (v := nI 0) dX11_ship_91 (by decide) ?_
              obtain ⟨x137, e_x137, h⟩ := bd_some h
              rcases x137 with y138 | z139
              · replace h := se_l h
                refine cs_callS (As := [.int (nI 0)]) ks_X11_45 dX11_ship_92 rfl (by decide) (Nat.le_of_ble_eq_true rfl) rfl (by decide) (Nat.le_of_ble_eq_true rfl) (t_X11_needArgument τ n s (nI 0) e_x137) ?_
                refine jg_aload_n dX11_ship_95 rfl ?_
                refine cs_get (s := s) (w := .ref (o + 10)) fl_X11_27 dX11_ship_96 hO.ob0 rfl ?_
                refine cs_get (s := s) (w := .ref (o + 37)) fl_X11_123 dX11_ship_99 hO.1.ob0 rfl ?_
                refine cs_get (s := s) (w := .int (s.1 (o + 37) 3)) fl_X11_154 dX11_ship_102 (hO.1.ob 27 (by decide) rfl) rfl ?_
                refine jg_bipush (v := nI 80) dX11_ship_105 (by decide) ?_
                obtain ⟨x140, e_x140, h⟩ := bd_some h
                rcases x140 with y141 | z142
                · replace h := se_l h
                  refine cs_callS (As := [.int (s.1 (o + 37) 3), .int (nI 80)]) ks_X11_82 dX11_ship_107 rfl (by decide) (Nat.le_of_ble_eq_true rfl) rfl (by decide) (Nat.le_of_ble_eq_true rfl) (t_X11_needRoom τ n s (s.1 (o + 37) 3) (nI 80) e_x140) ?_
                  refine jg_aload_n dX11_ship_110 rfl ?_
                  refine cs_get (s := s) (w := .ref (o + 10)) fl_X11_27 dX11_ship_111 hO.ob0 rfl ?_
                  refine cs_get (s := s) (w := .ref (o + 37)) fl_X11_123 dX11_ship_114 hO.1.ob0 rfl ?_
                  refine cs_get (s := s) (w := .ref (o + 49)) fl_X11_157 dX11_ship_117 (hO.1.ob 27 (by decide) rfl) rfl ?_
                  refine jg_aload_n dX11_ship_120 rfl ?_
                  refine cs_get (s := s) (w := .ref (o + 10)) fl_X11_27 dX11_ship_121 hO.ob0 rfl ?_
                  refine cs_get (s := s) (w := .ref (o + 37)) fl_X11_123 dX11_ship_124 hO.1.ob0 rfl ?_
                  refine cs_get (s := s) (w := .int (s.1 (o + 37) 3)) fl_X11_154 dX11_ship_127 (hO.1.ob 27 (by decide) rfl) rfl ?_
                  obtain ⟨q143, h⟩ := gd_some h
                  refine cs_ldr (s := s) (q := (o + 49)) (i := (s.1 (o + 37) 3)) (kd := 6) (by decide) dX11_ship_130 (hO.1.ar 39 (by decide) rfl) q143 ?_
                  refine jg_astore (L' := [some (.ref o), some (.int a1), some (.int a2), some (.int a3), some (.int a4), some (.int a5), some (.int a6), some (.int a7), some (.int a8), some (.ref (o + 49 + 1 + (s.1 (o + 37) 3).toNatClampNeg))]) dX11_ship_131 (by decide) rfl ?_
                  refine jg_aload dX11_ship_133 rfl ?_
                  refine jg_iload_n dX11_ship_135 rfl ?_
                  refine jg_iload_n dX11_ship_136 rfl ?_
                  refine jg_iload dX11_ship_137 rfl ?_
                  refine jg_iload dX11_ship_139 rfl ?_
                  obtain ⟨x144, e_x144, h⟩ := bd_some h
                  refine cs_call (q := (o + 49 + 1 + (s.1 (o + 37) 3).toNatClampNeg)) (As := [.int a2, .int a3, .int a4, .int a7]) kv_X11_161 dX11_ship_141 (hO.1.ship q143.2) rfl rfl (by decide) (Nat.le_of_ble_eq_true rfl) rfl (by decide) (Nat.le_of_ble_eq_true rfl) (t_X9_build τ n (o + 49 + 1 + (s.1 (o + 37) 3).toNatClampNeg) s a2 a3 a4 a7 (hO.1.ship q143.2) e_x144) ?_
                  refine jg_aload dX11_ship_144 rfl ?_
                  refine jg_iload dX11_ship_146 rfl ?_
                  refine cs_put (s := x144) (k := 4) (x := a5) fl_X11_167 dX11_ship_148 (hO.1.ship q143.2) (ltb rfl) (rfl) rfl rfl ?_
                  refine jg_aload dX11_ship_151 rfl ?_
                  refine jg_iload dX11_ship_153 rfl ?_
                  refine cs_put (s := (cp x144 (o + 49 + 1 + (s.1 (o + 37) 3).toNatClampNeg) 4 a5)) (k := 5) (x := a6) fl_X11_170 dX11_ship_155 (hO.1.ship q143.2) (ltb rfl) (rfl) rfl rfl ?_
                  obtain ⟨x145, e_x145, h⟩ := bd_some h
                  refine cs_sub (Option.some.inj e_x145) ?_
                  refine jg_aload dX11_ship_158 rfl ?_
                  refine jg_iload_n dX11_ship_160 rfl ?_
                  refine cs_put (s := x145) (k := 6) (x := a1) fl_X11_173 dX11_ship_161 (hO.1.ship q143.2) (ltb rfl) (rfl) rfl rfl ?_
                  refine jg_aload dX11_ship_164 rfl ?_
                  refine jg_iload dX11_ship_166 rfl ?_
                  refine cs_put (s := (cp x145 (o + 49 + 1 + (s.1 (o + 37) 3).toNatClampNeg) 6 a1)) (k := 7) (x := a8) fl_X11_176 dX11_ship_168 (hO.1.ship q143.2) (ltb rfl) (rfl) rfl rfl ?_
                  obtain ⟨x146, e_x146, h⟩ := bd_some h
                  refine cs_sub (Option.some.inj e_x146) ?_
                  refine jg_aload dX11_ship_171 rfl ?_
                  refine jg_aload_n dX11_ship_173 rfl ?_
                  refine cs_get (s := x146) (w := .ref (o + 10)) fl_X11_27 dX11_ship_174 hO.ob0 rfl ?_
                  refine cs_get (s := x146) (w := .int (x146.1 (o + 10) 0)) fl_X11_49 dX11_ship_177 hO.1.ob0 rfl ?_
                  refine jg_aload_n dX11_ship_180 rfl ?_
                  refine cs_get (s := x146) (w := .ref (o + 10)) fl_X11_27 dX11_ship_181 hO.ob0 rfl ?_
                  obtain ⟨x147, e_x147, h⟩ := bd_some h
                  refine cs_call (q := (o + 10)) (As := []) kv_X11_179 dX11_ship_184 hO.1.ob0 rfl rfl (by decide) (Nat.le_of_ble_eq_true rfl) rfl (by decide) (Nat.le_of_ble_eq_true rfl) (t_X2_actOfToday F τ n (o + 10) x146 hO.1 e_x147) ?_
                  obtain ⟨q148, h⟩ := gd_some h
                  obtain ⟨x149, e_x149, h⟩ := bd_some h
                  refine cs_call (q := (o + 49 + 1 + (s.1 (o + 37) 3).toNatClampNeg)) (As := [.int (x146.1 (o + 10) 0), .ref x147]) kv_X11_183 dX11_ship_187 (hO.1.ship q143.2) rfl rfl (by decide) (Nat.le_of_ble_eq_true rfl) rfl (by decide) (Nat.le_of_ble_eq_true rfl) (t_X9_come τ n (o + 49 + 1 + (s.1 (o + 37) 3).toNatClampNeg) x147 x146 (x146.1 (o + 10) 0) (hO.1.ship q143.2) q148 e_x149) ?_
                  refine jg_aload_n dX11_ship_190 rfl ?_
                  refine cs_get (s := x149) (w := .ref (o + 10)) fl_X11_27 dX11_ship_191 hO.ob0 rfl ?_
                  refine cs_get (s := x149) (w := .ref (o + 37)) fl_X11_123 dX11_ship_194 hO.1.ob0 rfl ?_
                  refine jg_dup dX11_ship_197 rfl ?_
                  refine cs_get (s := x149) (w := .int (x149.1 (o + 37) 3)) fl_X11_154 dX11_ship_198 (hO.1.ob 27 (by decide) rfl) rfl ?_
                  refine jg_iconst (v := nI 1) dX11_ship_201 (by decide) ?_
                  refine jg_iadd (x := (x149.1 (o + 37) 3)) (y := (nI 1)) dX11_ship_202  ?_
                  refine cs_put (s := x149) (k := 3) (x := ((x149.1 (o + 37) 3) + (nI 1))) fl_X11_154 dX11_ship_203 (hO.1.ob 27 (by decide) rfl) (ltb rfl) (rfl) rfl rfl ?_
                  refine jg_aload_n dX11_ship_206 rfl ?_
                  refine cs_get (s := (cp x149 (o + 37) 3 ((x149.1 (o + 37) 3) + (nI 1)))) (w := .ref (o + 10)) fl_X11_27 dX11_ship_207 hO.ob0 rfl ?_
                  refine cs_get (s := (cp x149 (o + 37) 3 ((x149.1 (o + 37) 3) + (nI 1)))) (w := .ref (o + 37)) fl_X11_123 dX11_ship_210 hO.1.ob0 rfl ?_
                  refine cs_get (s := (cp x149 (o + 37) 3 ((x149.1 (o + 37) 3) + (nI 1)))) (w := .int ((cp x149 (o + 37) 3 ((x149.1 (o + 37) 3) + (nI 1))).1 (o + 37) 3)) fl_X11_154 dX11_ship_213 (hO.1.ob 27 (by decide) rfl) rfl ?_
                  refine jg_iconst (v := nI 1) dX11_ship_216 (by decide) ?_
                  refine jg_isub (x := ((cp x149 (o + 37) 3 ((x149.1 (o + 37) 3) + (nI 1))).1 (o + 37) 3)) (y := (nI 1)) dX11_ship_217  ?_
                  cases h
                · replace h := se_r h
                  obtain rfl := Sum.inr.inj (Option.some.inj h)
                  exact jc_SX (As := [.int (s.1 (o + 37) 3), .int (nI 80)]) ks_X11_82 dX11_ship_107 rfl (by decide) (Nat.le_of_ble_eq_true rfl) rfl (by decide) (Nat.le_refl _) (Nat.le_refl _) (Nat.le_of_ble_eq_true rfl) (x_X11_needRoom τ n s (s.1 (o + 37) 3) (nI 80) hn hT e_x140) ⟨rfl, rfl⟩
              · replace h := se_r h
                obtain rfl := Sum.inr.inj (Option.some.inj h)
                exact jc_SX (As := [.int (nI 0)]) ks_X11_45 dX11_ship_92 rfl (by decide) (Nat.le_of_ble_eq_true rfl) rfl (by decide) (Nat.le_refl _) (Nat.le_refl _) (Nat.le_of_ble_eq_true rfl) (x_X11_needArgument τ n s (nI 0) hn hT e_x137) ⟨rfl, rfl⟩
            · replace h := it_f c136 h
              refine jg_iload dX11_ship_65 rfl ?_
              refine jg_iconst (v := nI 1) dX11_ship_67 (by decide) ?_
              refine jg_bipush (v := nI 80) dX11_ship_68 (by decide) ?_
              obtain ⟨x150, e_x150, h⟩ := bd_some h
              refine cs_callS (As := [.int a6, .int (nI 1), .int (nI 80)]) ks_X11_41 dX11_ship_70 rfl (by decide) (Nat.le_of_ble_eq_true rfl) rfl (by decide) (Nat.le_of_ble_eq_true rfl) (t_X11_within τ n s a6 (nI 1) (nI 80) e_x150) ?_
              refine jg_if_eq (x := x150) (tgt := 91) dX11_ship_73 (by decide) (fun c151 => ?_) (fun c151 => ?_)
              · replace h := it_t c151 h
                refine jg_iconst (v := nI 0) dX11_ship_91 (by decide) ?_
                obtain ⟨x152, e_x152, h⟩ := bd_some h
                rcases x152 with y153 | z154
                · replace h := se_l h
                  refine cs_callS (As := [.int (nI 0)]) ks_X11_45 dX11_ship_92 rfl (by decide) (Nat.le_of_ble_eq_true rfl) rfl (by decide) (Nat.le_of_ble_eq_true rfl) (t_X11_needArgument τ n s (nI 0) e_x152) ?_
                  refine jg_aload_n dX11_ship_95 rfl ?_
                  refine cs_get (s := s) (w := .ref (o + 10)) fl_X11_27 dX11_ship_96 hO.ob0 rfl ?_
                  refine cs_get (s := s) (w := .ref (o + 37)) fl_X11_123 dX11_ship_99 hO.1.ob0 rfl ?_
                  refine cs_get (s := s) (w := .int (s.1 (o + 37) 3)) fl_X11_154 dX11_ship_102 (hO.1.ob 27 (by decide) rfl) rfl ?_
                  refine jg_bipush (v := nI 80) dX11_ship_105 (by decide) ?_
                  obtain ⟨x155, e_x155, h⟩ := bd_some h
                  rcases x155 with y156 | z157
                  · replace h := se_l h
                    refine cs_callS (As := [.int (s.1 (o + 37) 3), .int (nI 80)]) ks_X11_82 dX11_ship_107 rfl (by decide) (Nat.le_of_ble_eq_true rfl) rfl (by decide) (Nat.le_of_ble_eq_true rfl) (t_X11_needRoom τ n s (s.1 (o + 37) 3) (nI 80) e_x155) ?_
                    refine jg_aload_n dX11_ship_110 rfl ?_
                    refine cs_get (s := s) (w := .ref (o + 10)) fl_X11_27 dX11_ship_111 hO.ob0 rfl ?_
                    refine cs_get (s := s) (w := .ref (o + 37)) fl_X11_123 dX11_ship_114 hO.1.ob0 rfl ?_
                    refine cs_get (s := s) (w := .ref (o + 49)) fl_X11_157 dX11_ship_117 (hO.1.ob 27 (by decide) rfl) rfl ?_
                    refine jg_aload_n dX11_ship_120 rfl ?_
                    refine cs_get (s := s) (w := .ref (o + 10)) fl_X11_27 dX11_ship_121 hO.ob0 rfl ?_
                    refine cs_get (s := s) (w := .ref (o + 37)) fl_X11_123 dX11_ship_124 hO.1.ob0 rfl ?_
                    refine cs_get (s := s) (w := .int (s.1 (o + 37) 3)) fl_X11_154 dX11_ship_127 (hO.1.ob 27 (by decide) rfl) rfl ?_
                    obtain ⟨q158, h⟩ := gd_some h
                    refine cs_ldr (s := s) (q := (o + 49)) (i := (s.1 (o + 37) 3)) (kd := 6) (by decide) dX11_ship_130 (hO.1.ar 39 (by decide) rfl) q158 ?_
                    refine jg_astore (L' := [some (.ref o), some (.int a1), some (.int a2), some (.int a3), some (.int a4), some (.int a5), some (.int a6), some (.int a7), some (.int a8), some (.ref (o + 49 + 1 + (s.1 (o + 37) 3).toNatClampNeg))]) dX11_ship_131 (by decide) rfl ?_
                    refine jg_aload dX11_ship_133 rfl ?_
                    refine jg_iload_n dX11_ship_135 rfl ?_
                    refine jg_iload_n dX11_ship_136 rfl ?_
                    refine jg_iload dX11_ship_137 rfl ?_
                    refine jg_iload dX11_ship_139 rfl ?_
                    obtain ⟨x159, e_x159, h⟩ := bd_some h
                    refine cs_call (q := (o + 49 + 1 + (s.1 (o + 37) 3).toNatClampNeg)) (As := [.int a2, .int a3, .int a4, .int a7]) kv_X11_161 dX11_ship_141 (hO.1.ship q158.2) rfl rfl (by decide) (Nat.le_of_ble_eq_true rfl) rfl (by decide) (Nat.le_of_ble_eq_true rfl) (t_X9_build τ n (o + 49 + 1 + (s.1 (o + 37) 3).toNatClampNeg) s a2 a3 a4 a7 (hO.1.ship q158.2) e_x159) ?_
                    refine jg_aload dX11_ship_144 rfl ?_
                    refine jg_iload dX11_ship_146 rfl ?_
                    refine cs_put (s := x159) (k := 4) (x := a5) fl_X11_167 dX11_ship_148 (hO.1.ship q158.2) (ltb rfl) (rfl) rfl rfl ?_
                    refine jg_aload dX11_ship_151 rfl ?_
                    refine jg_iload dX11_ship_153 rfl ?_
                    refine cs_put (s := (cp x159 (o + 49 + 1 + (s.1 (o + 37) 3).toNatClampNeg) 4 a5)) (k := 5) (x := a6) fl_X11_170 dX11_ship_155 (hO.1.ship q158.2) (ltb rfl) (rfl) rfl rfl ?_
                    obtain ⟨x160, e_x160, h⟩ := bd_some h
                    refine cs_sub (Option.some.inj e_x160) ?_
                    refine jg_aload dX11_ship_158 rfl ?_
                    refine jg_iload_n dX11_ship_160 rfl ?_
                    refine cs_put (s := x160) (k := 6) (x := a1) fl_X11_173 dX11_ship_161 (hO.1.ship q158.2) (ltb rfl) (rfl) rfl rfl ?_
                    refine jg_aload dX11_ship_164 rfl ?_
                    refine jg_iload dX11_ship_166 rfl ?_
                    refine cs_put (s := (cp x160 (o + 49 + 1 + (s.1 (o + 37) 3).toNatClampNeg) 6 a1)) (k := 7) (x := a8) fl_X11_176 dX11_ship_168 (hO.1.ship q158.2) (ltb rfl) (rfl) rfl rfl ?_
                    obtain ⟨x161, e_x161, h⟩ := bd_some h
                    refine cs_sub (Option.some.inj e_x161) ?_
                    refine jg_aload dX11_ship_171 rfl ?_
                    refine jg_aload_n dX11_ship_173 rfl ?_
                    refine cs_get (s := x161) (w := .ref (o + 10)) fl_X11_27 dX11_ship_174 hO.ob0 rfl ?_
                    refine cs_get (s := x161) (w := .int (x161.1 (o + 10) 0)) fl_X11_49 dX11_ship_177 hO.1.ob0 rfl ?_
                    refine jg_aload_n dX11_ship_180 rfl ?_
                    refine cs_get (s := x161) (w := .ref (o + 10)) fl_X11_27 dX11_ship_181 hO.ob0 rfl ?_
                    obtain ⟨x162, e_x162, h⟩ := bd_some h
                    refine cs_call (q := (o + 10)) (As := []) kv_X11_179 dX11_ship_184 hO.1.ob0 rfl rfl (by decide) (Nat.le_of_ble_eq_true rfl) rfl (by decide) (Nat.le_of_ble_eq_true rfl) (t_X2_actOfToday F τ n (o + 10) x161 hO.1 e_x162) ?_
                    obtain ⟨q163, h⟩ := gd_some h
                    obtain ⟨x164, e_x164, h⟩ := bd_some h
                    refine cs_call (q := (o + 49 + 1 + (s.1 (o + 37) 3).toNatClampNeg)) (As := [.int (x161.1 (o + 10) 0), .ref x162]) kv_X11_183 dX11_ship_187 (hO.1.ship q158.2) rfl rfl (by decide) (Nat.le_of_ble_eq_true rfl) rfl (by decide) (Nat.le_of_ble_eq_true rfl) (t_X9_come τ n (o + 49 + 1 + (s.1 (o + 37) 3).toNatClampNeg) x162 x161 (x161.1 (o + 10) 0) (hO.1.ship q158.2) q163 e_x164) ?_
                    refine jg_aload_n dX11_ship_190 rfl ?_
                    refine cs_get (s := x164) (w := .ref (o + 10)) fl_X11_27 dX11_ship_191 hO.ob0 rfl ?_
                    refine cs_get (s := x164) (w := .ref (o + 37)) fl_X11_123 dX11_ship_194 hO.1.ob0 rfl ?_
                    refine jg_dup dX11_ship_197 rfl ?_
                    refine cs_get (s := x164) (w := .int (x164.1 (o + 37) 3)) fl_X11_154 dX11_ship_198 (hO.1.ob 27 (by decide) rfl) rfl ?_
                    refine jg_iconst (v := nI 1) dX11_ship_201 (by decide) ?_
                    refine jg_iadd (x := (x164.1 (o + 37) 3)) (y := (nI 1)) dX11_ship_202  ?_
                    refine cs_put (s := x164) (k := 3) (x := ((x164.1 (o + 37) 3) + (nI 1))) fl_X11_154 dX11_ship_203 (hO.1.ob 27 (by decide) rfl) (ltb rfl) (rfl) rfl rfl ?_
                    refine jg_aload_n dX11_ship_206 rfl ?_
                    refine cs_get (s := (cp x164 (o + 37) 3 ((x164.1 (o + 37) 3) + (nI 1)))) (w := .ref (o + 10)) fl_X11_27 dX11_ship_207 hO.ob0 rfl ?_
                    refine cs_get (s := (cp x164 (o + 37) 3 ((x164.1 (o + 37) 3) + (nI 1)))) (w := .ref (o + 37)) fl_X11_123 dX11_ship_210 hO.1.ob0 rfl ?_
                    refine cs_get (s := (cp x164 (o + 37) 3 ((x164.1 (o + 37) 3) + (nI 1)))) (w := .int ((cp x164 (o + 37) 3 ((x164.1 (o + 37) 3) + (nI 1))).1 (o + 37) 3)) fl_X11_154 dX11_ship_213 (hO.1.ob 27 (by decide) rfl) rfl ?_
                    refine jg_iconst (v := nI 1) dX11_ship_216 (by decide) ?_
                    refine jg_isub (x := ((cp x164 (o + 37) 3 ((x164.1 (o + 37) 3) + (nI 1))).1 (o + 37) 3)) (y := (nI 1)) dX11_ship_217  ?_
                    cases h
                  · replace h := se_r h
                    obtain rfl := Sum.inr.inj (Option.some.inj h)
                    exact jc_SX (As := [.int (s.1 (o + 37) 3), .int (nI 80)]) ks_X11_82 dX11_ship_107 rfl (by decide) (Nat.le_of_ble_eq_true rfl) rfl (by decide) (Nat.le_refl _) (Nat.le_refl _) (Nat.le_of_ble_eq_true rfl) (x_X11_needRoom τ n s (s.1 (o + 37) 3) (nI 80) hn hT e_x155) ⟨rfl, rfl⟩
                · replace h := se_r h
                  obtain rfl := Sum.inr.inj (Option.some.inj h)
                  exact jc_SX (As := [.int (nI 0)]) ks_X11_45 dX11_ship_92 rfl (by decide) (Nat.le_of_ble_eq_true rfl) rfl (by decide) (Nat.le_refl _) (Nat.le_refl _) (Nat.le_of_ble_eq_true rfl) (x_X11_needArgument τ n s (nI 0) hn hT e_x152) ⟨rfl, rfl⟩
              · replace h := it_f c151 h
                refine jg_iload dX11_ship_76 rfl ?_
                refine jg_iconst (v := nI 0) dX11_ship_78 (by decide) ?_
                refine jg_ldc kk_X11_153 dX11_ship_79 ?_
                rw [show (1000000 : Int32) = nI 1000000 from rfl]
                obtain ⟨x165, e_x165, h⟩ := bd_some h
                refine cs_callS (As := [.int a8, .int (nI 0), .int (nI 1000000)]) ks_X11_41 dX11_ship_81 rfl (by decide) (Nat.le_of_ble_eq_true rfl) rfl (by decide) (Nat.le_of_ble_eq_true rfl) (t_X11_within τ n s a8 (nI 0) (nI 1000000) e_x165) ?_
                refine jg_if_eq (x := x165) (tgt := 91) dX11_ship_84 (by decide) (fun c166 => ?_) (fun c166 => ?_)
                · replace h := it_t c166 h
                  refine jg_iconst (v := nI 0) dX11_ship_91 (by decide) ?_
                  obtain ⟨x167, e_x167, h⟩ := bd_some h
                  rcases x167 with y168 | z169
                  · replace h := se_l h
                    refine cs_callS (As := [.int (nI 0)]) ks_X11_45 dX11_ship_92 rfl (by decide) (Nat.le_of_ble_eq_true rfl) rfl (by decide) (Nat.le_of_ble_eq_true rfl) (t_X11_needArgument τ n s (nI 0) e_x167) ?_
                    refine jg_aload_n dX11_ship_95 rfl ?_
                    refine cs_get (s := s) (w := .ref (o + 10)) fl_X11_27 dX11_ship_96 hO.ob0 rfl ?_
                    refine cs_get (s := s) (w := .ref (o + 37)) fl_X11_123 dX11_ship_99 hO.1.ob0 rfl ?_
                    refine cs_get (s := s) (w := .int (s.1 (o + 37) 3)) fl_X11_154 dX11_ship_102 (hO.1.ob 27 (by decide) rfl) rfl ?_
                    refine jg_bipush (v := nI 80) dX11_ship_105 (by decide) ?_
                    obtain ⟨x170, e_x170, h⟩ := bd_some h
                    rcases x170 with y171 | z172
                    · replace h := se_l h
                      refine cs_callS (As := [.int (s.1 (o + 37) 3), .int (nI 80)]) ks_X11_82 dX11_ship_107 rfl (by decide) (Nat.le_of_ble_eq_true rfl) rfl (by decide) (Nat.le_of_ble_eq_true rfl) (t_X11_needRoom τ n s (s.1 (o + 37) 3) (nI 80) e_x170) ?_
                      refine jg_aload_n dX11_ship_110 rfl ?_
                      refine cs_get (s := s) (w := .ref (o + 10)) fl_X11_27 dX11_ship_111 hO.ob0 rfl ?_
                      refine cs_get (s := s) (w := .ref (o + 37)) fl_X11_123 dX11_ship_114 hO.1.ob0 rfl ?_
                      refine cs_get (s := s) (w := .ref (o + 49)) fl_X11_157 dX11_ship_117 (hO.1.ob 27 (by decide) rfl) rfl ?_
                      refine jg_aload_n dX11_ship_120 rfl ?_
                      refine cs_get (s := s) (w := .ref (o + 10)) fl_X11_27 dX11_ship_121 hO.ob0 rfl ?_
                      refine cs_get (s := s) (w := .ref (o + 37)) fl_X11_123 dX11_ship_124 hO.1.ob0 rfl ?_
                      refine cs_get (s := s) (w := .int (s.1 (o + 37) 3)) fl_X11_154 dX11_ship_127 (hO.1.ob 27 (by decide) rfl) rfl ?_
                      obtain ⟨q173, h⟩ := gd_some h
                      refine cs_ldr (s := s) (q := (o + 49)) (i := (s.1 (o + 37) 3)) (kd := 6) (by decide) dX11_ship_130 (hO.1.ar 39 (by decide) rfl) q173 ?_
                      refine jg_astore (L' := [some (.ref o), some (.int a1), some (.int a2), some (.int a3), some (.int a4), some (.int a5), some (.int a6), some (.int a7), some (.int a8), some (.ref (o + 49 + 1 + (s.1 (o + 37) 3).toNatClampNeg))]) dX11_ship_131 (by decide) rfl ?_
                      refine jg_aload dX11_ship_133 rfl ?_
                      refine jg_iload_n dX11_ship_135 rfl ?_
                      refine jg_iload_n dX11_ship_136 rfl ?_
                      refine jg_iload dX11_ship_137 rfl ?_
                      refine jg_iload dX11_ship_139 rfl ?_
                      obtain ⟨x174, e_x174, h⟩ := bd_some h
                      refine cs_call (q := (o + 49 + 1 + (s.1 (o + 37) 3).toNatClampNeg)) (As := [.int a2, .int a3, .int a4, .int a7]) kv_X11_161 dX11_ship_141 (hO.1.ship q173.2) rfl rfl (by decide) (Nat.le_of_ble_eq_true rfl) rfl (by decide) (Nat.le_of_ble_eq_true rfl) (t_X9_build τ n (o + 49 + 1 + (s.1 (o + 37) 3).toNatClampNeg) s a2 a3 a4 a7 (hO.1.ship q173.2) e_x174) ?_
                      refine jg_aload dX11_ship_144 rfl ?_
                      refine jg_iload dX11_ship_146 rfl ?_
                      refine cs_put (s := x174) (k := 4) (x := a5) fl_X11_167 dX11_ship_148 (hO.1.ship q173.2) (ltb rfl) (rfl) rfl rfl ?_
                      refine jg_aload dX11_ship_151 rfl ?_
                      refine jg_iload dX11_ship_153 rfl ?_
                      refine cs_put (s := (cp x174 (o + 49 + 1 + (s.1 (o + 37) 3).toNatClampNeg) 4 a5)) (k := 5) (x := a6) fl_X11_170 dX11_ship_155 (hO.1.ship q173.2) (ltb rfl) (rfl) rfl rfl ?_
                      obtain ⟨x175, e_x175, h⟩ := bd_some h
                      refine cs_sub (Option.some.inj e_x175) ?_
                      refine jg_aload dX11_ship_158 rfl ?_
                      refine jg_iload_n dX11_ship_160 rfl ?_
                      refine cs_put (s := x175) (k := 6) (x := a1) fl_X11_173 dX11_ship_161 (hO.1.ship q173.2) (ltb rfl) (rfl) rfl rfl ?_
                      refine jg_aload dX11_ship_164 rfl ?_
                      refine jg_iload dX11_ship_166 rfl ?_
                      refine cs_put (s := (cp x175 (o + 49 + 1 + (s.1 (o + 37) 3).toNatClampNeg) 6 a1)) (k := 7) (x := a8) fl_X11_176 dX11_ship_168 (hO.1.ship q173.2) (ltb rfl) (rfl) rfl rfl ?_
                      obtain ⟨x176, e_x176, h⟩ := bd_some h
                      refine cs_sub (Option.some.inj e_x176) ?_
                      refine jg_aload dX11_ship_171 rfl ?_
                      refine jg_aload_n dX11_ship_173 rfl ?_
                      refine cs_get (s := x176) (w := .ref (o + 10)) fl_X11_27 dX11_ship_174 hO.ob0 rfl ?_
                      refine cs_get (s := x176) (w := .int (x176.1 (o + 10) 0)) fl_X11_49 dX11_ship_177 hO.1.ob0 rfl ?_
                      refine jg_aload_n dX11_ship_180 rfl ?_
                      refine cs_get (s := x176) (w := .ref (o + 10)) fl_X11_27 dX11_ship_181 hO.ob0 rfl ?_
                      obtain ⟨x177, e_x177, h⟩ := bd_some h
                      refine cs_call (q := (o + 10)) (As := []) kv_X11_179 dX11_ship_184 hO.1.ob0 rfl rfl (by decide) (Nat.le_of_ble_eq_true rfl) rfl (by decide) (Nat.le_of_ble_eq_true rfl) (t_X2_actOfToday F τ n (o + 10) x176 hO.1 e_x177) ?_
                      obtain ⟨q178, h⟩ := gd_some h
                      obtain ⟨x179, e_x179, h⟩ := bd_some h
                      refine cs_call (q := (o + 49 + 1 + (s.1 (o + 37) 3).toNatClampNeg)) (As := [.int (x176.1 (o + 10) 0), .ref x177]) kv_X11_183 dX11_ship_187 (hO.1.ship q173.2) rfl rfl (by decide) (Nat.le_of_ble_eq_true rfl) rfl (by decide) (Nat.le_of_ble_eq_true rfl) (t_X9_come τ n (o + 49 + 1 + (s.1 (o + 37) 3).toNatClampNeg) x177 x176 (x176.1 (o + 10) 0) (hO.1.ship q173.2) q178 e_x179) ?_
                      refine jg_aload_n dX11_ship_190 rfl ?_
                      refine cs_get (s := x179) (w := .ref (o + 10)) fl_X11_27 dX11_ship_191 hO.ob0 rfl ?_
                      refine cs_get (s := x179) (w := .ref (o + 37)) fl_X11_123 dX11_ship_194 hO.1.ob0 rfl ?_
                      refine jg_dup dX11_ship_197 rfl ?_
                      refine cs_get (s := x179) (w := .int (x179.1 (o + 37) 3)) fl_X11_154 dX11_ship_198 (hO.1.ob 27 (by decide) rfl) rfl ?_
                      refine jg_iconst (v := nI 1) dX11_ship_201 (by decide) ?_
                      refine jg_iadd (x := (x179.1 (o + 37) 3)) (y := (nI 1)) dX11_ship_202  ?_
                      refine cs_put (s := x179) (k := 3) (x := ((x179.1 (o + 37) 3) + (nI 1))) fl_X11_154 dX11_ship_203 (hO.1.ob 27 (by decide) rfl) (ltb rfl) (rfl) rfl rfl ?_
                      refine jg_aload_n dX11_ship_206 rfl ?_
                      refine cs_get (s := (cp x179 (o + 37) 3 ((x179.1 (o + 37) 3) + (nI 1)))) (w := .ref (o + 10)) fl_X11_27 dX11_ship_207 hO.ob0 rfl ?_
                      refine cs_get (s := (cp x179 (o + 37) 3 ((x179.1 (o + 37) 3) + (nI 1)))) (w := .ref (o + 37)) fl_X11_123 dX11_ship_210 hO.1.ob0 rfl ?_
                      refine cs_get (s := (cp x179 (o + 37) 3 ((x179.1 (o + 37) 3) + (nI 1)))) (w := .int ((cp x179 (o + 37) 3 ((x179.1 (o + 37) 3) + (nI 1))).1 (o + 37) 3)) fl_X11_154 dX11_ship_213 (hO.1.ob 27 (by decide) rfl) rfl ?_
                      refine jg_iconst (v := nI 1) dX11_ship_216 (by decide) ?_
                      refine jg_isub (x := ((cp x179 (o + 37) 3 ((x179.1 (o + 37) 3) + (nI 1))).1 (o + 37) 3)) (y := (nI 1)) dX11_ship_217  ?_
                      cases h
                    · replace h := se_r h
                      obtain rfl := Sum.inr.inj (Option.some.inj h)
                      exact jc_SX (As := [.int (s.1 (o + 37) 3), .int (nI 80)]) ks_X11_82 dX11_ship_107 rfl (by decide) (Nat.le_of_ble_eq_true rfl) rfl (by decide) (Nat.le_refl _) (Nat.le_refl _) (Nat.le_of_ble_eq_true rfl) (x_X11_needRoom τ n s (s.1 (o + 37) 3) (nI 80) hn hT e_x170) ⟨rfl, rfl⟩
                  · replace h := se_r h
                    obtain rfl := Sum.inr.inj (Option.some.inj h)
                    exact jc_SX (As := [.int (nI 0)]) ks_X11_45 dX11_ship_92 rfl (by decide) (Nat.le_of_ble_eq_true rfl) rfl (by decide) (Nat.le_refl _) (Nat.le_refl _) (Nat.le_of_ble_eq_true rfl) (x_X11_needArgument τ n s (nI 0) hn hT e_x167) ⟨rfl, rfl⟩
                · replace h := it_f c166 h
                  refine jg_iconst (v := nI 1) dX11_ship_87 (by decide) ?_
                  refine jg_goto (tgt := 92) dX11_ship_88 (by decide) ?_
                  obtain ⟨x180, e_x180, h⟩ := bd_some h
                  rcases x180 with y181 | z182
                  · replace h := se_l h
                    refine cs_callS (As := [.int (nI 1)]) ks_X11_45 dX11_ship_92 rfl (by decide) (Nat.le_of_ble_eq_true rfl) rfl (by decide) (Nat.le_of_ble_eq_true rfl) (t_X11_needArgument τ n s (nI 1) e_x180) ?_
                    refine jg_aload_n dX11_ship_95 rfl ?_
                    refine cs_get (s := s) (w := .ref (o + 10)) fl_X11_27 dX11_ship_96 hO.ob0 rfl ?_
                    refine cs_get (s := s) (w := .ref (o + 37)) fl_X11_123 dX11_ship_99 hO.1.ob0 rfl ?_
                    refine cs_get (s := s) (w := .int (s.1 (o + 37) 3)) fl_X11_154 dX11_ship_102 (hO.1.ob 27 (by decide) rfl) rfl ?_
                    refine jg_bipush (v := nI 80) dX11_ship_105 (by decide) ?_
                    obtain ⟨x183, e_x183, h⟩ := bd_some h
                    rcases x183 with y184 | z185
                    · replace h := se_l h
                      refine cs_callS (As := [.int (s.1 (o + 37) 3), .int (nI 80)]) ks_X11_82 dX11_ship_107 rfl (by decide) (Nat.le_of_ble_eq_true rfl) rfl (by decide) (Nat.le_of_ble_eq_true rfl) (t_X11_needRoom τ n s (s.1 (o + 37) 3) (nI 80) e_x183) ?_
                      refine jg_aload_n dX11_ship_110 rfl ?_
                      refine cs_get (s := s) (w := .ref (o + 10)) fl_X11_27 dX11_ship_111 hO.ob0 rfl ?_
                      refine cs_get (s := s) (w := .ref (o + 37)) fl_X11_123 dX11_ship_114 hO.1.ob0 rfl ?_
                      refine cs_get (s := s) (w := .ref (o + 49)) fl_X11_157 dX11_ship_117 (hO.1.ob 27 (by decide) rfl) rfl ?_
                      refine jg_aload_n dX11_ship_120 rfl ?_
                      refine cs_get (s := s) (w := .ref (o + 10)) fl_X11_27 dX11_ship_121 hO.ob0 rfl ?_
                      refine cs_get (s := s) (w := .ref (o + 37)) fl_X11_123 dX11_ship_124 hO.1.ob0 rfl ?_
                      refine cs_get (s := s) (w := .int (s.1 (o + 37) 3)) fl_X11_154 dX11_ship_127 (hO.1.ob 27 (by decide) rfl) rfl ?_
                      obtain ⟨q186, h⟩ := gd_some h
                      refine cs_ldr (s := s) (q := (o + 49)) (i := (s.1 (o + 37) 3)) (kd := 6) (by decide) dX11_ship_130 (hO.1.ar 39 (by decide) rfl) q186 ?_
                      refine jg_astore (L' := [some (.ref o), some (.int a1), some (.int a2), some (.int a3), some (.int a4), some (.int a5), some (.int a6), some (.int a7), some (.int a8), some (.ref (o + 49 + 1 + (s.1 (o + 37) 3).toNatClampNeg))]) dX11_ship_131 (by decide) rfl ?_
                      refine jg_aload dX11_ship_133 rfl ?_
                      refine jg_iload_n dX11_ship_135 rfl ?_
                      refine jg_iload_n dX11_ship_136 rfl ?_
                      refine jg_iload dX11_ship_137 rfl ?_
                      refine jg_iload dX11_ship_139 rfl ?_
                      obtain ⟨x187, e_x187, h⟩ := bd_some h
                      refine cs_call (q := (o + 49 + 1 + (s.1 (o + 37) 3).toNatClampNeg)) (As := [.int a2, .int a3, .int a4, .int a7]) kv_X11_161 dX11_ship_141 (hO.1.ship q186.2) rfl rfl (by decide) (Nat.le_of_ble_eq_true rfl) rfl (by decide) (Nat.le_of_ble_eq_true rfl) (t_X9_build τ n (o + 49 + 1 + (s.1 (o + 37) 3).toNatClampNeg) s a2 a3 a4 a7 (hO.1.ship q186.2) e_x187) ?_
                      refine jg_aload dX11_ship_144 rfl ?_
                      refine jg_iload dX11_ship_146 rfl ?_
                      refine cs_put (s := x187) (k := 4) (x := a5) fl_X11_167 dX11_ship_148 (hO.1.ship q186.2) (ltb rfl) (rfl) rfl rfl ?_
                      refine jg_aload dX11_ship_151 rfl ?_
                      refine jg_iload dX11_ship_153 rfl ?_
                      refine cs_put (s := (cp x187 (o + 49 + 1 + (s.1 (o + 37) 3).toNatClampNeg) 4 a5)) (k := 5) (x := a6) fl_X11_170 dX11_ship_155 (hO.1.ship q186.2) (ltb rfl) (rfl) rfl rfl ?_
                      obtain ⟨x188, e_x188, h⟩ := bd_some h
                      refine cs_sub (Option.some.inj e_x188) ?_
                      refine jg_aload dX11_ship_158 rfl ?_
                      refine jg_iload_n dX11_ship_160 rfl ?_
                      refine cs_put (s := x188) (k := 6) (x := a1) fl_X11_173 dX11_ship_161 (hO.1.ship q186.2) (ltb rfl) (rfl) rfl rfl ?_
                      refine jg_aload dX11_ship_164 rfl ?_
                      refine jg_iload dX11_ship_166 rfl ?_
                      refine cs_put (s := (cp x188 (o + 49 + 1 + (s.1 (o + 37) 3).toNatClampNeg) 6 a1)) (k := 7) (x := a8) fl_X11_176 dX11_ship_168 (hO.1.ship q186.2) (ltb rfl) (rfl) rfl rfl ?_
                      obtain ⟨x189, e_x189, h⟩ := bd_some h
                      refine cs_sub (Option.some.inj e_x189) ?_
                      refine jg_aload dX11_ship_171 rfl ?_
                      refine jg_aload_n dX11_ship_173 rfl ?_
                      refine cs_get (s := x189) (w := .ref (o + 10)) fl_X11_27 dX11_ship_174 hO.ob0 rfl ?_
                      refine cs_get (s := x189) (w := .int (x189.1 (o + 10) 0)) fl_X11_49 dX11_ship_177 hO.1.ob0 rfl ?_
                      refine jg_aload_n dX11_ship_180 rfl ?_
                      refine cs_get (s := x189) (w := .ref (o + 10)) fl_X11_27 dX11_ship_181 hO.ob0 rfl ?_
                      obtain ⟨x190, e_x190, h⟩ := bd_some h
                      refine cs_call (q := (o + 10)) (As := []) kv_X11_179 dX11_ship_184 hO.1.ob0 rfl rfl (by decide) (Nat.le_of_ble_eq_true rfl) rfl (by decide) (Nat.le_of_ble_eq_true rfl) (t_X2_actOfToday F τ n (o + 10) x189 hO.1 e_x190) ?_
                      obtain ⟨q191, h⟩ := gd_some h
                      obtain ⟨x192, e_x192, h⟩ := bd_some h
                      refine cs_call (q := (o + 49 + 1 + (s.1 (o + 37) 3).toNatClampNeg)) (As := [.int (x189.1 (o + 10) 0), .ref x190]) kv_X11_183 dX11_ship_187 (hO.1.ship q186.2) rfl rfl (by decide) (Nat.le_of_ble_eq_true rfl) rfl (by decide) (Nat.le_of_ble_eq_true rfl) (t_X9_come τ n (o + 49 + 1 + (s.1 (o + 37) 3).toNatClampNeg) x190 x189 (x189.1 (o + 10) 0) (hO.1.ship q186.2) q191 e_x192) ?_
                      refine jg_aload_n dX11_ship_190 rfl ?_
                      refine cs_get (s := x192) (w := .ref (o + 10)) fl_X11_27 dX11_ship_191 hO.ob0 rfl ?_
                      refine cs_get (s := x192) (w := .ref (o + 37)) fl_X11_123 dX11_ship_194 hO.1.ob0 rfl ?_
                      refine jg_dup dX11_ship_197 rfl ?_
                      refine cs_get (s := x192) (w := .int (x192.1 (o + 37) 3)) fl_X11_154 dX11_ship_198 (hO.1.ob 27 (by decide) rfl) rfl ?_
                      refine jg_iconst (v := nI 1) dX11_ship_201 (by decide) ?_
                      refine jg_iadd (x := (x192.1 (o + 37) 3)) (y := (nI 1)) dX11_ship_202  ?_
                      refine cs_put (s := x192) (k := 3) (x := ((x192.1 (o + 37) 3) + (nI 1))) fl_X11_154 dX11_ship_203 (hO.1.ob 27 (by decide) rfl) (ltb rfl) (rfl) rfl rfl ?_
                      refine jg_aload_n dX11_ship_206 rfl ?_
                      refine cs_get (s := (cp x192 (o + 37) 3 ((x192.1 (o + 37) 3) + (nI 1)))) (w := .ref (o + 10)) fl_X11_27 dX11_ship_207 hO.ob0 rfl ?_
                      refine cs_get (s := (cp x192 (o + 37) 3 ((x192.1 (o + 37) 3) + (nI 1)))) (w := .ref (o + 37)) fl_X11_123 dX11_ship_210 hO.1.ob0 rfl ?_
                      refine cs_get (s := (cp x192 (o + 37) 3 ((x192.1 (o + 37) 3) + (nI 1)))) (w := .int ((cp x192 (o + 37) 3 ((x192.1 (o + 37) 3) + (nI 1))).1 (o + 37) 3)) fl_X11_154 dX11_ship_213 (hO.1.ob 27 (by decide) rfl) rfl ?_
                      refine jg_iconst (v := nI 1) dX11_ship_216 (by decide) ?_
                      refine jg_isub (x := ((cp x192 (o + 37) 3 ((x192.1 (o + 37) 3) + (nI 1))).1 (o + 37) 3)) (y := (nI 1)) dX11_ship_217  ?_
                      cases h
                    · replace h := se_r h
                      obtain rfl := Sum.inr.inj (Option.some.inj h)
                      exact jc_SX (As := [.int (s.1 (o + 37) 3), .int (nI 80)]) ks_X11_82 dX11_ship_107 rfl (by decide) (Nat.le_of_ble_eq_true rfl) rfl (by decide) (Nat.le_refl _) (Nat.le_refl _) (Nat.le_of_ble_eq_true rfl) (x_X11_needRoom τ n s (s.1 (o + 37) 3) (nI 80) hn hT e_x183) ⟨rfl, rfl⟩
                  · replace h := se_r h
                    obtain rfl := Sum.inr.inj (Option.some.inj h)
                    exact jc_SX (As := [.int (nI 1)]) ks_X11_45 dX11_ship_92 rfl (by decide) (Nat.le_of_ble_eq_true rfl) rfl (by decide) (Nat.le_refl _) (Nat.le_refl _) (Nat.le_of_ble_eq_true rfl) (x_X11_needArgument τ n s (nI 1) hn hT e_x180) ⟨rfl, rfl⟩
          · replace h := se_r h
            obtain rfl := Sum.inr.inj (Option.some.inj h)
            exact jc_SX (As := [.int (nI 0)]) ks_X11_45 dX11_ship_51 rfl (by decide) (Nat.le_of_ble_eq_true rfl) rfl (by decide) (Nat.le_refl _) (Nat.le_refl _) (Nat.le_of_ble_eq_true rfl) (x_X11_needArgument τ n s (nI 0) hn hT e_x132) ⟨rfl, rfl⟩
        · replace h := it_f c131 h
          refine jg_iconst (v := nI 1) dX11_ship_46 (by decide) ?_
          refine jg_goto (tgt := 51) dX11_ship_47 (by decide) ?_
          obtain ⟨x193, e_x193, h⟩ := bd_some h
          rcases x193 with y194 | z195
          · replace h := se_l h
            refine cs_callS (As := [.int (nI 1)]) ks_X11_45 dX11_ship_51 rfl (by decide) (Nat.le_of_ble_eq_true rfl) rfl (by decide) (Nat.le_of_ble_eq_true rfl) (t_X11_needArgument τ n s (nI 1) e_x193) ?_
            refine jg_iload dX11_ship_54 rfl ?_
            refine jg_iconst (v := nI 1) dX11_ship_56 (by decide) ?_
            refine jg_bipush (v := nI 80) dX11_ship_57 (by decide) ?_
            obtain ⟨x196, e_x196, h⟩ := bd_some h
            refine cs_callS (As := [.int a5, .int (nI 1), .int (nI 80)]) ks_X11_41 dX11_ship_59 rfl (by decide) (Nat.le_of_ble_eq_true rfl) rfl (by decide) (Nat.le_of_ble_eq_true rfl) (t_X11_within τ n s a5 (nI 1) (nI 80) e_x196) ?_
            refine jg_if_eq (x := x196) (tgt := 91) dX11_ship_62 (by decide) (fun c197 => ?_) (fun c197 => ?_)
            · replace h := it_t c197 h
              refine jg_iconst (v := nI 0) dX11_ship_91 (by decide) ?_
              obtain ⟨x198, e_x198, h⟩ := bd_some h
              rcases x198 with y199 | z200
              · replace h := se_l h
                refine cs_callS (As := [.int (nI 0)]) ks_X11_45 dX11_ship_92 rfl (by decide) (Nat.le_of_ble_eq_true rfl) rfl (by decide) (Nat.le_of_ble_eq_true rfl) (t_X11_needArgument τ n s (nI 0) e_x198) ?_
                refine jg_aload_n dX11_ship_95 rfl ?_
                refine cs_get (s := s) (w := .ref (o + 10)) fl_X11_27 dX11_ship_96 hO.ob0 rfl ?_
                refine cs_get (s := s) (w := .ref (o + 37)) fl_X11_123 dX11_ship_99 hO.1.ob0 rfl ?_
                refine cs_get (s := s) (w := .int (s.1 (o + 37) 3)) fl_X11_154 dX11_ship_102 (hO.1.ob 27 (by decide) rfl) rfl ?_
                refine jg_bipush (v := nI 80) dX11_ship_105 (by decide) ?_
                obtain ⟨x201, e_x201, h⟩ := bd_some h
                rcases x201 with y202 | z203
                · replace h := se_l h
                  refine cs_callS (As := [.int (s.1 (o + 37) 3), .int (nI 80)]) ks_X11_82 dX11_ship_107 rfl (by decide) (Nat.le_of_ble_eq_true rfl) rfl (by decide) (Nat.le_of_ble_eq_true rfl) (t_X11_needRoom τ n s (s.1 (o + 37) 3) (nI 80) e_x201) ?_
                  refine jg_aload_n dX11_ship_110 rfl ?_
                  refine cs_get (s := s) (w := .ref (o + 10)) fl_X11_27 dX11_ship_111 hO.ob0 rfl ?_
                  refine cs_get (s := s) (w := .ref (o + 37)) fl_X11_123 dX11_ship_114 hO.1.ob0 rfl ?_
                  refine cs_get (s := s) (w := .ref (o + 49)) fl_X11_157 dX11_ship_117 (hO.1.ob 27 (by decide) rfl) rfl ?_
                  refine jg_aload_n dX11_ship_120 rfl ?_
                  refine cs_get (s := s) (w := .ref (o + 10)) fl_X11_27 dX11_ship_121 hO.ob0 rfl ?_
                  refine cs_get (s := s) (w := .ref (o + 37)) fl_X11_123 dX11_ship_124 hO.1.ob0 rfl ?_
                  refine cs_get (s := s) (w := .int (s.1 (o + 37) 3)) fl_X11_154 dX11_ship_127 (hO.1.ob 27 (by decide) rfl) rfl ?_
                  obtain ⟨q204, h⟩ := gd_some h
                  refine cs_ldr (s := s) (q := (o + 49)) (i := (s.1 (o + 37) 3)) (kd := 6) (by decide) dX11_ship_130 (hO.1.ar 39 (by decide) rfl) q204 ?_
                  refine jg_astore (L' := [some (.ref o), some (.int a1), some (.int a2), some (.int a3), some (.int a4), some (.int a5), some (.int a6), some (.int a7), some (.int a8), some (.ref (o + 49 + 1 + (s.1 (o + 37) 3).toNatClampNeg))]) dX11_ship_131 (by decide) rfl ?_
                  refine jg_aload dX11_ship_133 rfl ?_
                  refine jg_iload_n dX11_ship_135 rfl ?_
                  refine jg_iload_n dX11_ship_136 rfl ?_
                  refine jg_iload dX11_ship_137 rfl ?_
                  refine jg_iload dX11_ship_139 rfl ?_
                  obtain ⟨x205, e_x205, h⟩ := bd_some h
                  refine cs_call (q := (o + 49 + 1 + (s.1 (o + 37) 3).toNatClampNeg)) (As := [.int a2, .int a3, .int a4, .int a7]) kv_X11_161 dX11_ship_141 (hO.1.ship q204.2) rfl rfl (by decide) (Nat.le_of_ble_eq_true rfl) rfl (by decide) (Nat.le_of_ble_eq_true rfl) (t_X9_build τ n (o + 49 + 1 + (s.1 (o + 37) 3).toNatClampNeg) s a2 a3 a4 a7 (hO.1.ship q204.2) e_x205) ?_
                  refine jg_aload dX11_ship_144 rfl ?_
                  refine jg_iload dX11_ship_146 rfl ?_
                  refine cs_put (s := x205) (k := 4) (x := a5) fl_X11_167 dX11_ship_148 (hO.1.ship q204.2) (ltb rfl) (rfl) rfl rfl ?_
                  refine jg_aload dX11_ship_151 rfl ?_
                  refine jg_iload dX11_ship_153 rfl ?_
                  refine cs_put (s := (cp x205 (o + 49 + 1 + (s.1 (o + 37) 3).toNatClampNeg) 4 a5)) (k := 5) (x := a6) fl_X11_170 dX11_ship_155 (hO.1.ship q204.2) (ltb rfl) (rfl) rfl rfl ?_
                  obtain ⟨x206, e_x206, h⟩ := bd_some h
                  refine cs_sub (Option.some.inj e_x206) ?_
                  refine jg_aload dX11_ship_158 rfl ?_
                  refine jg_iload_n dX11_ship_160 rfl ?_
                  refine cs_put (s := x206) (k := 6) (x := a1) fl_X11_173 dX11_ship_161 (hO.1.ship q204.2) (ltb rfl) (rfl) rfl rfl ?_
                  refine jg_aload dX11_ship_164 rfl ?_
                  refine jg_iload dX11_ship_166 rfl ?_
                  refine cs_put (s := (cp x206 (o + 49 + 1 + (s.1 (o + 37) 3).toNatClampNeg) 6 a1)) (k := 7) (x := a8) fl_X11_176 dX11_ship_168 (hO.1.ship q204.2) (ltb rfl) (rfl) rfl rfl ?_
                  obtain ⟨x207, e_x207, h⟩ := bd_some h
                  refine cs_sub (Option.some.inj e_x207) ?_
                  refine jg_aload dX11_ship_171 rfl ?_
                  refine jg_aload_n dX11_ship_173 rfl ?_
                  refine cs_get (s := x207) (w := .ref (o + 10)) fl_X11_27 dX11_ship_174 hO.ob0 rfl ?_
                  refine cs_get (s := x207) (w := .int (x207.1 (o + 10) 0)) fl_X11_49 dX11_ship_177 hO.1.ob0 rfl ?_
                  refine jg_aload_n dX11_ship_180 rfl ?_
                  refine cs_get (s := x207) (w := .ref (o + 10)) fl_X11_27 dX11_ship_181 hO.ob0 rfl ?_
                  obtain ⟨x208, e_x208, h⟩ := bd_some h
                  refine cs_call (q := (o + 10)) (As := []) kv_X11_179 dX11_ship_184 hO.1.ob0 rfl rfl (by decide) (Nat.le_of_ble_eq_true rfl) rfl (by decide) (Nat.le_of_ble_eq_true rfl) (t_X2_actOfToday F τ n (o + 10) x207 hO.1 e_x208) ?_
                  obtain ⟨q209, h⟩ := gd_some h
                  obtain ⟨x210, e_x210, h⟩ := bd_some h
                  refine cs_call (q := (o + 49 + 1 + (s.1 (o + 37) 3).toNatClampNeg)) (As := [.int (x207.1 (o + 10) 0), .ref x208]) kv_X11_183 dX11_ship_187 (hO.1.ship q204.2) rfl rfl (by decide) (Nat.le_of_ble_eq_true rfl) rfl (by decide) (Nat.le_of_ble_eq_true rfl) (t_X9_come τ n (o + 49 + 1 + (s.1 (o + 37) 3).toNatClampNeg) x208 x207 (x207.1 (o + 10) 0) (hO.1.ship q204.2) q209 e_x210) ?_
                  refine jg_aload_n dX11_ship_190 rfl ?_
                  refine cs_get (s := x210) (w := .ref (o + 10)) fl_X11_27 dX11_ship_191 hO.ob0 rfl ?_
                  refine cs_get (s := x210) (w := .ref (o + 37)) fl_X11_123 dX11_ship_194 hO.1.ob0 rfl ?_
                  refine jg_dup dX11_ship_197 rfl ?_
                  refine cs_get (s := x210) (w := .int (x210.1 (o + 37) 3)) fl_X11_154 dX11_ship_198 (hO.1.ob 27 (by decide) rfl) rfl ?_
                  refine jg_iconst (v := nI 1) dX11_ship_201 (by decide) ?_
                  refine jg_iadd (x := (x210.1 (o + 37) 3)) (y := (nI 1)) dX11_ship_202  ?_
                  refine cs_put (s := x210) (k := 3) (x := ((x210.1 (o + 37) 3) + (nI 1))) fl_X11_154 dX11_ship_203 (hO.1.ob 27 (by decide) rfl) (ltb rfl) (rfl) rfl rfl ?_
                  refine jg_aload_n dX11_ship_206 rfl ?_
                  refine cs_get (s := (cp x210 (o + 37) 3 ((x210.1 (o + 37) 3) + (nI 1)))) (w := .ref (o + 10)) fl_X11_27 dX11_ship_207 hO.ob0 rfl ?_
                  refine cs_get (s := (cp x210 (o + 37) 3 ((x210.1 (o + 37) 3) + (nI 1)))) (w := .ref (o + 37)) fl_X11_123 dX11_ship_210 hO.1.ob0 rfl ?_
                  refine cs_get (s := (cp x210 (o + 37) 3 ((x210.1 (o + 37) 3) + (nI 1)))) (w := .int ((cp x210 (o + 37) 3 ((x210.1 (o + 37) 3) + (nI 1))).1 (o + 37) 3)) fl_X11_154 dX11_ship_213 (hO.1.ob 27 (by decide) rfl) rfl ?_
                  refine jg_iconst (v := nI 1) dX11_ship_216 (by decide) ?_
                  refine jg_isub (x := ((cp x210 (o + 37) 3 ((x210.1 (o + 37) 3) + (nI 1))).1 (o + 37) 3)) (y := (nI 1)) dX11_ship_217  ?_
                  cases h
                · replace h := se_r h
                  obtain rfl := Sum.inr.inj (Option.some.inj h)
                  exact jc_SX (As := [.int (s.1 (o + 37) 3), .int (nI 80)]) ks_X11_82 dX11_ship_107 rfl (by decide) (Nat.le_of_ble_eq_true rfl) rfl (by decide) (Nat.le_refl _) (Nat.le_refl _) (Nat.le_of_ble_eq_true rfl) (x_X11_needRoom τ n s (s.1 (o + 37) 3) (nI 80) hn hT e_x201) ⟨rfl, rfl⟩
              · replace h := se_r h
                obtain rfl := Sum.inr.inj (Option.some.inj h)
                exact jc_SX (As := [.int (nI 0)]) ks_X11_45 dX11_ship_92 rfl (by decide) (Nat.le_of_ble_eq_true rfl) rfl (by decide) (Nat.le_refl _) (Nat.le_refl _) (Nat.le_of_ble_eq_true rfl) (x_X11_needArgument τ n s (nI 0) hn hT e_x198) ⟨rfl, rfl⟩
            · replace h := it_f c197 h
              refine jg_iload dX11_ship_65 rfl ?_
              refine jg_iconst (v := nI 1) dX11_ship_67 (by decide) ?_
              refine jg_bipush (v := nI 80) dX11_ship_68 (by decide) ?_
              obtain ⟨x211, e_x211, h⟩ := bd_some h
              refine cs_callS (As := [.int a6, .int (nI 1), .int (nI 80)]) ks_X11_41 dX11_ship_70 rfl (by decide) (Nat.le_of_ble_eq_true rfl) rfl (by decide) (Nat.le_of_ble_eq_true rfl) (t_X11_within τ n s a6 (nI 1) (nI 80) e_x211) ?_
              refine jg_if_eq (x := x211) (tgt := 91) dX11_ship_73 (by decide) (fun c212 => ?_) (fun c212 => ?_)
              · replace h := it_t c212 h
                refine jg_iconst (v := nI 0) dX11_ship_91 (by decide) ?_
                obtain ⟨x213, e_x213, h⟩ := bd_some h
                rcases x213 with y214 | z215
                · replace h := se_l h
                  refine cs_callS (As := [.int (nI 0)]) ks_X11_45 dX11_ship_92 rfl (by decide) (Nat.le_of_ble_eq_true rfl) rfl (by decide) (Nat.le_of_ble_eq_true rfl) (t_X11_needArgument τ n s (nI 0) e_x213) ?_
                  refine jg_aload_n dX11_ship_95 rfl ?_
                  refine cs_get (s := s) (w := .ref (o + 10)) fl_X11_27 dX11_ship_96 hO.ob0 rfl ?_
                  refine cs_get (s := s) (w := .ref (o + 37)) fl_X11_123 dX11_ship_99 hO.1.ob0 rfl ?_
                  refine cs_get (s := s) (w := .int (s.1 (o + 37) 3)) fl_X11_154 dX11_ship_102 (hO.1.ob 27 (by decide) rfl) rfl ?_
                  refine jg_bipush (v := nI 80) dX11_ship_105 (by decide) ?_
                  obtain ⟨x216, e_x216, h⟩ := bd_some h
                  rcases x216 with y217 | z218
                  · replace h := se_l h
                    refine cs_callS (As := [.int (s.1 (o + 37) 3), .int (nI 80)]) ks_X11_82 dX11_ship_107 rfl (by decide) (Nat.le_of_ble_eq_true rfl) rfl (by decide) (Nat.le_of_ble_eq_true rfl) (t_X11_needRoom τ n s (s.1 (o + 37) 3) (nI 80) e_x216) ?_
                    refine jg_aload_n dX11_ship_110 rfl ?_
                    refine cs_get (s := s) (w := .ref (o + 10)) fl_X11_27 dX11_ship_111 hO.ob0 rfl ?_
                    refine cs_get (s := s) (w := .ref (o + 37)) fl_X11_123 dX11_ship_114 hO.1.ob0 rfl ?_
                    refine cs_get (s := s) (w := .ref (o + 49)) fl_X11_157 dX11_ship_117 (hO.1.ob 27 (by decide) rfl) rfl ?_
                    refine jg_aload_n dX11_ship_120 rfl ?_
                    refine cs_get (s := s) (w := .ref (o + 10)) fl_X11_27 dX11_ship_121 hO.ob0 rfl ?_
                    refine cs_get (s := s) (w := .ref (o + 37)) fl_X11_123 dX11_ship_124 hO.1.ob0 rfl ?_
                    refine cs_get (s := s) (w := .int (s.1 (o + 37) 3)) fl_X11_154 dX11_ship_127 (hO.1.ob 27 (by decide) rfl) rfl ?_
                    obtain ⟨q219, h⟩ := gd_some h
                    refine cs_ldr (s := s) (q := (o + 49)) (i := (s.1 (o + 37) 3)) (kd := 6) (by decide) dX11_ship_130 (hO.1.ar 39 (by decide) rfl) q219 ?_
                    refine jg_astore (L' := [some (.ref o), some (.int a1), some (.int a2), some (.int a3), some (.int a4), some (.int a5), some (.int a6), some (.int a7), some (.int a8), some (.ref (o + 49 + 1 + (s.1 (o + 37) 3).toNatClampNeg))]) dX11_ship_131 (by decide) rfl ?_
                    refine jg_aload dX11_ship_133 rfl ?_
                    refine jg_iload_n dX11_ship_135 rfl ?_
                    refine jg_iload_n dX11_ship_136 rfl ?_
                    refine jg_iload dX11_ship_137 rfl ?_
                    refine jg_iload dX11_ship_139 rfl ?_
                    obtain ⟨x220, e_x220, h⟩ := bd_some h
                    refine cs_call (q := (o + 49 + 1 + (s.1 (o + 37) 3).toNatClampNeg)) (As := [.int a2, .int a3, .int a4, .int a7]) kv_X11_161 dX11_ship_141 (hO.1.ship q219.2) rfl rfl (by decide) (Nat.le_of_ble_eq_true rfl) rfl (by decide) (Nat.le_of_ble_eq_true rfl) (t_X9_build τ n (o + 49 + 1 + (s.1 (o + 37) 3).toNatClampNeg) s a2 a3 a4 a7 (hO.1.ship q219.2) e_x220) ?_
                    refine jg_aload dX11_ship_144 rfl ?_
                    refine jg_iload dX11_ship_146 rfl ?_
                    refine cs_put (s := x220) (k := 4) (x := a5) fl_X11_167 dX11_ship_148 (hO.1.ship q219.2) (ltb rfl) (rfl) rfl rfl ?_
                    refine jg_aload dX11_ship_151 rfl ?_
                    refine jg_iload dX11_ship_153 rfl ?_
                    refine cs_put (s := (cp x220 (o + 49 + 1 + (s.1 (o + 37) 3).toNatClampNeg) 4 a5)) (k := 5) (x := a6) fl_X11_170 dX11_ship_155 (hO.1.ship q219.2) (ltb rfl) (rfl) rfl rfl ?_
                    obtain ⟨x221, e_x221, h⟩ := bd_some h
                    refine cs_sub (Option.some.inj e_x221) ?_
                    refine jg_aload dX11_ship_158 rfl ?_
                    refine jg_iload_n dX11_ship_160 rfl ?_
                    refine cs_put (s := x221) (k := 6) (x := a1) fl_X11_173 dX11_ship_161 (hO.1.ship q219.2) (ltb rfl) (rfl) rfl rfl ?_
                    refine jg_aload dX11_ship_164 rfl ?_
                    refine jg_iload dX11_ship_166 rfl ?_
                    refine cs_put (s := (cp x221 (o + 49 + 1 + (s.1 (o + 37) 3).toNatClampNeg) 6 a1)) (k := 7) (x := a8) fl_X11_176 dX11_ship_168 (hO.1.ship q219.2) (ltb rfl) (rfl) rfl rfl ?_
                    obtain ⟨x222, e_x222, h⟩ := bd_some h
                    refine cs_sub (Option.some.inj e_x222) ?_
                    refine jg_aload dX11_ship_171 rfl ?_
                    refine jg_aload_n dX11_ship_173 rfl ?_
                    refine cs_get (s := x222) (w := .ref (o + 10)) fl_X11_27 dX11_ship_174 hO.ob0 rfl ?_
                    refine cs_get (s := x222) (w := .int (x222.1 (o + 10) 0)) fl_X11_49 dX11_ship_177 hO.1.ob0 rfl ?_
                    refine jg_aload_n dX11_ship_180 rfl ?_
                    refine cs_get (s := x222) (w := .ref (o + 10)) fl_X11_27 dX11_ship_181 hO.ob0 rfl ?_
                    obtain ⟨x223, e_x223, h⟩ := bd_some h
                    refine cs_call (q := (o + 10)) (As := []) kv_X11_179 dX11_ship_184 hO.1.ob0 rfl rfl (by decide) (Nat.le_of_ble_eq_true rfl) rfl (by decide) (Nat.le_of_ble_eq_true rfl) (t_X2_actOfToday F τ n (o + 10) x222 hO.1 e_x223) ?_
                    obtain ⟨q224, h⟩ := gd_some h
                    obtain ⟨x225, e_x225, h⟩ := bd_some h
                    refine cs_call (q := (o + 49 + 1 + (s.1 (o + 37) 3).toNatClampNeg)) (As := [.int (x222.1 (o + 10) 0), .ref x223]) kv_X11_183 dX11_ship_187 (hO.1.ship q219.2) rfl rfl (by decide) (Nat.le_of_ble_eq_true rfl) rfl (by decide) (Nat.le_of_ble_eq_true rfl) (t_X9_come τ n (o + 49 + 1 + (s.1 (o + 37) 3).toNatClampNeg) x223 x222 (x222.1 (o + 10) 0) (hO.1.ship q219.2) q224 e_x225) ?_
                    refine jg_aload_n dX11_ship_190 rfl ?_
                    refine cs_get (s := x225) (w := .ref (o + 10)) fl_X11_27 dX11_ship_191 hO.ob0 rfl ?_
                    refine cs_get (s := x225) (w := .ref (o + 37)) fl_X11_123 dX11_ship_194 hO.1.ob0 rfl ?_
                    refine jg_dup dX11_ship_197 rfl ?_
                    refine cs_get (s := x225) (w := .int (x225.1 (o + 37) 3)) fl_X11_154 dX11_ship_198 (hO.1.ob 27 (by decide) rfl) rfl ?_
                    refine jg_iconst (v := nI 1) dX11_ship_201 (by decide) ?_
                    refine jg_iadd (x := (x225.1 (o + 37) 3)) (y := (nI 1)) dX11_ship_202  ?_
                    refine cs_put (s := x225) (k := 3) (x := ((x225.1 (o + 37) 3) + (nI 1))) fl_X11_154 dX11_ship_203 (hO.1.ob 27 (by decide) rfl) (ltb rfl) (rfl) rfl rfl ?_
                    refine jg_aload_n dX11_ship_206 rfl ?_
                    refine cs_get (s := (cp x225 (o + 37) 3 ((x225.1 (o + 37) 3) + (nI 1)))) (w := .ref (o + 10)) fl_X11_27 dX11_ship_207 hO.ob0 rfl ?_
                    refine cs_get (s := (cp x225 (o + 37) 3 ((x225.1 (o + 37) 3) + (nI 1)))) (w := .ref (o + 37)) fl_X11_123 dX11_ship_210 hO.1.ob0 rfl ?_
                    refine cs_get (s := (cp x225 (o + 37) 3 ((x225.1 (o + 37) 3) + (nI 1)))) (w := .int ((cp x225 (o + 37) 3 ((x225.1 (o + 37) 3) + (nI 1))).1 (o + 37) 3)) fl_X11_154 dX11_ship_213 (hO.1.ob 27 (by decide) rfl) rfl ?_
                    refine jg_iconst (v := nI 1) dX11_ship_216 (by decide) ?_
                    refine jg_isub (x := ((cp x225 (o + 37) 3 ((x225.1 (o + 37) 3) + (nI 1))).1 (o + 37) 3)) (y := (nI 1)) dX11_ship_217  ?_
                    cases h
                  · replace h := se_r h
                    obtain rfl := Sum.inr.inj (Option.some.inj h)
                    exact jc_SX (As := [.int (s.1 (o + 37) 3), .int (nI 80)]) ks_X11_82 dX11_ship_107 rfl (by decide) (Nat.le_of_ble_eq_true rfl) rfl (by decide) (Nat.le_refl _) (Nat.le_refl _) (Nat.le_of_ble_eq_true rfl) (x_X11_needRoom τ n s (s.1 (o + 37) 3) (nI 80) hn hT e_x216) ⟨rfl, rfl⟩
                · replace h := se_r h
                  obtain rfl := Sum.inr.inj (Option.some.inj h)
                  exact jc_SX (As := [.int (nI 0)]) ks_X11_45 dX11_ship_92 rfl (by decide) (Nat.le_of_ble_eq_true rfl) rfl (by decide) (Nat.le_refl _) (Nat.le_refl _) (Nat.le_of_ble_eq_true rfl) (x_X11_needArgument τ n s (nI 0) hn hT e_x213) ⟨rfl, rfl⟩
              · replace h := it_f c212 h
                refine jg_iload dX11_ship_76 rfl ?_
                refine jg_iconst (v := nI 0) dX11_ship_78 (by decide) ?_
                refine jg_ldc kk_X11_153 dX11_ship_79 ?_
                rw [show (1000000 : Int32) = nI 1000000 from rfl]
                obtain ⟨x226, e_x226, h⟩ := bd_some h
                refine cs_callS (As := [.int a8, .int (nI 0), .int (nI 1000000)]) ks_X11_41 dX11_ship_81 rfl (by decide) (Nat.le_of_ble_eq_true rfl) rfl (by decide) (Nat.le_of_ble_eq_true rfl) (t_X11_within τ n s a8 (nI 0) (nI 1000000) e_x226) ?_
                refine jg_if_eq (x := x226) (tgt := 91) dX11_ship_84 (by decide) (fun c227 => ?_) (fun c227 => ?_)
                · replace h := it_t c227 h
                  refine jg_iconst (v := nI 0) dX11_ship_91 (by decide) ?_
                  obtain ⟨x228, e_x228, h⟩ := bd_some h
                  rcases x228 with y229 | z230
                  · replace h := se_l h
                    refine cs_callS (As := [.int (nI 0)]) ks_X11_45 dX11_ship_92 rfl (by decide) (Nat.le_of_ble_eq_true rfl) rfl (by decide) (Nat.le_of_ble_eq_true rfl) (t_X11_needArgument τ n s (nI 0) e_x228) ?_
                    refine jg_aload_n dX11_ship_95 rfl ?_
                    refine cs_get (s := s) (w := .ref (o + 10)) fl_X11_27 dX11_ship_96 hO.ob0 rfl ?_
                    refine cs_get (s := s) (w := .ref (o + 37)) fl_X11_123 dX11_ship_99 hO.1.ob0 rfl ?_
                    refine cs_get (s := s) (w := .int (s.1 (o + 37) 3)) fl_X11_154 dX11_ship_102 (hO.1.ob 27 (by decide) rfl) rfl ?_
                    refine jg_bipush (v := nI 80) dX11_ship_105 (by decide) ?_
                    obtain ⟨x231, e_x231, h⟩ := bd_some h
                    rcases x231 with y232 | z233
                    · replace h := se_l h
                      refine cs_callS (As := [.int (s.1 (o + 37) 3), .int (nI 80)]) ks_X11_82 dX11_ship_107 rfl (by decide) (Nat.le_of_ble_eq_true rfl) rfl (by decide) (Nat.le_of_ble_eq_true rfl) (t_X11_needRoom τ n s (s.1 (o + 37) 3) (nI 80) e_x231) ?_
                      refine jg_aload_n dX11_ship_110 rfl ?_
                      refine cs_get (s := s) (w := .ref (o + 10)) fl_X11_27 dX11_ship_111 hO.ob0 rfl ?_
                      refine cs_get (s := s) (w := .ref (o + 37)) fl_X11_123 dX11_ship_114 hO.1.ob0 rfl ?_
                      refine cs_get (s := s) (w := .ref (o + 49)) fl_X11_157 dX11_ship_117 (hO.1.ob 27 (by decide) rfl) rfl ?_
                      refine jg_aload_n dX11_ship_120 rfl ?_
                      refine cs_get (s := s) (w := .ref (o + 10)) fl_X11_27 dX11_ship_121 hO.ob0 rfl ?_
                      refine cs_get (s := s) (w := .ref (o + 37)) fl_X11_123 dX11_ship_124 hO.1.ob0 rfl ?_
                      refine cs_get (s := s) (w := .int (s.1 (o + 37) 3)) fl_X11_154 dX11_ship_127 (hO.1.ob 27 (by decide) rfl) rfl ?_
                      obtain ⟨q234, h⟩ := gd_some h
                      refine cs_ldr (s := s) (q := (o + 49)) (i := (s.1 (o + 37) 3)) (kd := 6) (by decide) dX11_ship_130 (hO.1.ar 39 (by decide) rfl) q234 ?_
                      refine jg_astore (L' := [some (.ref o), some (.int a1), some (.int a2), some (.int a3), some (.int a4), some (.int a5), some (.int a6), some (.int a7), some (.int a8), some (.ref (o + 49 + 1 + (s.1 (o + 37) 3).toNatClampNeg))]) dX11_ship_131 (by decide) rfl ?_
                      refine jg_aload dX11_ship_133 rfl ?_
                      refine jg_iload_n dX11_ship_135 rfl ?_
                      refine jg_iload_n dX11_ship_136 rfl ?_
                      refine jg_iload dX11_ship_137 rfl ?_
                      refine jg_iload dX11_ship_139 rfl ?_
                      obtain ⟨x235, e_x235, h⟩ := bd_some h
                      refine cs_call (q := (o + 49 + 1 + (s.1 (o + 37) 3).toNatClampNeg)) (As := [.int a2, .int a3, .int a4, .int a7]) kv_X11_161 dX11_ship_141 (hO.1.ship q234.2) rfl rfl (by decide) (Nat.le_of_ble_eq_true rfl) rfl (by decide) (Nat.le_of_ble_eq_true rfl) (t_X9_build τ n (o + 49 + 1 + (s.1 (o + 37) 3).toNatClampNeg) s a2 a3 a4 a7 (hO.1.ship q234.2) e_x235) ?_
                      refine jg_aload dX11_ship_144 rfl ?_
                      refine jg_iload dX11_ship_146 rfl ?_
                      refine cs_put (s := x235) (k := 4) (x := a5) fl_X11_167 dX11_ship_148 (hO.1.ship q234.2) (ltb rfl) (rfl) rfl rfl ?_
                      refine jg_aload dX11_ship_151 rfl ?_
                      refine jg_iload dX11_ship_153 rfl ?_
                      refine cs_put (s := (cp x235 (o + 49 + 1 + (s.1 (o + 37) 3).toNatClampNeg) 4 a5)) (k := 5) (x := a6) fl_X11_170 dX11_ship_155 (hO.1.ship q234.2) (ltb rfl) (rfl) rfl rfl ?_
                      obtain ⟨x236, e_x236, h⟩ := bd_some h
                      refine cs_sub (Option.some.inj e_x236) ?_
                      refine jg_aload dX11_ship_158 rfl ?_
                      refine jg_iload_n dX11_ship_160 rfl ?_
                      refine cs_put (s := x236) (k := 6) (x := a1) fl_X11_173 dX11_ship_161 (hO.1.ship q234.2) (ltb rfl) (rfl) rfl rfl ?_
                      refine jg_aload dX11_ship_164 rfl ?_
                      refine jg_iload dX11_ship_166 rfl ?_
                      refine cs_put (s := (cp x236 (o + 49 + 1 + (s.1 (o + 37) 3).toNatClampNeg) 6 a1)) (k := 7) (x := a8) fl_X11_176 dX11_ship_168 (hO.1.ship q234.2) (ltb rfl) (rfl) rfl rfl ?_
                      obtain ⟨x237, e_x237, h⟩ := bd_some h
                      refine cs_sub (Option.some.inj e_x237) ?_
                      refine jg_aload dX11_ship_171 rfl ?_
                      refine jg_aload_n dX11_ship_173 rfl ?_
                      refine cs_get (s := x237) (w := .ref (o + 10)) fl_X11_27 dX11_ship_174 hO.ob0 rfl ?_
                      refine cs_get (s := x237) (w := .int (x237.1 (o + 10) 0)) fl_X11_49 dX11_ship_177 hO.1.ob0 rfl ?_
                      refine jg_aload_n dX11_ship_180 rfl ?_
                      refine cs_get (s := x237) (w := .ref (o + 10)) fl_X11_27 dX11_ship_181 hO.ob0 rfl ?_
                      obtain ⟨x238, e_x238, h⟩ := bd_some h
                      refine cs_call (q := (o + 10)) (As := []) kv_X11_179 dX11_ship_184 hO.1.ob0 rfl rfl (by decide) (Nat.le_of_ble_eq_true rfl) rfl (by decide) (Nat.le_of_ble_eq_true rfl) (t_X2_actOfToday F τ n (o + 10) x237 hO.1 e_x238) ?_
                      obtain ⟨q239, h⟩ := gd_some h
                      obtain ⟨x240, e_x240, h⟩ := bd_some h
                      refine cs_call (q := (o + 49 + 1 + (s.1 (o + 37) 3).toNatClampNeg)) (As := [.int (x237.1 (o + 10) 0), .ref x238]) kv_X11_183 dX11_ship_187 (hO.1.ship q234.2) rfl rfl (by decide) (Nat.le_of_ble_eq_true rfl) rfl (by decide) (Nat.le_of_ble_eq_true rfl) (t_X9_come τ n (o + 49 + 1 + (s.1 (o + 37) 3).toNatClampNeg) x238 x237 (x237.1 (o + 10) 0) (hO.1.ship q234.2) q239 e_x240) ?_
                      refine jg_aload_n dX11_ship_190 rfl ?_
                      refine cs_get (s := x240) (w := .ref (o + 10)) fl_X11_27 dX11_ship_191 hO.ob0 rfl ?_
                      refine cs_get (s := x240) (w := .ref (o + 37)) fl_X11_123 dX11_ship_194 hO.1.ob0 rfl ?_
                      refine jg_dup dX11_ship_197 rfl ?_
                      refine cs_get (s := x240) (w := .int (x240.1 (o + 37) 3)) fl_X11_154 dX11_ship_198 (hO.1.ob 27 (by decide) rfl) rfl ?_
                      refine jg_iconst (v := nI 1) dX11_ship_201 (by decide) ?_
                      refine jg_iadd (x := (x240.1 (o + 37) 3)) (y := (nI 1)) dX11_ship_202  ?_
                      refine cs_put (s := x240) (k := 3) (x := ((x240.1 (o + 37) 3) + (nI 1))) fl_X11_154 dX11_ship_203 (hO.1.ob 27 (by decide) rfl) (ltb rfl) (rfl) rfl rfl ?_
                      refine jg_aload_n dX11_ship_206 rfl ?_
                      refine cs_get (s := (cp x240 (o + 37) 3 ((x240.1 (o + 37) 3) + (nI 1)))) (w := .ref (o + 10)) fl_X11_27 dX11_ship_207 hO.ob0 rfl ?_
                      refine cs_get (s := (cp x240 (o + 37) 3 ((x240.1 (o + 37) 3) + (nI 1)))) (w := .ref (o + 37)) fl_X11_123 dX11_ship_210 hO.1.ob0 rfl ?_
                      refine cs_get (s := (cp x240 (o + 37) 3 ((x240.1 (o + 37) 3) + (nI 1)))) (w := .int ((cp x240 (o + 37) 3 ((x240.1 (o + 37) 3) + (nI 1))).1 (o + 37) 3)) fl_X11_154 dX11_ship_213 (hO.1.ob 27 (by decide) rfl) rfl ?_
                      refine jg_iconst (v := nI 1) dX11_ship_216 (by decide) ?_
                      refine jg_isub (x := ((cp x240 (o + 37) 3 ((x240.1 (o + 37) 3) + (nI 1))).1 (o + 37) 3)) (y := (nI 1)) dX11_ship_217  ?_
                      cases h
                    · replace h := se_r h
                      obtain rfl := Sum.inr.inj (Option.some.inj h)
                      exact jc_SX (As := [.int (s.1 (o + 37) 3), .int (nI 80)]) ks_X11_82 dX11_ship_107 rfl (by decide) (Nat.le_of_ble_eq_true rfl) rfl (by decide) (Nat.le_refl _) (Nat.le_refl _) (Nat.le_of_ble_eq_true rfl) (x_X11_needRoom τ n s (s.1 (o + 37) 3) (nI 80) hn hT e_x231) ⟨rfl, rfl⟩
                  · replace h := se_r h
                    obtain rfl := Sum.inr.inj (Option.some.inj h)
                    exact jc_SX (As := [.int (nI 0)]) ks_X11_45 dX11_ship_92 rfl (by decide) (Nat.le_of_ble_eq_true rfl) rfl (by decide) (Nat.le_refl _) (Nat.le_refl _) (Nat.le_of_ble_eq_true rfl) (x_X11_needArgument τ n s (nI 0) hn hT e_x228) ⟨rfl, rfl⟩
                · replace h := it_f c227 h
                  refine jg_iconst (v := nI 1) dX11_ship_87 (by decide) ?_
                  refine jg_goto (tgt := 92) dX11_ship_88 (by decide) ?_
                  obtain ⟨x241, e_x241, h⟩ := bd_some h
                  rcases x241 with y242 | z243
                  · replace h := se_l h
                    refine cs_callS (As := [.int (nI 1)]) ks_X11_45 dX11_ship_92 rfl (by decide) (Nat.le_of_ble_eq_true rfl) rfl (by decide) (Nat.le_of_ble_eq_true rfl) (t_X11_needArgument τ n s (nI 1) e_x241) ?_
                    refine jg_aload_n dX11_ship_95 rfl ?_
                    refine cs_get (s := s) (w := .ref (o + 10)) fl_X11_27 dX11_ship_96 hO.ob0 rfl ?_
                    refine cs_get (s := s) (w := .ref (o + 37)) fl_X11_123 dX11_ship_99 hO.1.ob0 rfl ?_
                    refine cs_get (s := s) (w := .int (s.1 (o + 37) 3)) fl_X11_154 dX11_ship_102 (hO.1.ob 27 (by decide) rfl) rfl ?_
                    refine jg_bipush (v := nI 80) dX11_ship_105 (by decide) ?_
                    obtain ⟨x244, e_x244, h⟩ := bd_some h
                    rcases x244 with y245 | z246
                    · replace h := se_l h
                      refine cs_callS (As := [.int (s.1 (o + 37) 3), .int (nI 80)]) ks_X11_82 dX11_ship_107 rfl (by decide) (Nat.le_of_ble_eq_true rfl) rfl (by decide) (Nat.le_of_ble_eq_true rfl) (t_X11_needRoom τ n s (s.1 (o + 37) 3) (nI 80) e_x244) ?_
                      refine jg_aload_n dX11_ship_110 rfl ?_
                      refine cs_get (s := s) (w := .ref (o + 10)) fl_X11_27 dX11_ship_111 hO.ob0 rfl ?_
                      refine cs_get (s := s) (w := .ref (o + 37)) fl_X11_123 dX11_ship_114 hO.1.ob0 rfl ?_
                      refine cs_get (s := s) (w := .ref (o + 49)) fl_X11_157 dX11_ship_117 (hO.1.ob 27 (by decide) rfl) rfl ?_
                      refine jg_aload_n dX11_ship_120 rfl ?_
                      refine cs_get (s := s) (w := .ref (o + 10)) fl_X11_27 dX11_ship_121 hO.ob0 rfl ?_
                      refine cs_get (s := s) (w := .ref (o + 37)) fl_X11_123 dX11_ship_124 hO.1.ob0 rfl ?_
                      refine cs_get (s := s) (w := .int (s.1 (o + 37) 3)) fl_X11_154 dX11_ship_127 (hO.1.ob 27 (by decide) rfl) rfl ?_
                      obtain ⟨q247, h⟩ := gd_some h
                      refine cs_ldr (s := s) (q := (o + 49)) (i := (s.1 (o + 37) 3)) (kd := 6) (by decide) dX11_ship_130 (hO.1.ar 39 (by decide) rfl) q247 ?_
                      refine jg_astore (L' := [some (.ref o), some (.int a1), some (.int a2), some (.int a3), some (.int a4), some (.int a5), some (.int a6), some (.int a7), some (.int a8), some (.ref (o + 49 + 1 + (s.1 (o + 37) 3).toNatClampNeg))]) dX11_ship_131 (by decide) rfl ?_
                      refine jg_aload dX11_ship_133 rfl ?_
                      refine jg_iload_n dX11_ship_135 rfl ?_
                      refine jg_iload_n dX11_ship_136 rfl ?_
                      refine jg_iload dX11_ship_137 rfl ?_
                      refine jg_iload dX11_ship_139 rfl ?_
                      obtain ⟨x248, e_x248, h⟩ := bd_some h
                      refine cs_call (q := (o + 49 + 1 + (s.1 (o + 37) 3).toNatClampNeg)) (As := [.int a2, .int a3, .int a4, .int a7]) kv_X11_161 dX11_ship_141 (hO.1.ship q247.2) rfl rfl (by decide) (Nat.le_of_ble_eq_true rfl) rfl (by decide) (Nat.le_of_ble_eq_true rfl) (t_X9_build τ n (o + 49 + 1 + (s.1 (o + 37) 3).toNatClampNeg) s a2 a3 a4 a7 (hO.1.ship q247.2) e_x248) ?_
                      refine jg_aload dX11_ship_144 rfl ?_
                      refine jg_iload dX11_ship_146 rfl ?_
                      refine cs_put (s := x248) (k := 4) (x := a5) fl_X11_167 dX11_ship_148 (hO.1.ship q247.2) (ltb rfl) (rfl) rfl rfl ?_
                      refine jg_aload dX11_ship_151 rfl ?_
                      refine jg_iload dX11_ship_153 rfl ?_
                      refine cs_put (s := (cp x248 (o + 49 + 1 + (s.1 (o + 37) 3).toNatClampNeg) 4 a5)) (k := 5) (x := a6) fl_X11_170 dX11_ship_155 (hO.1.ship q247.2) (ltb rfl) (rfl) rfl rfl ?_
                      obtain ⟨x249, e_x249, h⟩ := bd_some h
                      refine cs_sub (Option.some.inj e_x249) ?_
                      refine jg_aload dX11_ship_158 rfl ?_
                      refine jg_iload_n dX11_ship_160 rfl ?_
                      refine cs_put (s := x249) (k := 6) (x := a1) fl_X11_173 dX11_ship_161 (hO.1.ship q247.2) (ltb rfl) (rfl) rfl rfl ?_
                      refine jg_aload dX11_ship_164 rfl ?_
                      refine jg_iload dX11_ship_166 rfl ?_
                      refine cs_put (s := (cp x249 (o + 49 + 1 + (s.1 (o + 37) 3).toNatClampNeg) 6 a1)) (k := 7) (x := a8) fl_X11_176 dX11_ship_168 (hO.1.ship q247.2) (ltb rfl) (rfl) rfl rfl ?_
                      obtain ⟨x250, e_x250, h⟩ := bd_some h
                      refine cs_sub (Option.some.inj e_x250) ?_
                      refine jg_aload dX11_ship_171 rfl ?_
                      refine jg_aload_n dX11_ship_173 rfl ?_
                      refine cs_get (s := x250) (w := .ref (o + 10)) fl_X11_27 dX11_ship_174 hO.ob0 rfl ?_
                      refine cs_get (s := x250) (w := .int (x250.1 (o + 10) 0)) fl_X11_49 dX11_ship_177 hO.1.ob0 rfl ?_
                      refine jg_aload_n dX11_ship_180 rfl ?_
                      refine cs_get (s := x250) (w := .ref (o + 10)) fl_X11_27 dX11_ship_181 hO.ob0 rfl ?_
                      obtain ⟨x251, e_x251, h⟩ := bd_some h
                      refine cs_call (q := (o + 10)) (As := []) kv_X11_179 dX11_ship_184 hO.1.ob0 rfl rfl (by decide) (Nat.le_of_ble_eq_true rfl) rfl (by decide) (Nat.le_of_ble_eq_true rfl) (t_X2_actOfToday F τ n (o + 10) x250 hO.1 e_x251) ?_
                      obtain ⟨q252, h⟩ := gd_some h
                      obtain ⟨x253, e_x253, h⟩ := bd_some h
                      refine cs_call (q := (o + 49 + 1 + (s.1 (o + 37) 3).toNatClampNeg)) (As := [.int (x250.1 (o + 10) 0), .ref x251]) kv_X11_183 dX11_ship_187 (hO.1.ship q247.2) rfl rfl (by decide) (Nat.le_of_ble_eq_true rfl) rfl (by decide) (Nat.le_of_ble_eq_true rfl) (t_X9_come τ n (o + 49 + 1 + (s.1 (o + 37) 3).toNatClampNeg) x251 x250 (x250.1 (o + 10) 0) (hO.1.ship q247.2) q252 e_x253) ?_
                      refine jg_aload_n dX11_ship_190 rfl ?_
                      refine cs_get (s := x253) (w := .ref (o + 10)) fl_X11_27 dX11_ship_191 hO.ob0 rfl ?_
                      refine cs_get (s := x253) (w := .ref (o + 37)) fl_X11_123 dX11_ship_194 hO.1.ob0 rfl ?_
                      refine jg_dup dX11_ship_197 rfl ?_
                      refine cs_get (s := x253) (w := .int (x253.1 (o + 37) 3)) fl_X11_154 dX11_ship_198 (hO.1.ob 27 (by decide) rfl) rfl ?_
                      refine jg_iconst (v := nI 1) dX11_ship_201 (by decide) ?_
                      refine jg_iadd (x := (x253.1 (o + 37) 3)) (y := (nI 1)) dX11_ship_202  ?_
                      refine cs_put (s := x253) (k := 3) (x := ((x253.1 (o + 37) 3) + (nI 1))) fl_X11_154 dX11_ship_203 (hO.1.ob 27 (by decide) rfl) (ltb rfl) (rfl) rfl rfl ?_
                      refine jg_aload_n dX11_ship_206 rfl ?_
                      refine cs_get (s := (cp x253 (o + 37) 3 ((x253.1 (o + 37) 3) + (nI 1)))) (w := .ref (o + 10)) fl_X11_27 dX11_ship_207 hO.ob0 rfl ?_
                      refine cs_get (s := (cp x253 (o + 37) 3 ((x253.1 (o + 37) 3) + (nI 1)))) (w := .ref (o + 37)) fl_X11_123 dX11_ship_210 hO.1.ob0 rfl ?_
                      refine cs_get (s := (cp x253 (o + 37) 3 ((x253.1 (o + 37) 3) + (nI 1)))) (w := .int ((cp x253 (o + 37) 3 ((x253.1 (o + 37) 3) + (nI 1))).1 (o + 37) 3)) fl_X11_154 dX11_ship_213 (hO.1.ob 27 (by decide) rfl) rfl ?_
                      refine jg_iconst (v := nI 1) dX11_ship_216 (by decide) ?_
                      refine jg_isub (x := ((cp x253 (o + 37) 3 ((x253.1 (o + 37) 3) + (nI 1))).1 (o + 37) 3)) (y := (nI 1)) dX11_ship_217  ?_
                      cases h
                    · replace h := se_r h
                      obtain rfl := Sum.inr.inj (Option.some.inj h)
                      exact jc_SX (As := [.int (s.1 (o + 37) 3), .int (nI 80)]) ks_X11_82 dX11_ship_107 rfl (by decide) (Nat.le_of_ble_eq_true rfl) rfl (by decide) (Nat.le_refl _) (Nat.le_refl _) (Nat.le_of_ble_eq_true rfl) (x_X11_needRoom τ n s (s.1 (o + 37) 3) (nI 80) hn hT e_x244) ⟨rfl, rfl⟩
                  · replace h := se_r h
                    obtain rfl := Sum.inr.inj (Option.some.inj h)
                    exact jc_SX (As := [.int (nI 1)]) ks_X11_45 dX11_ship_92 rfl (by decide) (Nat.le_of_ble_eq_true rfl) rfl (by decide) (Nat.le_refl _) (Nat.le_refl _) (Nat.le_of_ble_eq_true rfl) (x_X11_needArgument τ n s (nI 1) hn hT e_x241) ⟨rfl, rfl⟩
          · replace h := se_r h
            obtain rfl := Sum.inr.inj (Option.some.inj h)
            exact jc_SX (As := [.int (nI 1)]) ks_X11_45 dX11_ship_51 rfl (by decide) (Nat.le_of_ble_eq_true rfl) rfl (by decide) (Nat.le_refl _) (Nat.le_refl _) (Nat.le_of_ble_eq_true rfl) (x_X11_needArgument τ n s (nI 1) hn hT e_x193) ⟨rfl, rfl⟩
  · replace h := se_r h
    obtain rfl := Sum.inr.inj (Option.some.inj h)
    exact jc_SX (As := [.int a1, .int (s.1 (o + 131) 6)]) ks_X11_90 dX11_ship_11 rfl (by decide) (Nat.le_of_ble_eq_true rfl) rfl (by decide) (Nat.le_refl _) (Nat.le_refl _) (Nat.le_of_ble_eq_true rfl) (x_X11_needIndex τ n s a1 (s.1 (o + 131) 6) hn hT e_x1) ⟨rfl, rfl⟩
