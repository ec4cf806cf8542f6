theorem dX5_nextHourOfPilots_0 : decode cX5_nextHourOfPilots 0 = .ok (.iconst 1, 1) := by decide +kernel
theorem dX5_nextHourOfPilots_1 : decode cX5_nextHourOfPilots 1 = .ok (.istore_n 1, 1) := by decide +kernel
theorem dX5_nextHourOfPilots_2 : decode cX5_nextHourOfPilots 2 = .ok (.iload_n 1, 1) := by decide +kernel
theorem dX5_nextHourOfPilots_3 : decode cX5_nextHourOfPilots 3 = .ok (.aload_n 0, 1) := by decide +kernel
theorem dX5_nextHourOfPilots_4 : decode cX5_nextHourOfPilots 4 = .ok (.getfield 34, 3) := by decide +kernel
theorem dX5_nextHourOfPilots_7 : decode cX5_nextHourOfPilots 7 = .ok (.arraylength, 1) := by decide +kernel
theorem dX5_nextHourOfPilots_8 : decode cX5_nextHourOfPilots 8 = .ok (.if_icmp .ge 23, 3) := by decide +kernel
theorem dX5_nextHourOfPilots_11 : decode cX5_nextHourOfPilots 11 = .ok (.aload_n 0, 1) := by decide +kernel
theorem dX5_nextHourOfPilots_12 : decode cX5_nextHourOfPilots 12 = .ok (.getfield 34, 3) := by decide +kernel
theorem dX5_nextHourOfPilots_15 : decode cX5_nextHourOfPilots 15 = .ok (.iload_n 1, 1) := by decide +kernel
theorem dX5_nextHourOfPilots_16 : decode cX5_nextHourOfPilots 16 = .ok (.iconst 1, 1) := by decide +kernel
theorem dX5_nextHourOfPilots_17 : decode cX5_nextHourOfPilots 17 = .ok (.isub, 1) := by decide +kernel
theorem dX5_nextHourOfPilots_18 : decode cX5_nextHourOfPilots 18 = .ok (.aload_n 0, 1) := by decide +kernel
theorem dX5_nextHourOfPilots_19 : decode cX5_nextHourOfPilots 19 = .ok (.getfield 34, 3) := by decide +kernel
theorem dX5_nextHourOfPilots_22 : decode cX5_nextHourOfPilots 22 = .ok (.iload_n 1, 1) := by decide +kernel
theorem dX5_nextHourOfPilots_23 : decode cX5_nextHourOfPilots 23 = .ok (.iaload, 1) := by decide +kernel
theorem dX5_nextHourOfPilots_24 : decode cX5_nextHourOfPilots 24 = .ok (.iastore, 1) := by decide +kernel
theorem dX5_nextHourOfPilots_25 : decode cX5_nextHourOfPilots 25 = .ok (.iinc 1 1, 3) := by decide +kernel
theorem dX5_nextHourOfPilots_28 : decode cX5_nextHourOfPilots 28 = .ok (.goto (-26), 3) := by decide +kernel
theorem dX5_nextHourOfPilots_31 : decode cX5_nextHourOfPilots 31 = .ok (.aload_n 0, 1) := by decide +kernel
theorem dX5_nextHourOfPilots_32 : decode cX5_nextHourOfPilots 32 = .ok (.getfield 34, 3) := by decide +kernel
theorem dX5_nextHourOfPilots_35 : decode cX5_nextHourOfPilots 35 = .ok (.aload_n 0, 1) := by decide +kernel
theorem dX5_nextHourOfPilots_36 : decode cX5_nextHourOfPilots 36 = .ok (.getfield 34, 3) := by decide +kernel
theorem dX5_nextHourOfPilots_39 : decode cX5_nextHourOfPilots 39 = .ok (.arraylength, 1) := by decide +kernel
theorem dX5_nextHourOfPilots_40 : decode cX5_nextHourOfPilots 40 = .ok (.iconst 1, 1) := by decide +kernel
theorem dX5_nextHourOfPilots_41 : decode cX5_nextHourOfPilots 41 = .ok (.isub, 1) := by decide +kernel
theorem dX5_nextHourOfPilots_42 : decode cX5_nextHourOfPilots 42 = .ok (.iconst 0, 1) := by decide +kernel
theorem dX5_nextHourOfPilots_43 : decode cX5_nextHourOfPilots 43 = .ok (.iastore, 1) := by decide +kernel
theorem dX5_nextHourOfPilots_44 : decode cX5_nextHourOfPilots 44 = .ok (.return_, 1) := by decide +kernel
noncomputable def o_X5_nextHourOfPilots_2 (F : Nat) (τ : cT) (n : Nat) (b : Nat)  : Nat → Int32 → cS → Option (cS)
  | 0, _, _ => none
  | f + 1, l1, s => if (nI 4) ≤ l1 then (some s) else (if iL l1 4 then (if iL (l1 - (nI 1)) 4 then (o_X5_nextHourOfPilots_2 F τ n b f (l1 + nI 1) (ca s (b + 120) (l1 - (nI 1)) (cg s (b + 120) l1))) else none) else none)
set_option maxHeartbeats 4000000 in
theorem t_X5_nextHourOfPilots_2 {Γ : jg_G} {g : Nat → jg_C} (F : Nat) (τ : cT) (n : Nat) (b : Nat)  (hB : Bd τ n b) (Q : jg_Q) {x : cS} (K1 : jg Γ mX5_nextHourOfPilots 0 0 0 31 [some (.ref (b + 27)), none] [] (ct_h g τ x, n) Q)  : ∀ (f : Nat) (l1 : Int32) (s : cS), o_X5_nextHourOfPilots_2 F τ n b f l1 s = some x → jg Γ mX5_nextHourOfPilots 0 0 0 2 [some (.ref (b + 27)), some (.int l1)] [] (ct_h g τ s, n) Q := by
  intro f
  induction f with
  | zero => intro l1 s h; rw [o_X5_nextHourOfPilots_2] at h; cases h
  | succ f ih =>
   intro l1 s h
   rw [o_X5_nextHourOfPilots_2] at h
   refine jg_iload_n dX5_nextHourOfPilots_2 rfl ?_
   refine jg_aload_n dX5_nextHourOfPilots_3 rfl ?_
   refine cs_get (s := s) (w := .ref (b + 120)) fl_X5_34 dX5_nextHourOfPilots_4 (hB.ob 27 (by decide) rfl) rfl ?_
   refine cs_len (s := s) (q := (b + 120)) (by decide) dX5_nextHourOfPilots_7 (hB.ar 120 (by decide) rfl) ?_
   refine jg_icmp_ge (x := l1) (y := (nI 4)) (tgt := 31) dX5_nextHourOfPilots_8 (by decide) (fun c1 => ?_) (fun c1 => ?_)
   · replace h := it_t c1 h
     refine jg_fg (L' := [some (.ref (b + 27)), none]) (by repeat (first | exact trivial | refine ⟨rfl, ?_⟩ | show jg_le _ _)) ?_
     obtain rfl := Option.some.inj h
     exact K1
   · replace h := it_f c1 h
     refine jg_aload_n dX5_nextHourOfPilots_11 rfl ?_
     refine cs_get (s := s) (w := .ref (b + 120)) fl_X5_34 dX5_nextHourOfPilots_12 (hB.ob 27 (by decide) rfl) rfl ?_
     refine jg_iload_n dX5_nextHourOfPilots_15 rfl ?_
     refine jg_iconst (v := nI 1) dX5_nextHourOfPilots_16 (by decide) ?_
     refine jg_isub (x := l1) (y := (nI 1)) dX5_nextHourOfPilots_17  ?_
     refine jg_aload_n dX5_nextHourOfPilots_18 rfl ?_
     refine cs_get (s := s) (w := .ref (b + 120)) fl_X5_34 dX5_nextHourOfPilots_19 (hB.ob 27 (by decide) rfl) rfl ?_
     refine jg_iload_n dX5_nextHourOfPilots_22 rfl ?_
     obtain ⟨q2, h⟩ := gd_some h
     refine cs_lda (s := s) (q := (b + 120)) (i := l1) dX5_nextHourOfPilots_23 (hB.ar 120 (by decide) rfl) q2 ?_
     obtain ⟨q3, h⟩ := gd_some h
     refine cs_sta (s := s) (q := (b + 120)) (i := (l1 - (nI 1))) (x := (cg s (b + 120) l1)) dX5_nextHourOfPilots_24 (hB.ar 120 (by decide) rfl) q3 ?_
     refine jg_iinc (x := l1) (v := l1 + nI 1) (L' := [some (.ref (b + 27)), some (.int (l1 + nI 1))]) dX5_nextHourOfPilots_25 rfl (ic_k _ (by decide)) (by decide) rfl ?_
     refine jg_goto (tgt := 2) dX5_nextHourOfPilots_28 (by decide) ?_
     refine jg_fg (L' := [some (.ref (b + 27)), some (.int (l1 + nI 1))]) (by repeat (first | exact trivial | refine ⟨rfl, ?_⟩ | show jg_le _ _)) ?_
     exact ih (l1 + nI 1) (ca s (b + 120) (l1 - (nI 1)) (cg s (b + 120) l1)) h
noncomputable def o_X5_nextHourOfPilots (F : Nat) (τ : cT) (n : Nat) (b : Nat) (s : cS) : Option (cS) := (o_X5_nextHourOfPilots_2 F τ n b F (nI 1) s).bind fun x4 => (if iL ((nI 4) - (nI 1)) 4 then (some (ca x4 (b + 120) ((nI 4) - (nI 1)) (nI 0))) else none)
set_option maxHeartbeats 4000000 in
theorem t_X5_nextHourOfPilots {Γ : jg_G} {g : Nat → jg_C} (F : Nat) (τ : cT) (n : Nat) (b : Nat) (s : cS) (hB : Bd τ n b) {x : cS} (h : o_X5_nextHourOfPilots F τ n b s = some x) : jc Γ mX5_nextHourOfPilots 0 0 0 [some (.ref (b + 27)), none] (ct_h g τ s, n) (.inl none) (ct_h g τ x, n) := by
  refine jc_of ?_
  rw [o_X5_nextHourOfPilots] at h
  refine jg_iconst (v := nI 1) dX5_nextHourOfPilots_0 (by decide) ?_
  refine jg_istore_n (L' := [some (.ref (b + 27)), some (.int (nI 1))]) dX5_nextHourOfPilots_1 (by decide) rfl ?_
  obtain ⟨x4, e_x4, h⟩ := bd_some h
  refine jg_fg (L' := [some (.ref (b + 27)), some (.int (nI 1))]) (by repeat (first | exact trivial | refine ⟨rfl, ?_⟩ | show jg_le _ _)) ?_
  refine t_X5_nextHourOfPilots_2  F τ n b hB _ (x := x4) ?_ F (nI 1) s e_x4
  refine jg_aload_n dX5_nextHourOfPilots_31 rfl ?_
  refine cs_get (s := x4) (w := .ref (b + 120)) fl_X5_34 dX5_nextHourOfPilots_32 (hB.ob 27 (by decide) rfl) rfl ?_
  refine jg_aload_n dX5_nextHourOfPilots_35 rfl ?_
  refine cs_get (s := x4) (w := .ref (b + 120)) fl_X5_34 dX5_nextHourOfPilots_36 (hB.ob 27 (by decide) rfl) rfl ?_
  refine cs_len (s := x4) (q := (b + 120)) (by decide) dX5_nextHourOfPilots_39 (hB.ar 120 (by decide) rfl) ?_
  refine jg_iconst (v := nI 1) dX5_nextHourOfPilots_40 (by decide) ?_
  refine jg_isub (x := (nI 4)) (y := (nI 1)) dX5_nextHourOfPilots_41  ?_
  refine jg_iconst (v := nI 0) dX5_nextHourOfPilots_42 (by decide) ?_
  obtain ⟨q5, h⟩ := gd_some h
  refine cs_sta (s := x4) (q := (b + 120)) (i := ((nI 4) - (nI 1))) (x := (nI 0)) dX5_nextHourOfPilots_43 (hB.ar 120 (by decide) rfl) q5 ?_
  obtain rfl := Option.some.inj h
  exact jg_return dX5_nextHourOfPilots_44 rfl ⟨rfl, rfl⟩
theorem dX5_holderOf_0 : decode cX5_holderOf 0 = .ok (.aload_n 0, 1) := by decide +kernel
theorem dX5_holderOf_1 : decode cX5_holderOf 1 = .ok (.getfield 11, 3) := by decide +kernel
theorem dX5_holderOf_4 : decode cX5_holderOf 4 = .ok (.iload_n 1, 1) := by decide +kernel
theorem dX5_holderOf_5 : decode cX5_holderOf 5 = .ok (.aaload, 1) := by decide +kernel
theorem dX5_holderOf_6 : decode cX5_holderOf 6 = .ok (.getfield 71, 3) := by decide +kernel
theorem dX5_holderOf_9 : decode cX5_holderOf 9 = .ok (.istore_n 2, 1) := by decide +kernel
theorem dX5_holderOf_10 : decode cX5_holderOf 10 = .ok (.iload_n 2, 1) := by decide +kernel
theorem dX5_holderOf_11 : decode cX5_holderOf 11 = .ok (.ifCond .lt 20, 3) := by decide +kernel
theorem dX5_holderOf_14 : decode cX5_holderOf 14 = .ok (.iload_n 2, 1) := by decide +kernel
theorem dX5_holderOf_15 : decode cX5_holderOf 15 = .ok (.aload_n 0, 1) := by decide +kernel
theorem dX5_holderOf_16 : decode cX5_holderOf 16 = .ok (.getfield 45, 3) := by decide +kernel
theorem dX5_holderOf_19 : decode cX5_holderOf 19 = .ok (.if_icmp .ge 12, 3) := by decide +kernel
theorem dX5_holderOf_22 : decode cX5_holderOf 22 = .ok (.aload_n 0, 1) := by decide +kernel
theorem dX5_holderOf_23 : decode cX5_holderOf 23 = .ok (.getfield 20, 3) := by decide +kernel
theorem dX5_holderOf_26 : decode cX5_holderOf 26 = .ok (.iload_n 2, 1) := by decide +kernel
theorem dX5_holderOf_27 : decode cX5_holderOf 27 = .ok (.aaload, 1) := by decide +kernel
theorem dX5_holderOf_28 : decode cX5_holderOf 28 = .ok (.goto 4, 3) := by decide +kernel
theorem dX5_holderOf_31 : decode cX5_holderOf 31 = .ok (.aconst_null, 1) := by decide +kernel
theorem dX5_holderOf_32 : decode cX5_holderOf 32 = .ok (.areturn, 1) := by decide +kernel
noncomputable def o_X5_holderOf (τ : cT) (n : Nat) (b : Nat) (s : cS) (a1 : Int32) : Option (Option Nat) := if iL a1 10 then (if (s.1 (b + 28 + 1 + a1.toNatClampNeg) 7) < 0 then (some none) else (if (s.1 (b + 27) 3) ≤ (s.1 (b + 28 + 1 + a1.toNatClampNeg) 7) then (some none) else (if iL (s.1 (b + 28 + 1 + a1.toNatClampNeg) 7) 80 then (some (some (b + 39 + 1 + (s.1 (b + 28 + 1 + a1.toNatClampNeg) 7).toNatClampNeg))) else none))) else none
set_option maxHeartbeats 4000000 in
theorem t_X5_holderOf {Γ : jg_G} {g : Nat → jg_C} (τ : cT) (n : Nat) (b : Nat) (s : cS) (a1 : Int32) (hB : Bd τ n b) {x : Option Nat} (h : o_X5_holderOf τ n b s a1 = some x) : jc Γ mX5_holderOf 0 0 0 [some (.ref (b + 27)), some (.int a1), none] (ct_h g τ s, n) (.inl (some (vr x))) (ct_h g τ s, n) := by
  refine jc_of ?_
  rw [o_X5_holderOf] at h
  refine jg_aload_n dX5_holderOf_0 rfl ?_
  refine cs_get (s := s) (w := .ref (b + 28)) fl_X5_11 dX5_holderOf_1 (hB.ob 27 (by decide) rfl) rfl ?_
  refine jg_iload_n dX5_holderOf_4 rfl ?_
  obtain ⟨q1, h⟩ := gd_some h
  refine cs_ldr (s := s) (q := (b + 28)) (i := a1) (kd := 5) (by decide) dX5_holderOf_5 (hB.ar 28 (by decide) rfl) q1 ?_
  refine cs_get (s := s) (w := .int (s.1 (b + 28 + 1 + a1.toNatClampNeg) 7)) fl_X5_71 dX5_holderOf_6 (hB.berth q1.2) rfl ?_
  refine jg_istore_n (L' := [some (.ref (b + 27)), some (.int a1), some (.int (s.1 (b + 28 + 1 + a1.toNatClampNeg) 7))]) dX5_holderOf_9 (by decide) rfl ?_
  refine jg_iload_n dX5_holderOf_10 rfl ?_
  refine jg_if_lt (x := (s.1 (b + 28 + 1 + a1.toNatClampNeg) 7)) (tgt := 31) dX5_holderOf_11 (by decide) (fun c2 => ?_) (fun c2 => ?_)
  · replace h := it_t c2 h
    refine jg_null dX5_holderOf_31 ?_
    obtain rfl := Option.some.inj h
    exact jg_areturnN dX5_holderOf_32 rfl (Or.inl ⟨_, rfl⟩) ⟨rfl, rfl⟩
  · replace h := it_f c2 h
    refine jg_iload_n dX5_holderOf_14 rfl ?_
    refine jg_aload_n dX5_holderOf_15 rfl ?_
    refine cs_get (s := s) (w := .int (s.1 (b + 27) 3)) fl_X5_45 dX5_holderOf_16 (hB.ob 27 (by decide) rfl) rfl ?_
    refine jg_icmp_ge (x := (s.1 (b + 28 + 1 + a1.toNatClampNeg) 7)) (y := (s.1 (b + 27) 3)) (tgt := 31) dX5_holderOf_19 (by decide) (fun c3 => ?_) (fun c3 => ?_)
    · replace h := it_t c3 h
      refine jg_null dX5_holderOf_31 ?_
      obtain rfl := Option.some.inj h
      exact jg_areturnN dX5_holderOf_32 rfl (Or.inl ⟨_, rfl⟩) ⟨rfl, rfl⟩
    · replace h := it_f c3 h
      refine jg_aload_n dX5_holderOf_22 rfl ?_
      refine cs_get (s := s) (w := .ref (b + 39)) fl_X5_20 dX5_holderOf_23 (hB.ob 27 (by decide) rfl) rfl ?_
      refine jg_iload_n dX5_holderOf_26 rfl ?_
      obtain ⟨q4, h⟩ := gd_some h
      refine cs_ldr (s := s) (q := (b + 39)) (i := (s.1 (b + 28 + 1 + a1.toNatClampNeg) 7)) (kd := 6) (by decide) dX5_holderOf_27 (hB.ar 39 (by decide) rfl) q4 ?_
      refine jg_goto (tgt := 32) dX5_holderOf_28 (by decide) ?_
      obtain rfl := Option.some.inj h
      exact jg_areturn dX5_holderOf_32 rfl (Or.inl ⟨_, rfl⟩) ⟨rfl, rfl⟩
theorem dX5_arrive_0 : decode cX5_arrive 0 = .ok (.iconst 0, 1) := by decide +kernel
theorem dX5_arrive_1 : decode cX5_arrive 1 = .ok (.istore_n 2, 1) := by decide +kernel
theorem dX5_arrive_2 : decode cX5_arrive 2 = .ok (.iload_n 2, 1) := by decide +kernel
theorem dX5_arrive_3 : decode cX5_arrive 3 = .ok (.aload_n 0, 1) := by decide +kernel
theorem dX5_arrive_4 : decode cX5_arrive 4 = .ok (.getfield 38, 3) := by decide +kernel
theorem dX5_arrive_7 : decode cX5_arrive 7 = .ok (.if_icmp .ge 40, 3) := by decide +kernel
theorem dX5_arrive_10 : decode cX5_arrive 10 = .ok (.aload_n 0, 1) := by decide +kernel
theorem dX5_arrive_11 : decode cX5_arrive 11 = .ok (.iload_n 2, 1) := by decide +kernel
theorem dX5_arrive_12 : decode cX5_arrive 12 = .ok (.invokevirtual 95, 3) := by decide +kernel
theorem dX5_arrive_15 : decode cX5_arrive 15 = .ok (.astore_n 3, 1) := by decide +kernel
theorem dX5_arrive_16 : decode cX5_arrive 16 = .ok (.aload_n 3, 1) := by decide +kernel
theorem dX5_arrive_17 : decode cX5_arrive 17 = .ok (.ifnull 24, 3) := by decide +kernel
theorem dX5_arrive_20 : decode cX5_arrive 20 = .ok (.aload_n 3, 1) := by decide +kernel
theorem dX5_arrive_21 : decode cX5_arrive 21 = .ok (.getfield 74, 3) := by decide +kernel
theorem dX5_arrive_24 : decode cX5_arrive 24 = .ok (.iconst 1, 1) := by decide +kernel
theorem dX5_arrive_25 : decode cX5_arrive 25 = .ok (.if_icmp .ne 16, 3) := by decide +kernel
theorem dX5_arrive_28 : decode cX5_arrive 28 = .ok (.aload_n 3, 1) := by decide +kernel
theorem dX5_arrive_29 : decode cX5_arrive 29 = .ok (.getfield 99, 3) := by decide +kernel
theorem dX5_arrive_32 : decode cX5_arrive 32 = .ok (.iload_n 1, 1) := by decide +kernel
theorem dX5_arrive_33 : decode cX5_arrive 33 = .ok (.if_icmp .gt 8, 3) := by decide +kernel
theorem dX5_arrive_36 : decode cX5_arrive 36 = .ok (.aload_n 3, 1) := by decide +kernel
theorem dX5_arrive_37 : decode cX5_arrive 37 = .ok (.iconst 2, 1) := by decide +kernel
theorem dX5_arrive_38 : decode cX5_arrive 38 = .ok (.putfield 74, 3) := by decide +kernel
theorem dX5_arrive_41 : decode cX5_arrive 41 = .ok (.iinc 2 1, 3) := by decide +kernel
theorem dX5_arrive_44 : decode cX5_arrive 44 = .ok (.goto (-42), 3) := by decide +kernel
theorem dX5_arrive_47 : decode cX5_arrive 47 = .ok (.return_, 1) := by decide +kernel
noncomputable def o_X5_arrive_2 (F : Nat) (τ : cT) (n : Nat) (b : Nat) (l1 : Int32)  : Nat → Int32 → cS → Option (cS)
  | 0, _, _ => none
  | f + 1, l2, s => if (s.1 (b + 27) 1) ≤ l2 then (some s) else ((o_X5_holderOf τ n b s l2).bind fun x2 => (Option.elim x2 (o_X5_arrive_2 F τ n b l1 f (l2 + nI 1) s) (fun y3 => if y3 < n ∧ τ y3 = .inl 9 then (if (s.1 y3 10) = (nI 1) then (if l1 < (s.1 y3 13) then (o_X5_arrive_2 F τ n b l1 f (l2 + nI 1) s) else (o_X5_arrive_2 F τ n b l1 f (l2 + nI 1) (cp s y3 10 (nI 2)))) else (o_X5_arrive_2 F τ n b l1 f (l2 + nI 1) s)) else none)))
set_option maxHeartbeats 4000000 in
theorem t_X5_arrive_2 {Γ : jg_G} {g : Nat → jg_C} (F : Nat) (τ : cT) (n : Nat) (b : Nat) (l1 : Int32)  (hB : Bd τ n b) (Q : jg_Q) {x : cS} (K1 : jg Γ mX5_arrive 1 0 0 47 [none, none, none, none] [] (ct_h g τ x, n) Q)  : ∀ (f : Nat) (l2 : Int32) (s : cS), o_X5_arrive_2 F τ n b l1 f l2 s = some x → jg Γ mX5_arrive 1 0 0 2 [some (.ref (b + 27)), some (.int l1), some (.int l2), none] [] (ct_h g τ s, n) Q := by
  intro f
  induction f with
  | zero => intro l2 s h; rw [o_X5_arrive_2] at h; cases h
  | succ f ih =>
   intro l2 s h
   rw [o_X5_arrive_2] at h
   refine jg_iload_n dX5_arrive_2 rfl ?_
   refine jg_aload_n dX5_arrive_3 rfl ?_
   refine cs_get (s := s) (w := .int (s.1 (b + 27) 1)) fl_X5_38 dX5_arrive_4 (hB.ob 27 (by decide) rfl) rfl ?_
   refine jg_icmp_ge (x := l2) (y := (s.1 (b + 27) 1)) (tgt := 47) dX5_arrive_7 (by decide) (fun c1 => ?_) (fun c1 => ?_)
   · replace h := it_t c1 h
     refine jg_fg (L' := [none, none, none, none]) (by repeat (first | exact trivial | refine ⟨rfl, ?_⟩ | show jg_le _ _)) ?_
     obtain rfl := Option.some.inj h
     exact K1
   · replace h := it_f c1 h
     refine jg_aload_n dX5_arrive_10 rfl ?_
     refine jg_iload_n dX5_arrive_11 rfl ?_
     obtain ⟨x2, e_x2, h⟩ := bd_some h
     refine cs_call (q := (b + 27)) (As := [.int l2]) kv_X5_95 dX5_arrive_12 (hB.ob 27 (by decide) rfl) rfl rfl (by decide) (Nat.le_of_ble_eq_true rfl) rfl (by decide) (Nat.le_of_ble_eq_true rfl) (t_X5_holderOf τ n b s l2 hB e_x2) ?_
     rcases x2 with _ | y3
     · replace h := oe_n h
       refine jg_astore_nN (L' := [some (.ref (b + 27)), some (.int l1), some (.int l2), some (.null)]) dX5_arrive_15 (by decide) rfl ?_
       refine jg_aload_nN dX5_arrive_16 rfl ?_
       refine jg_ifnullN (tgt := 41) dX5_arrive_17 (by decide) ?_
       refine jg_iinc (x := l2) (v := l2 + nI 1) (L' := [some (.ref (b + 27)), some (.int l1), some (.int (l2 + nI 1)), some (.null)]) dX5_arrive_41 rfl (ic_k _ (by decide)) (by decide) rfl ?_
       refine jg_goto (tgt := 2) dX5_arrive_44 (by decide) ?_
       refine jg_fg (L' := [some (.ref (b + 27)), some (.int l1), some (.int (l2 + nI 1)), none]) (by repeat (first | exact trivial | refine ⟨rfl, ?_⟩ | show jg_le _ _)) ?_
       exact ih (l2 + nI 1) s h
     · replace h := oe_s h
       obtain ⟨q_y3, h⟩ := gd_some h
       refine jg_astore_n (L' := [some (.ref (b + 27)), some (.int l1), some (.int l2), some (.ref y3)]) dX5_arrive_15 (by decide) rfl ?_
       refine jg_aload_n dX5_arrive_16 rfl ?_
       refine jg_ifnull dX5_arrive_17 ?_
       refine jg_aload_n dX5_arrive_20 rfl ?_
       refine cs_get (s := s) (w := .int (s.1 y3 10)) fl_X5_74 dX5_arrive_21 q_y3 rfl ?_
       refine jg_iconst (v := nI 1) dX5_arrive_24 (by decide) ?_
       refine jg_icmp_ne (x := (s.1 y3 10)) (y := (nI 1)) (tgt := 41) dX5_arrive_25 (by decide) (fun c4 => ?_) (fun c4 => ?_)
       · replace h := it_f c4 h
         refine jg_iinc (x := l2) (v := l2 + nI 1) (L' := [some (.ref (b + 27)), some (.int l1), some (.int (l2 + nI 1)), some (.ref y3)]) dX5_arrive_41 rfl (ic_k _ (by decide)) (by decide) rfl ?_
         refine jg_goto (tgt := 2) dX5_arrive_44 (by decide) ?_
         refine jg_fg (L' := [some (.ref (b + 27)), some (.int l1), some (.int (l2 + nI 1)), none]) (by repeat (first | exact trivial | refine ⟨rfl, ?_⟩ | show jg_le _ _)) ?_
         exact ih (l2 + nI 1) s h
       · replace h := it_t c4 h
         refine jg_aload_n dX5_arrive_28 rfl ?_
         refine cs_get (s := s) (w := .int (s.1 y3 13)) fl_X5_99 dX5_arrive_29 q_y3 rfl ?_
         refine jg_iload_n dX5_arrive_32 rfl ?_
         refine jg_icmp_gt (x := (s.1 y3 13)) (y := l1) (tgt := 41) dX5_arrive_33 (by decide) (fun c5 => ?_) (fun c5 => ?_)
         · replace h := it_t c5 h
           refine jg_iinc (x := l2) (v := l2 + nI 1) (L' := [some (.ref (b + 27)), some (.int l1), some (.int (l2 + nI 1)), some (.ref y3)]) dX5_arrive_41 rfl (ic_k _ (by decide)) (by decide) rfl ?_
           refine jg_goto (tgt := 2) dX5_arrive_44 (by decide) ?_
           refine jg_fg (L' := [some (.ref (b + 27)), some (.int l1), some (.int (l2 + nI 1)), none]) (by repeat (first | exact trivial | refine ⟨rfl, ?_⟩ | show jg_le _ _)) ?_
           exact ih (l2 + nI 1) s h
         · replace h := it_f c5 h
           refine jg_aload_n dX5_arrive_36 rfl ?_
           refine jg_iconst (v := nI 2) dX5_arrive_37 (by decide) ?_
           refine cs_put (s := s) (k := 10) (x := (nI 2)) fl_X5_74 dX5_arrive_38 q_y3 (ltb rfl) (rfl) rfl rfl ?_
           refine jg_iinc (x := l2) (v := l2 + nI 1) (L' := [some (.ref (b + 27)), some (.int l1), some (.int (l2 + nI 1)), some (.ref y3)]) dX5_arrive_41 rfl (ic_k _ (by decide)) (by decide) rfl ?_
           refine jg_goto (tgt := 2) dX5_arrive_44 (by decide) ?_
           refine jg_fg (L' := [some (.ref (b + 27)), some (.int l1), some (.int (l2 + nI 1)), none]) (by repeat (first | exact trivial | refine ⟨rfl, ?_⟩ | show jg_le _ _)) ?_
           exact ih (l2 + nI 1) (cp s y3 10 (nI 2)) h
noncomputable def o_X5_arrive (F : Nat) (τ : cT) (n : Nat) (b : Nat) (s : cS) (a1 : Int32) : Option (cS) := (o_X5_arrive_2 F τ n b a1 F (nI 0) s).bind fun x6 => (some x6)
set_option maxHeartbeats 4000000 in
theorem t_X5_arrive {Γ : jg_G} {g : Nat → jg_C} (F : Nat) (τ : cT) (n : Nat) (b : Nat) (s : cS) (a1 : Int32) (hB : Bd τ n b) {x : cS} (h : o_X5_arrive F τ n b s a1 = some x) : jc Γ mX5_arrive 1 0 0 [some (.ref (b + 27)), some (.int a1), none, none] (ct_h g τ s, n) (.inl none) (ct_h g τ x, n) := by
  refine jc_of ?_
  rw [o_X5_arrive] at h
  refine jg_iconst (v := nI 0) dX5_arrive_0 (by decide) ?_
  refine jg_istore_n (L' := [some (.ref (b + 27)), some (.int a1), some (.int (nI 0)), none]) dX5_arrive_1 (by decide) rfl ?_
  obtain ⟨x6, e_x6, h⟩ := bd_some h
  refine jg_fg (L' := [some (.ref (b + 27)), some (.int a1), some (.int (nI 0)), none]) (by repeat (first | exact trivial | refine ⟨rfl, ?_⟩ | show jg_le _ _)) ?_
  refine t_X5_arrive_2  F τ n b a1 hB _ (x := x6) ?_ F (nI 0) s e_x6
  obtain rfl := Option.some.inj h
  exact jg_return dX5_arrive_47 rfl ⟨rfl, rfl⟩
theorem dX5_hasInState_0 : decode cX5_hasInState 0 = .ok (.iconst 0, 1) := by decide +kernel
theorem dX5_hasInState_1 : decode cX5_hasInState 1 = .ok (.istore_n 2, 1) := by decide +kernel
theorem dX5_hasInState_2 : decode cX5_hasInState 2 = .ok (.iload_n 2, 1) := by decide +kernel
theorem dX5_hasInState_3 : decode cX5_hasInState 3 = .ok (.aload_n 0, 1) := by decide +kernel
theorem dX5_hasInState_4 : decode cX5_hasInState 4 = .ok (.getfield 45, 3) := by decide +kernel
theorem dX5_hasInState_7 : decode cX5_hasInState 7 = .ok (.if_icmp .ge 24, 3) := by decide +kernel
theorem dX5_hasInState_10 : decode cX5_hasInState 10 = .ok (.aload_n 0, 1) := by decide +kernel
theorem dX5_hasInState_11 : decode cX5_hasInState 11 = .ok (.getfield 20, 3) := by decide +kernel
theorem dX5_hasInState_14 : decode cX5_hasInState 14 = .ok (.iload_n 2, 1) := by decide +kernel
theorem dX5_hasInState_15 : decode cX5_hasInState 15 = .ok (.aaload, 1) := by decide +kernel
theorem dX5_hasInState_16 : decode cX5_hasInState 16 = .ok (.getfield 74, 3) := by decide +kernel
theorem dX5_hasInState_19 : decode cX5_hasInState 19 = .ok (.iload_n 1, 1) := by decide +kernel
theorem dX5_hasInState_20 : decode cX5_hasInState 20 = .ok (.if_icmp .ne 5, 3) := by decide +kernel
theorem dX5_hasInState_23 : decode cX5_hasInState 23 = .ok (.iconst 1, 1) := by decide +kernel
theorem dX5_hasInState_24 : decode cX5_hasInState 24 = .ok (.ireturn, 1) := by decide +kernel
theorem dX5_hasInState_25 : decode cX5_hasInState 25 = .ok (.iinc 2 1, 3) := by decide +kernel
theorem dX5_hasInState_28 : decode cX5_hasInState 28 = .ok (.goto (-26), 3) := by decide +kernel
theorem dX5_hasInState_31 : decode cX5_hasInState 31 = .ok (.iconst 0, 1) := by decide +kernel
theorem dX5_hasInState_32 : decode cX5_hasInState 32 = .ok (.ireturn, 1) := by decide +kernel
noncomputable def o_X5_hasInState_2 (F : Nat) (τ : cT) (n : Nat) (b : Nat) (l1 : Int32) (s : cS) : Nat → Int32 → Option ((Unit) ⊕ (Int32))
  | 0, _ => none
  | f + 1, l2 => if (s.1 (b + 27) 3) ≤ l2 then (some (.inl ())) else (if iL l2 80 then (if (s.1 (b + 39 + 1 + l2.toNatClampNeg) 10) = l1 then (some (.inr (nI 1))) else (o_X5_hasInState_2 F τ n b l1 s f (l2 + nI 1))) else none)
set_option maxHeartbeats 4000000 in
theorem t_X5_hasInState_2 {Γ : jg_G} {g : Nat → jg_C} (F : Nat) (τ : cT) (n : Nat) (b : Nat) (l1 : Int32) (s : cS) (hB : Bd τ n b) (Q : jg_Q) {x : (Unit) ⊕ (Int32)} (K1 : ∀ y, x = .inl y → jg Γ mX5_hasInState 0 0 0 31 [none, none, none] [] (ct_h g τ s, n) Q) (K2 : ∀ z, x = .inr z → Q (.inl (some (.int z))) (ct_h g τ s, n)) : ∀ (f : Nat) (l2 : Int32), o_X5_hasInState_2 F τ n b l1 s f l2 = some x → jg Γ mX5_hasInState 0 0 0 2 [some (.ref (b + 27)), some (.int l1), some (.int l2)] [] (ct_h g τ s, n) Q := by
  intro f
  induction f with
  | zero => intro l2 h; rw [o_X5_hasInState_2] at h; cases h
  | succ f ih =>
   intro l2 h
   rw [o_X5_hasInState_2] at h
   refine jg_iload_n dX5_hasInState_2 rfl ?_
   refine jg_aload_n dX5_hasInState_3 rfl ?_
   refine cs_get (s := s) (w := .int (s.1 (b + 27) 3)) fl_X5_45 dX5_hasInState_4 (hB.ob 27 (by decide) rfl) rfl ?_
   refine jg_icmp_ge (x := l2) (y := (s.1 (b + 27) 3)) (tgt := 31) dX5_hasInState_7 (by decide) (fun c1 => ?_) (fun c1 => ?_)
   · replace h := it_t c1 h
     refine jg_fg (L' := [none, none, none]) (by repeat (first | exact trivial | refine ⟨rfl, ?_⟩ | show jg_le _ _)) ?_
     obtain rfl := Option.some.inj h
     exact K1 _ rfl
   · replace h := it_f c1 h
     refine jg_aload_n dX5_hasInState_10 rfl ?_
     refine cs_get (s := s) (w := .ref (b + 39)) fl_X5_20 dX5_hasInState_11 (hB.ob 27 (by decide) rfl) rfl ?_
     refine jg_iload_n dX5_hasInState_14 rfl ?_
     obtain ⟨q2, h⟩ := gd_some h
     refine cs_ldr (s := s) (q := (b + 39)) (i := l2) (kd := 6) (by decide) dX5_hasInState_15 (hB.ar 39 (by decide) rfl) q2 ?_
     refine cs_get (s := s) (w := .int (s.1 (b + 39 + 1 + l2.toNatClampNeg) 10)) fl_X5_74 dX5_hasInState_16 (hB.ship q2.2) rfl ?_
     refine jg_iload_n dX5_hasInState_19 rfl ?_
     refine jg_icmp_ne (x := (s.1 (b + 39 + 1 + l2.toNatClampNeg) 10)) (y := l1) (tgt := 25) dX5_hasInState_20 (by decide) (fun c3 => ?_) (fun c3 => ?_)
     · replace h := it_f c3 h
       refine jg_iinc (x := l2) (v := l2 + nI 1) (L' := [some (.ref (b + 27)), some (.int l1), some (.int (l2 + nI 1))]) dX5_hasInState_25 rfl (ic_k _ (by decide)) (by decide) rfl ?_
       refine jg_goto (tgt := 2) dX5_hasInState_28 (by decide) ?_
       refine jg_fg (L' := [some (.ref (b + 27)), some (.int l1), some (.int (l2 + nI 1))]) (by repeat (first | exact trivial | refine ⟨rfl, ?_⟩ | show jg_le _ _)) ?_
       exact ih (l2 + nI 1) h
     · replace h := it_t c3 h
       refine jg_iconst (v := nI 1) dX5_hasInState_23 (by decide) ?_
       obtain rfl := Option.some.inj h
       exact jg_zreturn dX5_hasInState_24 rfl (rfl) (K2 _ rfl)
noncomputable def o_X5_hasInState (F : Nat) (τ : cT) (n : Nat) (b : Nat) (s : cS) (a1 : Int32) : Option (Int32) := (o_X5_hasInState_2 F τ n b a1 s F (nI 0)).bind fun x4 => (Sum.elim (fun y5 => some (nI 0)) (fun z6 => some z6) x4)
set_option maxHeartbeats 4000000 in
theorem t_X5_hasInState {Γ : jg_G} {g : Nat → jg_C} (F : Nat) (τ : cT) (n : Nat) (b : Nat) (s : cS) (a1 : Int32) (hB : Bd τ n b) {x : Int32} (h : o_X5_hasInState F τ n b s a1 = some x) : jc Γ mX5_hasInState 0 0 0 [some (.ref (b + 27)), some (.int a1), none] (ct_h g τ s, n) (.inl (some (.int x))) (ct_h g τ s, n) := by
  refine jc_of ?_
  rw [o_X5_hasInState] at h
  refine jg_iconst (v := nI 0) dX5_hasInState_0 (by decide) ?_
  refine jg_istore_n (L' := [some (.ref (b + 27)), some (.int a1), some (.int (nI 0))]) dX5_hasInState_1 (by decide) rfl ?_
  obtain ⟨x4, e_x4, h⟩ := bd_some h
  refine jg_fg (L' := [some (.ref (b + 27)), some (.int a1), some (.int (nI 0))]) (by repeat (first | exact trivial | refine ⟨rfl, ?_⟩ | show jg_le _ _)) ?_
  refine t_X5_hasInState_2  F τ n b a1 s hB _ (x := x4) ?_ ?_ F (nI 0) e_x4
  · intro y5 ey; subst ey; replace h := se_l h
    refine jg_iconst (v := nI 0) dX5_hasInState_31 (by decide) ?_
    obtain rfl := Option.some.inj h
    exact jg_zreturn dX5_hasInState_32 rfl (rfl) ⟨rfl, rfl⟩
  · intro z6 ez; subst ez; replace h := se_r h
    obtain rfl := Option.some.inj h
    exact ⟨rfl, rfl⟩
theorem dX5_cellOf_0 : decode cX5_cellOf 0 = .ok (.iload_n 1, 1) := by decide +kernel
theorem dX5_cellOf_1 : decode cX5_cellOf 1 = .ok (.ifCond .lt 23, 3) := by decide +kernel
theorem dX5_cellOf_4 : decode cX5_cellOf 4 = .ok (.iload_n 1, 1) := by decide +kernel
theorem dX5_cellOf_5 : decode cX5_cellOf 5 = .ok (.aload_n 0, 1) := by decide +kernel
theorem dX5_cellOf_6 : decode cX5_cellOf 6 = .ok (.getfield 38, 3) := by decide +kernel
theorem dX5_cellOf_9 : decode cX5_cellOf 9 = .ok (.if_icmp .ge 15, 3) := by decide +kernel
theorem dX5_cellOf_12 : decode cX5_cellOf 12 = .ok (.aload_n 0, 1) := by decide +kernel
theorem dX5_cellOf_13 : decode cX5_cellOf 13 = .ok (.getfield 11, 3) := by decide +kernel
theorem dX5_cellOf_16 : decode cX5_cellOf 16 = .ok (.iload_n 1, 1) := by decide +kernel
theorem dX5_cellOf_17 : decode cX5_cellOf 17 = .ok (.aaload, 1) := by decide +kernel
theorem dX5_cellOf_18 : decode cX5_cellOf 18 = .ok (.getfield 68, 3) := by decide +kernel
theorem dX5_cellOf_21 : decode cX5_cellOf 21 = .ok (.goto 4, 3) := by decide +kernel
theorem dX5_cellOf_24 : decode cX5_cellOf 24 = .ok (.iconst 0, 1) := by decide +kernel
theorem dX5_cellOf_25 : decode cX5_cellOf 25 = .ok (.ireturn, 1) := by decide +kernel
noncomputable def o_X5_cellOf (τ : cT) (n : Nat) (b : Nat) (s : cS) (a1 : Int32) : Option (Int32) := if a1 < 0 then (some (nI 0)) else (if (s.1 (b + 27) 1) ≤ a1 then (some (nI 0)) else (if iL a1 10 then (some (s.1 (b + 28 + 1 + a1.toNatClampNeg) 0)) else none))
set_option maxHeartbeats 4000000 in
theorem t_X5_cellOf {Γ : jg_G} {g : Nat → jg_C} (τ : cT) (n : Nat) (b : Nat) (s : cS) (a1 : Int32) (hB : Bd τ n b) {x : Int32} (h : o_X5_cellOf τ n b s a1 = some x) : jc Γ mX5_cellOf 0 0 0 [some (.ref (b + 27)), some (.int a1)] (ct_h g τ s, n) (.inl (some (.int x))) (ct_h g τ s, n) := by
  refine jc_of ?_
  rw [o_X5_cellOf] at h
  refine jg_iload_n dX5_cellOf_0 rfl ?_
  refine jg_if_lt (x := a1) (tgt := 24) dX5_cellOf_1 (by decide) (fun c1 => ?_) (fun c1 => ?_)
  · replace h := it_t c1 h
    refine jg_iconst (v := nI 0) dX5_cellOf_24 (by decide) ?_
    obtain rfl := Option.some.inj h
    exact jg_ireturn dX5_cellOf_25 rfl ⟨rfl, rfl⟩
  · replace h := it_f c1 h
    refine jg_iload_n dX5_cellOf_4 rfl ?_
    refine jg_aload_n dX5_cellOf_5 rfl ?_
    refine cs_get (s := s) (w := .int (s.1 (b + 27) 1)) fl_X5_38 dX5_cellOf_6 (hB.ob 27 (by decide) rfl) rfl ?_
    refine jg_icmp_ge (x := a1) (y := (s.1 (b + 27) 1)) (tgt := 24) dX5_cellOf_9 (by decide) (fun c2 => ?_) (fun c2 => ?_)
    · replace h := it_t c2 h
      refine jg_iconst (v := nI 0) dX5_cellOf_24 (by decide) ?_
      obtain rfl := Option.some.inj h
      exact jg_ireturn dX5_cellOf_25 rfl ⟨rfl, rfl⟩
    · replace h := it_f c2 h
      refine jg_aload_n dX5_cellOf_12 rfl ?_
      refine cs_get (s := s) (w := .ref (b + 28)) fl_X5_11 dX5_cellOf_13 (hB.ob 27 (by decide) rfl) rfl ?_
      refine jg_iload_n dX5_cellOf_16 rfl ?_
      obtain ⟨q3, h⟩ := gd_some h
      refine cs_ldr (s := s) (q := (b + 28)) (i := a1) (kd := 5) (by decide) dX5_cellOf_17 (hB.ar 28 (by decide) rfl) q3 ?_
      refine cs_get (s := s) (w := .int (s.1 (b + 28 + 1 + a1.toNatClampNeg) 0)) fl_X5_68 dX5_cellOf_18 (hB.berth q3.2) rfl ?_
      refine jg_goto (tgt := 25) dX5_cellOf_21 (by decide) ?_
      obtain rfl := Option.some.inj h
      exact jg_ireturn dX5_cellOf_25 rfl ⟨rfl, rfl⟩
theorem dX8_bears_0 : decode cX8_bears 0 = .ok (.iconst 0, 1) := by decide +kernel
theorem dX8_bears_1 : decode cX8_bears 1 = .ok (.istore 6, 2) := by decide +kernel
theorem dX8_bears_3 : decode cX8_bears 3 = .ok (.iload 6, 2) := by decide +kernel
theorem dX8_bears_5 : decode cX8_bears 5 = .ok (.iload_n 3, 1) := by decide +kernel
theorem dX8_bears_6 : decode cX8_bears 6 = .ok (.if_icmp .gt 59, 3) := by decide +kernel
theorem dX8_bears_9 : decode cX8_bears 9 = .ok (.iload 6, 2) := by decide +kernel
theorem dX8_bears_11 : decode cX8_bears 11 = .ok (.aload_n 2, 1) := by decide +kernel
theorem dX8_bears_12 : decode cX8_bears 12 = .ok (.arraylength, 1) := by decide +kernel
theorem dX8_bears_13 : decode cX8_bears 13 = .ok (.if_icmp .ge 52, 3) := by decide +kernel
theorem dX8_bears_16 : decode cX8_bears 16 = .ok (.iload 5, 2) := by decide +kernel
theorem dX8_bears_18 : decode cX8_bears 18 = .ok (.ifCond .eq 10, 3) := by decide +kernel
theorem dX8_bears_21 : decode cX8_bears 21 = .ok (.iload_n 3, 1) := by decide +kernel
theorem dX8_bears_22 : decode cX8_bears 22 = .ok (.iload 6, 2) := by decide +kernel
theorem dX8_bears_24 : decode cX8_bears 24 = .ok (.isub, 1) := by decide +kernel
theorem dX8_bears_25 : decode cX8_bears 25 = .ok (.goto 5, 3) := by decide +kernel
theorem dX8_bears_28 : decode cX8_bears 28 = .ok (.iload 6, 2) := by decide +kernel
theorem dX8_bears_30 : decode cX8_bears 30 = .ok (.istore 7, 2) := by decide +kernel
theorem dX8_bears_32 : decode cX8_bears 32 = .ok (.aload_n 2, 1) := by decide +kernel
theorem dX8_bears_33 : decode cX8_bears 33 = .ok (.iload 6, 2) := by decide +kernel
theorem dX8_bears_35 : decode cX8_bears 35 = .ok (.iaload, 1) := by decide +kernel
theorem dX8_bears_36 : decode cX8_bears 36 = .ok (.aload_n 0, 1) := by decide +kernel
theorem dX8_bears_37 : decode cX8_bears 37 = .ok (.getfield 21, 3) := by decide +kernel
theorem dX8_bears_40 : decode cX8_bears 40 = .ok (.iload 4, 2) := by decide +kernel
theorem dX8_bears_42 : decode cX8_bears 42 = .ok (.iload 7, 2) := by decide +kernel
theorem dX8_bears_44 : decode cX8_bears 44 = .ok (.bipush 6, 2) := by decide +kernel
theorem dX8_bears_46 : decode cX8_bears 46 = .ok (.idiv, 1) := by decide +kernel
theorem dX8_bears_47 : decode cX8_bears 47 = .ok (.iadd, 1) := by decide +kernel
theorem dX8_bears_48 : decode cX8_bears 48 = .ok (.bipush 25, 2) := by decide +kernel
theorem dX8_bears_50 : decode cX8_bears 50 = .ok (.irem, 1) := by decide +kernel
theorem dX8_bears_51 : decode cX8_bears 51 = .ok (.iaload, 1) := by decide +kernel
theorem dX8_bears_52 : decode cX8_bears 52 = .ok (.iadd, 1) := by decide +kernel
theorem dX8_bears_53 : decode cX8_bears 53 = .ok (.iload_n 1, 1) := by decide +kernel
theorem dX8_bears_54 : decode cX8_bears 54 = .ok (.if_icmp .ge 5, 3) := by decide +kernel
theorem dX8_bears_57 : decode cX8_bears 57 = .ok (.iconst 0, 1) := by decide +kernel
theorem dX8_bears_58 : decode cX8_bears 58 = .ok (.ireturn, 1) := by decide +kernel
theorem dX8_bears_59 : decode cX8_bears 59 = .ok (.iinc 6 1, 3) := by decide +kernel
theorem dX8_bears_62 : decode cX8_bears 62 = .ok (.goto (-59), 3) := by decide +kernel
theorem dX8_bears_65 : decode cX8_bears 65 = .ok (.iconst 1, 1) := by decide +kernel
theorem dX8_bears_66 : decode cX8_bears 66 = .ok (.ireturn, 1) := by decide +kernel
noncomputable def o_X8_bears_3 (F : Nat) (τ : cT) (n : Nat) (b : Nat) (a2 : Nat) (l1 : Int32) (l3 : Int32) (l4 : Int32) (l5 : Int32) (s : cS) : Nat → Int32 → Option ((Unit) ⊕ (Int32))
  | 0, _ => none
  | f + 1, l6 => if l3 < l6 then (some (.inl ())) else (if (nI 24) ≤ l6 then (some (.inl ())) else (if l5 = 0 then (if iL l6 24 then (if iL (irm (l4 + (l6 / (nI 6))) (nI 25)) 25 then (if l1 ≤ ((cg s a2 l6) + (cg s (b + 5) (irm (l4 + (l6 / (nI 6))) (nI 25)))) then (o_X8_bears_3 F τ n b a2 l1 l3 l4 l5 s f (l6 + nI 1)) else (some (.inr (nI 0)))) else none) else none) else (if iL l6 24 then (if iL (irm (l4 + ((l3 - l6) / (nI 6))) (nI 25)) 25 then (if l1 ≤ ((cg s a2 l6) + (cg s (b + 5) (irm (l4 + ((l3 - l6) / (nI 6))) (nI 25)))) then (o_X8_bears_3 F τ n b a2 l1 l3 l4 l5 s f (l6 + nI 1)) else (some (.inr (nI 0)))) else none) else none)))
set_option maxHeartbeats 4000000 in
theorem t_X8_bears_3 {Γ : jg_G} {g : Nat → jg_C} (F : Nat) (τ : cT) (n : Nat) (b : Nat) (a2 : Nat) (l1 : Int32) (l3 : Int32) (l4 : Int32) (l5 : Int32) (s : cS) (hB : Bd τ n b) (h2 : Ar τ n a2 0 24) (Q : jg_Q) {x : (Unit) ⊕ (Int32)} (K1 : ∀ y, x = .inl y → jg Γ mX8_bears 0 0 0 65 [none, none, none, none, none, none, none, none] [] (ct_h g τ s, n) Q) (K2 : ∀ z, x = .inr z → Q (.inl (some (.int z))) (ct_h g τ s, n)) : ∀ (f : Nat) (l6 : Int32), o_X8_bears_3 F τ n b a2 l1 l3 l4 l5 s f l6 = some x → jg Γ mX8_bears 0 0 0 3 [some (.ref (b + 1)), some (.int l1), some (.ref a2), some (.int l3), some (.int l4), some (.int l5), some (.int l6), none] [] (ct_h g τ s, n) Q := by
  intro f
  induction f with
  | zero => intro l6 h; rw [o_X8_bears_3] at h; cases h
  | succ f ih =>
   intro l6 h
   rw [o_X8_bears_3] at h
   refine jg_iload dX8_bears_3 rfl ?_
   refine jg_iload_n dX8_bears_5 rfl ?_
   refine jg_icmp_gt (x := l6) (y := l3) (tgt := 65) dX8_bears_6 (by decide) (fun c1 => ?_) (fun c1 => ?_)
   · replace h := it_t c1 h
     refine jg_fg (L' := [none, none, none, none, none, none, none, none]) (by repeat (first | exact trivial | refine ⟨rfl, ?_⟩ | show jg_le _ _)) ?_
     obtain rfl := Option.some.inj h
     exact K1 _ rfl
   · replace h := it_f c1 h
     refine jg_iload dX8_bears_9 rfl ?_
     refine jg_aload_n dX8_bears_11 rfl ?_
     refine cs_len (s := s) (q := a2) (by decide) dX8_bears_12 h2 ?_
     refine jg_icmp_ge (x := l6) (y := (nI 24)) (tgt := 65) dX8_bears_13 (by decide) (fun c2 => ?_) (fun c2 => ?_)
     · replace h := it_t c2 h
       refine jg_fg (L' := [none, none, none, none, none, none, none, none]) (by repeat (first | exact trivial | refine ⟨rfl, ?_⟩ | show jg_le _ _)) ?_
       obtain rfl := Option.some.inj h
       exact K1 _ rfl
     · replace h := it_f c2 h
       refine jg_iload dX8_bears_16 rfl ?_
       refine jg_if_eq (x := l5) (tgt := 28) dX8_bears_18 (by decide) (fun c3 => ?_) (fun c3 => ?_)
       · replace h := it_t c3 h
         refine jg_iload dX8_bears_28 rfl ?_
         refine jg_istore (L' := [some (.ref (b + 1)), some (.int l1), some (.ref a2), some (.int l3), some (.int l4), some (.int l5), some (.int l6), some (.int l6)]) dX8_bears_30 (by decide) rfl ?_
         refine jg_aload_n dX8_bears_32 rfl ?_
         refine jg_iload dX8_bears_33 rfl ?_
         obtain ⟨q4, h⟩ := gd_some h
         refine cs_lda (s := s) (q := a2) (i := l6) dX8_bears_35 h2 q4 ?_
         refine jg_aload_n dX8_bears_36 rfl ?_
         refine cs_get (s := s) (w := .ref (b + 5)) fl_X8_21 dX8_bears_37 (hB.ob 1 (by decide) rfl) rfl ?_
         refine jg_iload dX8_bears_40 rfl ?_
         refine jg_iload dX8_bears_42 rfl ?_
         refine jg_bipush (v := nI 6) dX8_bears_44 (by decide) ?_
         refine jg_idiv (x := l6) (y := (nI 6)) dX8_bears_46 (by decide) ?_
         refine jg_iadd (x := l4) (y := (l6 / (nI 6))) dX8_bears_47  ?_
         refine jg_bipush (v := nI 25) dX8_bears_48 (by decide) ?_
         refine jg_iremR (x := (l4 + (l6 / (nI 6)))) (y := (nI 25)) dX8_bears_50 (by decide) ?_
         obtain ⟨q5, h⟩ := gd_some h
         refine cs_lda (s := s) (q := (b + 5)) (i := (irm (l4 + (l6 / (nI 6))) (nI 25))) dX8_bears_51 (hB.ar 5 (by decide) rfl) q5 ?_
         refine jg_iadd (x := (cg s a2 l6)) (y := (cg s (b + 5) (irm (l4 + (l6 / (nI 6))) (nI 25)))) dX8_bears_52  ?_
         refine jg_iload_n dX8_bears_53 rfl ?_
         refine jg_icmp_ge (x := ((cg s a2 l6) + (cg s (b + 5) (irm (l4 + (l6 / (nI 6))) (nI 25))))) (y := l1) (tgt := 59) dX8_bears_54 (by decide) (fun c6 => ?_) (fun c6 => ?_)
         · replace h := it_t c6 h
           refine jg_iinc (x := l6) (v := l6 + nI 1) (L' := [some (.ref (b + 1)), some (.int l1), some (.ref a2), some (.int l3), some (.int l4), some (.int l5), some (.int (l6 + nI 1)), some (.int l6)]) dX8_bears_59 rfl (ic_k _ (by decide)) (by decide) rfl ?_
           refine jg_goto (tgt := 3) dX8_bears_62 (by decide) ?_
           refine jg_fg (L' := [some (.ref (b + 1)), some (.int l1), some (.ref a2), some (.int l3), some (.int l4), some (.int l5), some (.int (l6 + nI 1)), none]) (by repeat (first | exact trivial | refine ⟨rfl, ?_⟩ | show jg_le _ _)) ?_
           exact ih (l6 + nI 1) h
         · replace h := it_f c6 h
           refine jg_iconst (v := nI 0) dX8_bears_57 (by decide) ?_
           obtain rfl := Option.some.inj h
           exact jg_zreturn dX8_bears_58 rfl (rfl) (K2 _ rfl)
       · replace h := it_f c3 h
         refine jg_iload_n dX8_bears_21 rfl ?_
         refine jg_iload dX8_bears_22 rfl ?_
         refine jg_isub (x := l3) (y := l6) dX8_bears_24  ?_
         refine jg_goto (tgt := 30) dX8_bears_25 (by decide) ?_
         refine jg_istore (L' := [some (.ref (b + 1)), some (.int l1), some (.ref a2), some (.int l3), some (.int l4), some (.int l5), some (.int l6), some (.int (l3 - l6))]) dX8_bears_30 (by decide) rfl ?_
         refine jg_aload_n dX8_bears_32 rfl ?_
         refine jg_iload dX8_bears_33 rfl ?_
         obtain ⟨q7, h⟩ := gd_some h
         refine cs_lda (s := s) (q := a2) (i := l6) dX8_bears_35 h2 q7 ?_
         refine jg_aload_n dX8_bears_36 rfl ?_
         refine cs_get (s := s) (w := .ref (b + 5)) fl_X8_21 dX8_bears_37 (hB.ob 1 (by decide) rfl) rfl ?_
         refine jg_iload dX8_bears_40 rfl ?_
         refine jg_iload dX8_bears_42 rfl ?_
         refine jg_bipush (v := nI 6) dX8_bears_44 (by decide) ?_
         refine jg_idiv (x := (l3 - l6)) (y := (nI 6)) dX8_bears_46 (by decide) ?_
         refine jg_iadd (x := l4) (y := ((l3 - l6) / (nI 6))) dX8_bears_47  ?_
         refine jg_bipush (v := nI 25) dX8_bears_48 (by decide) ?_
         refine jg_iremR (x := (l4 + ((l3 - l6) / (nI 6)))) (y := (nI 25)) dX8_bears_50 (by decide) ?_
         obtain ⟨q8, h⟩ := gd_some h
         refine cs_lda (s := s) (q := (b + 5)) (i := (irm (l4 + ((l3 - l6) / (nI 6))) (nI 25))) dX8_bears_51 (hB.ar 5 (by decide) rfl) q8 ?_
         refine jg_iadd (x := (cg s a2 l6)) (y := (cg s (b + 5) (irm (l4 + ((l3 - l6) / (nI 6))) (nI 25)))) dX8_bears_52  ?_
         refine jg_iload_n dX8_bears_53 rfl ?_
         refine jg_icmp_ge (x := ((cg s a2 l6) + (cg s (b + 5) (irm (l4 + ((l3 - l6) / (nI 6))) (nI 25))))) (y := l1) (tgt := 59) dX8_bears_54 (by decide) (fun c9 => ?_) (fun c9 => ?_)
         · replace h := it_t c9 h
           refine jg_iinc (x := l6) (v := l6 + nI 1) (L' := [some (.ref (b + 1)), some (.int l1), some (.ref a2), some (.int l3), some (.int l4), some (.int l5), some (.int (l6 + nI 1)), some (.int (l3 - l6))]) dX8_bears_59 rfl (ic_k _ (by decide)) (by decide) rfl ?_
           refine jg_goto (tgt := 3) dX8_bears_62 (by decide) ?_
           refine jg_fg (L' := [some (.ref (b + 1)), some (.int l1), some (.ref a2), some (.int l3), some (.int l4), some (.int l5), some (.int (l6 + nI 1)), none]) (by repeat (first | exact trivial | refine ⟨rfl, ?_⟩ | show jg_le _ _)) ?_
           exact ih (l6 + nI 1) h
         · replace h := it_f c9 h
           refine jg_iconst (v := nI 0) dX8_bears_57 (by decide) ?_
           obtain rfl := Option.some.inj h
           exact jg_zreturn dX8_bears_58 rfl (rfl) (K2 _ rfl)
noncomputable def o_X8_bears (F : Nat) (τ : cT) (n : Nat) (b : Nat) (a2 : Nat) (s : cS) (a1 : Int32) (a3 : Int32) (a4 : Int32) (a5 : Int32) : Option (Int32) := (o_X8_bears_3 F τ n b a2 a1 a3 a4 a5 s F (nI 0)).bind fun x10 => (Sum.elim (fun y11 => some (nI 1)) (fun z12 => some z12) x10)
set_option maxHeartbeats 4000000 in
theorem t_X8_bears {Γ : jg_G} {g : Nat → jg_C} (F : Nat) (τ : cT) (n : Nat) (b : Nat) (a2 : Nat) (s : cS) (a1 : Int32) (a3 : Int32) (a4 : Int32) (a5 : Int32) (hB : Bd τ n b) (h2 : Ar τ n a2 0 24) {x : Int32} (h : o_X8_bears F τ n b a2 s a1 a3 a4 a5 = some x) : jc Γ mX8_bears 0 0 0 [some (.ref (b + 1)), some (.int a1), some (.ref a2), some (.int a3), some (.int a4), some (.int a5), none, none] (ct_h g τ s, n) (.inl (some (.int x))) (ct_h g τ s, n) := by
  refine jc_of ?_
  rw [o_X8_bears] at h
  refine jg_iconst (v := nI 0) dX8_bears_0 (by decide) ?_
  refine jg_istore (L' := [some (.ref (b + 1)), some (.int a1), some (.ref a2), some (.int a3), some (.int a4), some (.int a5), some (.int (nI 0)), none]) dX8_bears_1 (by decide) rfl ?_
  obtain ⟨x10, e_x10, h⟩ := bd_some h
  refine jg_fg (L' := [some (.ref (b + 1)), some (.int a1), some (.ref a2), some (.int a3), some (.int a4), some (.int a5), some (.int (nI 0)), none]) (by repeat (first | exact trivial | refine ⟨rfl, ?_⟩ | show jg_le _ _)) ?_
  refine t_X8_bears_3  F τ n b a2 a1 a3 a4 a5 s hB h2 _ (x := x10) ?_ ?_ F (nI 0) e_x10
  · intro y11 ey; subst ey; replace h := se_l h
    refine jg_iconst (v := nI 1) dX8_bears_65 (by decide) ?_
    obtain rfl := Option.some.inj h
    exact jg_zreturn dX8_bears_66 rfl (rfl) ⟨rfl, rfl⟩
  · intro z12 ez; subst ez; replace h := se_r h
    obtain rfl := Option.some.inj h
    exact ⟨rfl, rfl⟩
theorem dX2_stayOf_0 : decode cX2_stayOf 0 = .ok (.aload_n 1, 1) := by decide +kernel
theorem dX2_stayOf_1 : decode cX2_stayOf 1 = .ok (.getfield 163, 3) := by decide +kernel
theorem dX2_stayOf_4 : decode cX2_stayOf 4 = .ok (.iconst 4, 1) := by decide +kernel
theorem dX2_stayOf_5 : decode cX2_stayOf 5 = .ok (.if_icmp .ne 10, 3) := by decide +kernel
theorem dX2_stayOf_8 : decode cX2_stayOf 8 = .ok (.aload_n 1, 1) := by decide +kernel
theorem dX2_stayOf_9 : decode cX2_stayOf 9 = .ok (.getfield 209, 3) := by decide +kernel
theorem dX2_stayOf_12 : decode cX2_stayOf 12 = .ok (.goto 7, 3) := by decide +kernel
theorem dX2_stayOf_15 : decode cX2_stayOf 15 = .ok (.aload_n 0, 1) := by decide +kernel
theorem dX2_stayOf_16 : decode cX2_stayOf 16 = .ok (.getfield 9, 3) := by decide +kernel
theorem dX2_stayOf_19 : decode cX2_stayOf 19 = .ok (.aload_n 1, 1) := by decide +kernel
theorem dX2_stayOf_20 : decode cX2_stayOf 20 = .ok (.getfield 282, 3) := by decide +kernel
theorem dX2_stayOf_23 : decode cX2_stayOf 23 = .ok (.isub, 1) := by decide +kernel
theorem dX2_stayOf_24 : decode cX2_stayOf 24 = .ok (.ireturn, 1) := by decide +kernel
noncomputable def o_X2_stayOf (τ : cT) (n : Nat) (b : Nat) (a1 : Nat) (s : cS) : Option (Int32) := if (s.1 a1 10) = (nI 4) then (some ((s.1 a1 14) - (s.1 a1 9))) else (some ((s.1 b 0) - (s.1 a1 9)))
set_option maxHeartbeats 4000000 in
theorem t_X2_stayOf {Γ : jg_G} {g : Nat → jg_C} (τ : cT) (n : Nat) (b : Nat) (a1 : Nat) (s : cS) (hB : Bd τ n b) (h1 : Ob τ n a1 9) {x : Int32} (h : o_X2_stayOf τ n b a1 s = some x) : jc Γ mX2_stayOf 0 0 0 [some (.ref b), some (.ref a1)] (ct_h g τ s, n) (.inl (some (.int x))) (ct_h g τ s, n) := by
  refine jc_of ?_
  rw [o_X2_stayOf] at h
  refine jg_aload_n dX2_stayOf_0 rfl ?_
  refine cs_get (s := s) (w := .int (s.1 a1 10)) fl_X2_163 dX2_stayOf_1 h1 rfl ?_
  refine jg_iconst (v := nI 4) dX2_stayOf_4 (by decide) ?_
  refine jg_icmp_ne (x := (s.1 a1 10)) (y := (nI 4)) (tgt := 15) dX2_stayOf_5 (by decide) (fun c1 => ?_) (fun c1 => ?_)
  · replace h := it_f c1 h
    refine jg_aload_n dX2_stayOf_15 rfl ?_
    refine cs_get (s := s) (w := .int (s.1 b 0)) fl_X2_9 dX2_stayOf_16 hB.ob0 rfl ?_
    refine jg_aload_n dX2_stayOf_19 rfl ?_
    refine cs_get (s := s) (w := .int (s.1 a1 9)) fl_X2_282 dX2_stayOf_20 h1 rfl ?_
    refine jg_isub (x := (s.1 b 0)) (y := (s.1 a1 9)) dX2_stayOf_23  ?_
    obtain rfl := Option.some.inj h
    exact jg_ireturn dX2_stayOf_24 rfl ⟨rfl, rfl⟩
  · replace h := it_t c1 h
    refine jg_aload_n dX2_stayOf_8 rfl ?_
    refine cs_get (s := s) (w := .int (s.1 a1 14)) fl_X2_209 dX2_stayOf_9 h1 rfl ?_
    refine jg_goto (tgt := 19) dX2_stayOf_12 (by decide) ?_
    refine jg_aload_n dX2_stayOf_19 rfl ?_
    refine cs_get (s := s) (w := .int (s.1 a1 9)) fl_X2_282 dX2_stayOf_20 h1 rfl ?_
    refine jg_isub (x := (s.1 a1 14)) (y := (s.1 a1 9)) dX2_stayOf_23  ?_
    obtain rfl := Option.some.inj h
    exact jg_ireturn dX2_stayOf_24 rfl ⟨rfl, rfl⟩
theorem dX2_askOfShip_0 : decode cX2_askOfShip 0 = .ok (.iconst 0, 1) := by decide +kernel
theorem dX2_askOfShip_1 : decode cX2_askOfShip 1 = .ok (.istore_n 3, 1) := by decide +kernel
theorem dX2_askOfShip_2 : decode cX2_askOfShip 2 = .ok (.iload_n 3, 1) := by decide +kernel
theorem dX2_askOfShip_3 : decode cX2_askOfShip 3 = .ok (.bipush 6, 2) := by decide +kernel
theorem dX2_askOfShip_5 : decode cX2_askOfShip 5 = .ok (.if_icmp .ge 28, 3) := by decide +kernel
theorem dX2_askOfShip_8 : decode cX2_askOfShip 8 = .ok (.aload_n 0, 1) := by decide +kernel
theorem dX2_askOfShip_9 : decode cX2_askOfShip 9 = .ok (.getfield 63, 3) := by decide +kernel
theorem dX2_askOfShip_12 : decode cX2_askOfShip 12 = .ok (.iload_n 3, 1) := by decide +kernel
theorem dX2_askOfShip_13 : decode cX2_askOfShip 13 = .ok (.aload_n 1, 1) := by decide +kernel
theorem dX2_askOfShip_14 : decode cX2_askOfShip 14 = .ok (.getfield 285, 3) := by decide +kernel
theorem dX2_askOfShip_17 : decode cX2_askOfShip 17 = .ok (.iload_n 3, 1) := by decide +kernel
theorem dX2_askOfShip_18 : decode cX2_askOfShip 18 = .ok (.if_icmp .ne 7, 3) := by decide +kernel
theorem dX2_askOfShip_21 : decode cX2_askOfShip 21 = .ok (.iconst 1, 1) := by decide +kernel
theorem dX2_askOfShip_22 : decode cX2_askOfShip 22 = .ok (.goto 4, 3) := by decide +kernel
theorem dX2_askOfShip_25 : decode cX2_askOfShip 25 = .ok (.iconst 0, 1) := by decide +kernel
theorem dX2_askOfShip_26 : decode cX2_askOfShip 26 = .ok (.iastore, 1) := by decide +kernel
theorem dX2_askOfShip_27 : decode cX2_askOfShip 27 = .ok (.iinc 3 1, 3) := by decide +kernel
theorem dX2_askOfShip_30 : decode cX2_askOfShip 30 = .ok (.goto (-28), 3) := by decide +kernel
theorem dX2_askOfShip_33 : decode cX2_askOfShip 33 = .ok (.aload_n 0, 1) := by decide +kernel
theorem dX2_askOfShip_34 : decode cX2_askOfShip 34 = .ok (.getfield 63, 3) := by decide +kernel
theorem dX2_askOfShip_37 : decode cX2_askOfShip 37 = .ok (.bipush 6, 2) := by decide +kernel
theorem dX2_askOfShip_39 : decode cX2_askOfShip 39 = .ok (.aload_n 1, 1) := by decide +kernel
theorem dX2_askOfShip_40 : decode cX2_askOfShip 40 = .ok (.getfield 288, 3) := by decide +kernel
theorem dX2_askOfShip_43 : decode cX2_askOfShip 43 = .ok (.ifCond .eq 7, 3) := by decide +kernel
theorem dX2_askOfShip_46 : decode cX2_askOfShip 46 = .ok (.iconst 1, 1) := by decide +kernel
theorem dX2_askOfShip_47 : decode cX2_askOfShip 47 = .ok (.goto 4, 3) := by decide +kernel
theorem dX2_askOfShip_50 : decode cX2_askOfShip 50 = .ok (.iconst 0, 1) := by decide +kernel
theorem dX2_askOfShip_51 : decode cX2_askOfShip 51 = .ok (.iastore, 1) := by decide +kernel
theorem dX2_askOfShip_52 : decode cX2_askOfShip 52 = .ok (.aload_n 0, 1) := by decide +kernel
theorem dX2_askOfShip_53 : decode cX2_askOfShip 53 = .ok (.getfield 63, 3) := by decide +kernel
theorem dX2_askOfShip_56 : decode cX2_askOfShip 56 = .ok (.bipush 7, 2) := by decide +kernel
theorem dX2_askOfShip_58 : decode cX2_askOfShip 58 = .ok (.aload_n 1, 1) := by decide +kernel
theorem dX2_askOfShip_59 : decode cX2_askOfShip 59 = .ok (.getfield 292, 3) := by decide +kernel
theorem dX2_askOfShip_62 : decode cX2_askOfShip 62 = .ok (.iastore, 1) := by decide +kernel
theorem dX2_askOfShip_63 : decode cX2_askOfShip 63 = .ok (.aload_n 0, 1) := by decide +kernel
theorem dX2_askOfShip_64 : decode cX2_askOfShip 64 = .ok (.getfield 63, 3) := by decide +kernel
theorem dX2_askOfShip_67 : decode cX2_askOfShip 67 = .ok (.bipush 8, 2) := by decide +kernel
theorem dX2_askOfShip_69 : decode cX2_askOfShip 69 = .ok (.aload_n 1, 1) := by decide +kernel
theorem dX2_askOfShip_70 : decode cX2_askOfShip 70 = .ok (.getfield 295, 3) := by decide +kernel
theorem dX2_askOfShip_73 : decode cX2_askOfShip 73 = .ok (.iastore, 1) := by decide +kernel
theorem dX2_askOfShip_74 : decode cX2_askOfShip 74 = .ok (.aload_n 0, 1) := by decide +kernel
theorem dX2_askOfShip_75 : decode cX2_askOfShip 75 = .ok (.getfield 63, 3) := by decide +kernel
theorem dX2_askOfShip_78 : decode cX2_askOfShip 78 = .ok (.bipush 9, 2) := by decide +kernel
theorem dX2_askOfShip_80 : decode cX2_askOfShip 80 = .ok (.iload_n 2, 1) := by decide +kernel
theorem dX2_askOfShip_81 : decode cX2_askOfShip 81 = .ok (.iastore, 1) := by decide +kernel
theorem dX2_askOfShip_82 : decode cX2_askOfShip 82 = .ok (.aload_n 0, 1) := by decide +kernel
theorem dX2_askOfShip_83 : decode cX2_askOfShip 83 = .ok (.getfield 63, 3) := by decide +kernel
theorem dX2_askOfShip_86 : decode cX2_askOfShip 86 = .ok (.bipush 10, 2) := by decide +kernel
theorem dX2_askOfShip_88 : decode cX2_askOfShip 88 = .ok (.iconst 0, 1) := by decide +kernel
theorem dX2_askOfShip_89 : decode cX2_askOfShip 89 = .ok (.iastore, 1) := by decide +kernel
theorem dX2_askOfShip_90 : decode cX2_askOfShip 90 = .ok (.aload_n 0, 1) := by decide +kernel
theorem dX2_askOfShip_91 : decode cX2_askOfShip 91 = .ok (.getfield 63, 3) := by decide +kernel
theorem dX2_askOfShip_94 : decode cX2_askOfShip 94 = .ok (.bipush 11, 2) := by decide +kernel
theorem dX2_askOfShip_96 : decode cX2_askOfShip 96 = .ok (.iconst 0, 1) := by decide +kernel
theorem dX2_askOfShip_97 : decode cX2_askOfShip 97 = .ok (.iastore, 1) := by decide +kernel
theorem dX2_askOfShip_98 : decode cX2_askOfShip 98 = .ok (.return_, 1) := by decide +kernel
noncomputable def o_X2_askOfShip_2 (F : Nat) (τ : cT) (n : Nat) (b : Nat) (a1 : Nat) (l2 : Int32)  : Nat → Int32 → cS → Option (cS)
  | 0, _, _ => none
  | f + 1, l3, s => if (nI 6) ≤ l3 then (some s) else (if (s.1 a1 0) = l3 then (if iL l3 12 then (o_X2_askOfShip_2 F τ n b a1 l2 f (l3 + nI 1) (ca s (b + 167) l3 (nI 1))) else none) else (if iL l3 12 then (o_X2_askOfShip_2 F τ n b a1 l2 f (l3 + nI 1) (ca s (b + 167) l3 (nI 0))) else none))
set_option maxHeartbeats 4000000 in
theorem t_X2_askOfShip_2 {Γ : jg_G} {g : Nat → jg_C} (F : Nat) (τ : cT) (n : Nat) (b : Nat) (a1 : Nat) (l2 : Int32)  (hB : Bd τ n b) (h1 : Ob τ n a1 9) (Q : jg_Q) {x : cS} (K1 : jg Γ mX2_askOfShip 0 0 0 33 [some (.ref b), some (.ref a1), some (.int l2), none] [] (ct_h g τ x, n) Q)  : ∀ (f : Nat) (l3 : Int32) (s : cS), o_X2_askOfShip_2 F τ n b a1 l2 f l3 s = some x → jg Γ mX2_askOfShip 0 0 0 2 [some (.ref b), some (.ref a1), some (.int l2), some (.int l3)] [] (ct_h g τ s, n) Q := by
  intro f
  induction f with
  | zero => intro l3 s h; rw [o_X2_askOfShip_2] at h; cases h
  | succ f ih =>
   intro l3 s h
   rw [o_X2_askOfShip_2] at h
   refine jg_iload_n dX2_askOfShip_2 rfl ?_
   refine jg_bipush (v := nI 6) dX2_askOfShip_3 (by decide) ?_
   refine jg_icmp_ge (x := l3) (y := (nI 6)) (tgt := 33) dX2_askOfShip_5 (by decide) (fun c1 => ?_) (fun c1 => ?_)
   · replace h := it_t c1 h
     refine jg_fg (L' := [some (.ref b), some (.ref a1), some (.int l2), none]) (by repeat (first | exact trivial | refine ⟨rfl, ?_⟩ | show jg_le _ _)) ?_
     obtain rfl := Option.some.inj h
     exact K1
   · replace h := it_f c1 h
     refine jg_aload_n dX2_askOfShip_8 rfl ?_
     refine cs_get (s := s) (w := .ref (b + 167)) fl_X2_63 dX2_askOfShip_9 hB.ob0 rfl ?_
     refine jg_iload_n dX2_askOfShip_12 rfl ?_
     refine jg_aload_n dX2_askOfShip_13 rfl ?_
     refine cs_get (s := s) (w := .int (s.1 a1 0)) fl_X2_285 dX2_askOfShip_14 h1 rfl ?_
     refine jg_iload_n dX2_askOfShip_17 rfl ?_
     refine jg_icmp_ne (x := (s.1 a1 0)) (y := l3) (tgt := 25) dX2_askOfShip_18 (by decide) (fun c2 => ?_) (fun c2 => ?_)
     · replace h := it_f c2 h
       refine jg_iconst (v := nI 0) dX2_askOfShip_25 (by decide) ?_
       obtain ⟨q3, h⟩ := gd_some h
       refine cs_sta (s := s) (q := (b + 167)) (i := l3) (x := (nI 0)) dX2_askOfShip_26 (hB.ar 167 (by decide) rfl) q3 ?_
       refine jg_iinc (x := l3) (v := l3 + nI 1) (L' := [some (.ref b), some (.ref a1), some (.int l2), some (.int (l3 + nI 1))]) dX2_askOfShip_27 rfl (ic_k _ (by decide)) (by decide) rfl ?_
       refine jg_goto (tgt := 2) dX2_askOfShip_30 (by decide) ?_
       refine jg_fg (L' := [some (.ref b), some (.ref a1), some (.int l2), some (.int (l3 + nI 1))]) (by repeat (first | exact trivial | refine ⟨rfl, ?_⟩ | show jg_le _ _)) ?_
       exact ih (l3 + nI 1) (ca s (b + 167) l3 (nI 0)) h
     · replace h := it_t c2 h
       refine jg_iconst (v := nI 1) dX2_askOfShip_21 (by decide) ?_
       refine jg_goto (tgt := 26) dX2_askOfShip_22 (by decide) ?_
       obtain ⟨q4, h⟩ := gd_some h
       refine cs_sta (s := s) (q := (b + 167)) (i := l3) (x := (nI 1)) dX2_askOfShip_26 (hB.ar 167 (by decide) rfl) q4 ?_
       refine jg_iinc (x := l3) (v := l3 + nI 1) (L' := [some (.ref b), some (.ref a1), some (.int l2), some (.int (l3 + nI 1))]) dX2_askOfShip_27 rfl (ic_k _ (by decide)) (by decide) rfl ?_
       refine jg_goto (tgt := 2) dX2_askOfShip_30 (by decide) ?_
       refine jg_fg (L' := [some (.ref b), some (.ref a1), some (.int l2), some (.int (l3 + nI 1))]) (by repeat (first | exact trivial | refine ⟨rfl, ?_⟩ | show jg_le _ _)) ?_
       exact ih (l3 + nI 1) (ca s (b + 167) l3 (nI 1)) h
noncomputable def o_X2_askOfShip (F : Nat) (τ : cT) (n : Nat) (b : Nat) (a1 : Nat) (s : cS) (a2 : Int32) : Option (cS) := (o_X2_askOfShip_2 F τ n b a1 a2 F (nI 0) s).bind fun x5 => (if (x5.1 a1 3) = 0 then ((some (ca (ca x5 (b + 167) (nI 6) (nI 0)) (b + 167) (nI 7) ((ca x5 (b + 167) (nI 6) (nI 0)).1 a1 1))).bind fun x7 => ((some (ca (ca (ca x7 (b + 167) (nI 8) (x7.1 a1 2)) (b + 167) (nI 9) a2) (b + 167) (nI 10) (nI 0))).bind fun x8 => (some (ca x8 (b + 167) (nI 11) (nI 0))))) else ((some (ca (ca x5 (b + 167) (nI 6) (nI 1)) (b + 167) (nI 7) ((ca x5 (b + 167) (nI 6) (nI 1)).1 a1 1))).bind fun x9 => ((some (ca (ca (ca x9 (b + 167) (nI 8) (x9.1 a1 2)) (b + 167) (nI 9) a2) (b + 167) (nI 10) (nI 0))).bind fun x10 => (some (ca x10 (b + 167) (nI 11) (nI 0))))))
set_option maxHeartbeats 4000000 in
theorem t_X2_askOfShip {Γ : jg_G} {g : Nat → jg_C} (F : Nat) (τ : cT) (n : Nat) (b : Nat) (a1 : Nat) (s : cS) (a2 : Int32) (hB : Bd τ n b) (h1 : Ob τ n a1 9) {x : cS} (h : o_X2_askOfShip F τ n b a1 s a2 = some x) : jc Γ mX2_askOfShip 0 0 0 [some (.ref b), some (.ref a1), some (.int a2), none] (ct_h g τ s, n) (.inl none) (ct_h g τ x, n) := by
  refine jc_of ?_
  rw [o_X2_askOfShip] at h
  refine jg_iconst (v := nI 0) dX2_askOfShip_0 (by decide) ?_
  refine jg_istore_n (L' := [some (.ref b), some (.ref a1), some (.int a2), some (.int (nI 0))]) dX2_askOfShip_1 (by decide) rfl ?_
  obtain ⟨x5, e_x5, h⟩ := bd_some h
  refine jg_fg (L' := [some (.ref b), some (.ref a1), some (.int a2), some (.int (nI 0))]) (by repeat (first | exact trivial | refine ⟨rfl, ?_⟩ | show jg_le _ _)) ?_
  refine t_X2_askOfShip_2  F τ n b a1 a2 hB h1 _ (x := x5) ?_ F (nI 0) s e_x5
  refine jg_aload_n dX2_askOfShip_33 rfl ?_
  refine cs_get (s := x5) (w := .ref (b + 167)) fl_X2_63 dX2_askOfShip_34 hB.ob0 rfl ?_
  refine jg_bipush (v := nI 6) dX2_askOfShip_37 (by decide) ?_
  refine jg_aload_n dX2_askOfShip_39 rfl ?_
  refine cs_get (s := x5) (w := .int (x5.1 a1 3)) fl_X2_288 dX2_askOfShip_40 h1 rfl ?_
  refine jg_if_eq (x := (x5.1 a1 3)) (tgt := 50) dX2_askOfShip_43 (by decide) (fun c6 => ?_) (fun c6 => ?_)
  · replace h := it_t c6 h
    refine jg_iconst (v := nI 0) dX2_askOfShip_50 (by decide) ?_
    refine cs_sta (s := x5) (q := (b + 167)) (i := (nI 6)) (x := (nI 0)) dX2_askOfShip_51 (hB.ar 167 (by decide) rfl) (by decide) ?_
    refine jg_aload_n dX2_askOfShip_52 rfl ?_
    refine cs_get (s := (ca x5 (b + 167) (nI 6) (nI 0))) (w := .ref (b + 167)) fl_X2_63 dX2_askOfShip_53 hB.ob0 rfl ?_
    refine jg_bipush (v := nI 7) dX2_askOfShip_56 (by decide) ?_
    refine jg_aload_n dX2_askOfShip_58 rfl ?_
    refine cs_get (s := (ca x5 (b + 167) (nI 6) (nI 0))) (w := .int ((ca x5 (b + 167) (nI 6) (nI 0)).1 a1 1)) fl_X2_292 dX2_askOfShip_59 h1 rfl ?_
    refine cs_sta (s := (ca x5 (b + 167) (nI 6) (nI 0))) (q := (b + 167)) (i := (nI 7)) (x := ((ca x5 (b + 167) (nI 6) (nI 0)).1 a1 1)) dX2_askOfShip_62 (hB.ar 167 (by decide) rfl) (by decide) ?_
    obtain ⟨x7, e_x7, h⟩ := bd_some h
    refine cs_sub (Option.some.inj e_x7) ?_
    refine jg_aload_n dX2_askOfShip_63 rfl ?_
    refine cs_get (s := x7) (w := .ref (b + 167)) fl_X2_63 dX2_askOfShip_64 hB.ob0 rfl ?_
    refine jg_bipush (v := nI 8) dX2_askOfShip_67 (by decide) ?_
    refine jg_aload_n dX2_askOfShip_69 rfl ?_
    refine cs_get (s := x7) (w := .int (x7.1 a1 2)) fl_X2_295 dX2_askOfShip_70 h1 rfl ?_
    refine cs_sta (s := x7) (q := (b + 167)) (i := (nI 8)) (x := (x7.1 a1 2)) dX2_askOfShip_73 (hB.ar 167 (by decide) rfl) (by decide) ?_
    refine jg_aload_n dX2_askOfShip_74 rfl ?_
    refine cs_get (s := (ca x7 (b + 167) (nI 8) (x7.1 a1 2))) (w := .ref (b + 167)) fl_X2_63 dX2_askOfShip_75 hB.ob0 rfl ?_
    refine jg_bipush (v := nI 9) dX2_askOfShip_78 (by decide) ?_
    refine jg_iload_n dX2_askOfShip_80 rfl ?_
    refine cs_sta (s := (ca x7 (b + 167) (nI 8) (x7.1 a1 2))) (q := (b + 167)) (i := (nI 9)) (x := a2) dX2_askOfShip_81 (hB.ar 167 (by decide) rfl) (by decide) ?_
    refine jg_aload_n dX2_askOfShip_82 rfl ?_
    refine cs_get (s := (ca (ca x7 (b + 167) (nI 8) (x7.1 a1 2)) (b + 167) (nI 9) a2)) (w := .ref (b + 167)) fl_X2_63 dX2_askOfShip_83 hB.ob0 rfl ?_
    refine jg_bipush (v := nI 10) dX2_askOfShip_86 (by decide) ?_
    refine jg_iconst (v := nI 0) dX2_askOfShip_88 (by decide) ?_
    refine cs_sta (s := (ca (ca x7 (b + 167) (nI 8) (x7.1 a1 2)) (b + 167) (nI 9) a2)) (q := (b + 167)) (i := (nI 10)) (x := (nI 0)) dX2_askOfShip_89 (hB.ar 167 (by decide) rfl) (by decide) ?_
    obtain ⟨x8, e_x8, h⟩ := bd_some h
    refine cs_sub (Option.some.inj e_x8) ?_
    refine jg_aload_n dX2_askOfShip_90 rfl ?_
    refine cs_get (s := x8) (w := .ref (b + 167)) fl_X2_63 dX2_askOfShip_91 hB.ob0 rfl ?_
    refine jg_bipush (v := nI 11) dX2_askOfShip_94 (by decide) ?_
    refine jg_iconst (v := nI 0) dX2_askOfShip_96 (by decide) ?_
    refine cs_sta (s := x8) (q := (b + 167)) (i := (nI 11)) (x := (nI 0)) dX2_askOfShip_97 (hB.ar 167 (by decide) rfl) (by decide) ?_
    obtain rfl := Option.some.inj h
    exact jg_return dX2_askOfShip_98 rfl ⟨rfl, rfl⟩
  · replace h := it_f c6 h
    refine jg_iconst (v := nI 1) dX2_askOfShip_46 (by decide) ?_
    refine jg_goto (tgt := 51) dX2_askOfShip_47 (by decide) ?_
    refine cs_sta (s := x5) (q := (b + 167)) (i := (nI 6)) (x := (nI 1)) dX2_askOfShip_51 (hB.ar 167 (by decide) rfl) (by decide) ?_
    refine jg_aload_n dX2_askOfShip_52 rfl ?_
    refine cs_get (s := (ca x5 (b + 167) (nI 6) (nI 1))) (w := .ref (b + 167)) fl_X2_63 dX2_askOfShip_53 hB.ob0 rfl ?_
    refine jg_bipush (v := nI 7) dX2_askOfShip_56 (by decide) ?_
    refine jg_aload_n dX2_askOfShip_58 rfl ?_
    refine cs_get (s := (ca x5 (b + 167) (nI 6) (nI 1))) (w := .int ((ca x5 (b + 167) (nI 6) (nI 1)).1 a1 1)) fl_X2_292 dX2_askOfShip_59 h1 rfl ?_
    refine cs_sta (s := (ca x5 (b + 167) (nI 6) (nI 1))) (q := (b + 167)) (i := (nI 7)) (x := ((ca x5 (b + 167) (nI 6) (nI 1)).1 a1 1)) dX2_askOfShip_62 (hB.ar 167 (by decide) rfl) (by decide) ?_
    obtain ⟨x9, e_x9, h⟩ := bd_some h
    refine cs_sub (Option.some.inj e_x9) ?_
    refine jg_aload_n dX2_askOfShip_63 rfl ?_
    refine cs_get (s := x9) (w := .ref (b + 167)) fl_X2_63 dX2_askOfShip_64 hB.ob0 rfl ?_
    refine jg_bipush (v := nI 8) dX2_askOfShip_67 (by decide) ?_
    refine jg_aload_n dX2_askOfShip_69 rfl ?_
    refine cs_get (s := x9) (w := .int (x9.1 a1 2)) fl_X2_295 dX2_askOfShip_70 h1 rfl ?_
    refine cs_sta (s := x9) (q := (b + 167)) (i := (nI 8)) (x := (x9.1 a1 2)) dX2_askOfShip_73 (hB.ar 167 (by decide) rfl) (by decide) ?_
    refine jg_aload_n dX2_askOfShip_74 rfl ?_
    refine cs_get (s := (ca x9 (b + 167) (nI 8) (x9.1 a1 2))) (w := .ref (b + 167)) fl_X2_63 dX2_askOfShip_75 hB.ob0 rfl ?_
    refine jg_bipush (v := nI 9) dX2_askOfShip_78 (by decide) ?_
    refine jg_iload_n dX2_askOfShip_80 rfl ?_
    refine cs_sta (s := (ca x9 (b + 167) (nI 8) (x9.1 a1 2))) (q := (b + 167)) (i := (nI 9)) (x := a2) dX2_askOfShip_81 (hB.ar 167 (by decide) rfl) (by decide) ?_
    refine jg_aload_n dX2_askOfShip_82 rfl ?_
    refine cs_get (s := (ca (ca x9 (b + 167) (nI 8) (x9.1 a1 2)) (b + 167) (nI 9) a2)) (w := .ref (b + 167)) fl_X2_63 dX2_askOfShip_83 hB.ob0 rfl ?_
    refine jg_bipush (v := nI 10) dX2_askOfShip_86 (by decide) ?_
    refine jg_iconst (v := nI 0) dX2_askOfShip_88 (by decide) ?_
    refine cs_sta (s := (ca (ca x9 (b + 167) (nI 8) (x9.1 a1 2)) (b + 167) (nI 9) a2)) (q := (b + 167)) (i := (nI 10)) (x := (nI 0)) dX2_askOfShip_89 (hB.ar 167 (by decide) rfl) (by decide) ?_
    obtain ⟨x10, e_x10, h⟩ := bd_some h
    refine cs_sub (Option.some.inj e_x10) ?_
    refine jg_aload_n dX2_askOfShip_90 rfl ?_
    refine cs_get (s := x10) (w := .ref (b + 167)) fl_X2_63 dX2_askOfShip_91 hB.ob0 rfl ?_
    refine jg_bipush (v := nI 11) dX2_askOfShip_94 (by decide) ?_
    refine jg_iconst (v := nI 0) dX2_askOfShip_96 (by decide) ?_
    refine cs_sta (s := x10) (q := (b + 167)) (i := (nI 11)) (x := (nI 0)) dX2_askOfShip_97 (hB.ar 167 (by decide) rfl) (by decide) ?_
    obtain rfl := Option.some.inj h
    exact jg_return dX2_askOfShip_98 rfl ⟨rfl, rfl⟩
theorem dX0_holds_0 : decode cX0_holds 0 = .ok (.iconst 1, 1) := by decide +kernel
theorem dX0_holds_1 : decode cX0_holds 1 = .ok (.istore_n 3, 1) := by decide +kernel
theorem dX0_holds_2 : decode cX0_holds 2 = .ok (.iload_n 1, 1) := by decide +kernel
theorem dX0_holds_3 : decode cX0_holds 3 = .ok (.ifCond .ne 7, 3) := by decide +kernel
theorem dX0_holds_6 : decode cX0_holds 6 = .ok (.iconst 0, 1) := by decide +kernel
theorem dX0_holds_7 : decode cX0_holds 7 = .ok (.goto 11, 3) := by decide +kernel
theorem dX0_holds_10 : decode cX0_holds 10 = .ok (.aload_n 0, 1) := by decide +kernel
theorem dX0_holds_11 : decode cX0_holds 11 = .ok (.getfield 22, 3) := by decide +kernel
theorem dX0_holds_14 : decode cX0_holds 14 = .ok (.iload_n 1, 1) := by decide +kernel
theorem dX0_holds_15 : decode cX0_holds 15 = .ok (.iconst 1, 1) := by decide +kernel
theorem dX0_holds_16 : decode cX0_holds 16 = .ok (.isub, 1) := by decide +kernel
theorem dX0_holds_17 : decode cX0_holds 17 = .ok (.iaload, 1) := by decide +kernel
theorem dX0_holds_18 : decode cX0_holds 18 = .ok (.istore 4, 2) := by decide +kernel
theorem dX0_holds_20 : decode cX0_holds 20 = .ok (.iload 4, 2) := by decide +kernel
theorem dX0_holds_22 : decode cX0_holds 22 = .ok (.aload_n 0, 1) := by decide +kernel
theorem dX0_holds_23 : decode cX0_holds 23 = .ok (.getfield 22, 3) := by decide +kernel
theorem dX0_holds_26 : decode cX0_holds 26 = .ok (.iload_n 1, 1) := by decide +kernel
theorem dX0_holds_27 : decode cX0_holds 27 = .ok (.iaload, 1) := by decide +kernel
theorem dX0_holds_28 : decode cX0_holds 28 = .ok (.if_icmp .ge 151, 3) := by decide +kernel
theorem dX0_holds_31 : decode cX0_holds 31 = .ok (.aload_n 0, 1) := by decide +kernel
theorem dX0_holds_32 : decode cX0_holds 32 = .ok (.getfield 25, 3) := by decide +kernel
theorem dX0_holds_35 : decode cX0_holds 35 = .ok (.iload 4, 2) := by decide +kernel
theorem dX0_holds_37 : decode cX0_holds 37 = .ok (.iaload, 1) := by decide +kernel
theorem dX0_holds_38 : decode cX0_holds 38 = .ok (.istore 5, 2) := by decide +kernel
theorem dX0_holds_40 : decode cX0_holds 40 = .ok (.iload_n 3, 1) := by decide +kernel
theorem dX0_holds_41 : decode cX0_holds 41 = .ok (.iconst 1, 1) := by decide +kernel
theorem dX0_holds_42 : decode cX0_holds 42 = .ok (.iand, 1) := by decide +kernel
theorem dX0_holds_43 : decode cX0_holds 43 = .ok (.istore 6, 2) := by decide +kernel
theorem dX0_holds_45 : decode cX0_holds 45 = .ok (.iload 5, 2) := by decide +kernel
theorem dX0_holds_47 : decode cX0_holds 47 = .ok (.bipush 24, 2) := by decide +kernel
theorem dX0_holds_49 : decode cX0_holds 49 = .ok (.if_icmp .ne 10, 3) := by decide +kernel
theorem dX0_holds_52 : decode cX0_holds 52 = .ok (.iload_n 3, 1) := by decide +kernel
theorem dX0_holds_53 : decode cX0_holds 53 = .ok (.iconst 1, 1) := by decide +kernel
theorem dX0_holds_54 : decode cX0_holds 54 = .ok (.ixor, 1) := by decide +kernel
theorem dX0_holds_55 : decode cX0_holds 55 = .ok (.istore_n 3, 1) := by decide +kernel
theorem dX0_holds_56 : decode cX0_holds 56 = .ok (.goto 117, 3) := by decide +kernel
theorem dX0_holds_59 : decode cX0_holds 59 = .ok (.iload 5, 2) := by decide +kernel
theorem dX0_holds_61 : decode cX0_holds 61 = .ok (.bipush 25, 2) := by decide +kernel
theorem dX0_holds_63 : decode cX0_holds 63 = .ok (.if_icmp .ne 25, 3) := by decide +kernel
theorem dX0_holds_66 : decode cX0_holds 66 = .ok (.iload 6, 2) := by decide +kernel
theorem dX0_holds_68 : decode cX0_holds 68 = .ok (.iconst 1, 1) := by decide +kernel
theorem dX0_holds_69 : decode cX0_holds 69 = .ok (.if_icmp .ne 9, 3) := by decide +kernel
theorem dX0_holds_72 : decode cX0_holds 72 = .ok (.iload_n 3, 1) := by decide +kernel
theorem dX0_holds_73 : decode cX0_holds 73 = .ok (.iconst 1, 1) := by decide +kernel
theorem dX0_holds_74 : decode cX0_holds 74 = .ok (.ishr, 1) := by decide +kernel
theorem dX0_holds_75 : decode cX0_holds 75 = .ok (.goto 9, 3) := by decide +kernel
theorem dX0_holds_78 : decode cX0_holds 78 = .ok (.iload_n 3, 1) := by decide +kernel
theorem dX0_holds_79 : decode cX0_holds 79 = .ok (.iconst 1, 1) := by decide +kernel
theorem dX0_holds_80 : decode cX0_holds 80 = .ok (.ishr, 1) := by decide +kernel
theorem dX0_holds_81 : decode cX0_holds 81 = .ok (.bipush (-2), 2) := by decide +kernel
theorem dX0_holds_83 : decode cX0_holds 83 = .ok (.iand, 1) := by decide +kernel
theorem dX0_holds_84 : decode cX0_holds 84 = .ok (.istore_n 3, 1) := by decide +kernel
theorem dX0_holds_85 : decode cX0_holds 85 = .ok (.goto 88, 3) := by decide +kernel
theorem dX0_holds_88 : decode cX0_holds 88 = .ok (.iload 5, 2) := by decide +kernel
theorem dX0_holds_90 : decode cX0_holds 90 = .ok (.bipush 26, 2) := by decide +kernel
theorem dX0_holds_92 : decode cX0_holds 92 = .ok (.if_icmp .ne 13, 3) := by decide +kernel
theorem dX0_holds_95 : decode cX0_holds 95 = .ok (.iload_n 3, 1) := by decide +kernel
theorem dX0_holds_96 : decode cX0_holds 96 = .ok (.iconst 1, 1) := by decide +kernel
theorem dX0_holds_97 : decode cX0_holds 97 = .ok (.ishr, 1) := by decide +kernel
theorem dX0_holds_98 : decode cX0_holds 98 = .ok (.iload 6, 2) := by decide +kernel
theorem dX0_holds_100 : decode cX0_holds 100 = .ok (.ior, 1) := by decide +kernel
theorem dX0_holds_101 : decode cX0_holds 101 = .ok (.istore_n 3, 1) := by decide +kernel
theorem dX0_holds_102 : decode cX0_holds 102 = .ok (.goto 71, 3) := by decide +kernel
theorem dX0_holds_105 : decode cX0_holds 105 = .ok (.iload 5, 2) := by decide +kernel
theorem dX0_holds_107 : decode cX0_holds 107 = .ok (.bipush 12, 2) := by decide +kernel
theorem dX0_holds_109 : decode cX0_holds 109 = .ok (.if_icmp .lt 28, 3) := by decide +kernel
theorem dX0_holds_112 : decode cX0_holds 112 = .ok (.aload_n 2, 1) := by decide +kernel
theorem dX0_holds_113 : decode cX0_holds 113 = .ok (.iload 5, 2) := by decide +kernel
theorem dX0_holds_115 : decode cX0_holds 115 = .ok (.bipush 12, 2) := by decide +kernel
theorem dX0_holds_117 : decode cX0_holds 117 = .ok (.isub, 1) := by decide +kernel
theorem dX0_holds_118 : decode cX0_holds 118 = .ok (.iaload, 1) := by decide +kernel
theorem dX0_holds_119 : decode cX0_holds 119 = .ok (.aload_n 0, 1) := by decide +kernel
theorem dX0_holds_120 : decode cX0_holds 120 = .ok (.getfield 28, 3) := by decide +kernel
theorem dX0_holds_123 : decode cX0_holds 123 = .ok (.iload 4, 2) := by decide +kernel
theorem dX0_holds_125 : decode cX0_holds 125 = .ok (.iaload, 1) := by decide +kernel
theorem dX0_holds_126 : decode cX0_holds 126 = .ok (.if_icmp .le 7, 3) := by decide +kernel
theorem dX0_holds_129 : decode cX0_holds 129 = .ok (.iconst 1, 1) := by decide +kernel
theorem dX0_holds_130 : decode cX0_holds 130 = .ok (.goto 26, 3) := by decide +kernel
theorem dX0_holds_133 : decode cX0_holds 133 = .ok (.iconst 0, 1) := by decide +kernel
theorem dX0_holds_134 : decode cX0_holds 134 = .ok (.goto 22, 3) := by decide +kernel
theorem dX0_holds_137 : decode cX0_holds 137 = .ok (.aload_n 2, 1) := by decide +kernel
theorem dX0_holds_138 : decode cX0_holds 138 = .ok (.iload 5, 2) := by decide +kernel
theorem dX0_holds_140 : decode cX0_holds 140 = .ok (.iaload, 1) := by decide +kernel
theorem dX0_holds_141 : decode cX0_holds 141 = .ok (.aload_n 0, 1) := by decide +kernel
theorem dX0_holds_142 : decode cX0_holds 142 = .ok (.getfield 28, 3) := by decide +kernel
theorem dX0_holds_145 : decode cX0_holds 145 = .ok (.iload 4, 2) := by decide +kernel
theorem dX0_holds_147 : decode cX0_holds 147 = .ok (.iaload, 1) := by decide +kernel
theorem dX0_holds_148 : decode cX0_holds 148 = .ok (.if_icmp .ge 7, 3) := by decide +kernel
theorem dX0_holds_151 : decode cX0_holds 151 = .ok (.iconst 1, 1) := by decide +kernel
theorem dX0_holds_152 : decode cX0_holds 152 = .ok (.goto 4, 3) := by decide +kernel
theorem dX0_holds_155 : decode cX0_holds 155 = .ok (.iconst 0, 1) := by decide +kernel
theorem dX0_holds_156 : decode cX0_holds 156 = .ok (.istore 7, 2) := by decide +kernel
theorem dX0_holds_158 : decode cX0_holds 158 = .ok (.iload_n 3, 1) := by decide +kernel
theorem dX0_holds_159 : decode cX0_holds 159 = .ok (.iconst 1, 1) := by decide +kernel
theorem dX0_holds_160 : decode cX0_holds 160 = .ok (.ishl, 1) := by decide +kernel
theorem dX0_holds_161 : decode cX0_holds 161 = .ok (.iload 7, 2) := by decide +kernel
theorem dX0_holds_163 : decode cX0_holds 163 = .ok (.ifCond .eq 7, 3) := by decide +kernel
theorem dX0_holds_166 : decode cX0_holds 166 = .ok (.iconst 1, 1) := by decide +kernel
theorem dX0_holds_167 : decode cX0_holds 167 = .ok (.goto 4, 3) := by decide +kernel
theorem dX0_holds_170 : decode cX0_holds 170 = .ok (.iconst 0, 1) := by decide +kernel
theorem dX0_holds_171 : decode cX0_holds 171 = .ok (.ior, 1) := by decide +kernel
theorem dX0_holds_172 : decode cX0_holds 172 = .ok (.istore_n 3, 1) := by decide +kernel
theorem dX0_holds_173 : decode cX0_holds 173 = .ok (.iinc 4 1, 3) := by decide +kernel
theorem dX0_holds_176 : decode cX0_holds 176 = .ok (.goto (-156), 3) := by decide +kernel
theorem dX0_holds_179 : decode cX0_holds 179 = .ok (.iload_n 3, 1) := by decide +kernel
theorem dX0_holds_180 : decode cX0_holds 180 = .ok (.iconst 1, 1) := by decide +kernel
theorem dX0_holds_181 : decode cX0_holds 181 = .ok (.iand, 1) := by decide +kernel
theorem dX0_holds_182 : decode cX0_holds 182 = .ok (.iconst 1, 1) := by decide +kernel
theorem dX0_holds_183 : decode cX0_holds 183 = .ok (.if_icmp .ne 7, 3) := by decide +kernel
theorem dX0_holds_186 : decode cX0_holds 186 = .ok (.iconst 1, 1) := by decide +kernel
theorem dX0_holds_187 : decode cX0_holds 187 = .ok (.goto 4, 3) := by decide +kernel
theorem dX0_holds_190 : decode cX0_holds 190 = .ok (.iconst 0, 1) := by decide +kernel
theorem dX0_holds_191 : decode cX0_holds 191 = .ok (.ireturn, 1) := by decide +kernel
noncomputable def o_X0_holds_20 (F : Nat) (τ : cT) (n : Nat) (p : Nat) (a2 : Nat) (l1 : Int32) (s : cS) : Nat → Int32 → Int32 → Option (Int32)
  | 0, _, _ => none
  | f + 1, l3, l4 => if iL l1 (tl τ (p + 3)) then (if (cg s (p + 3) l1) ≤ l4 then (some l3) else (if iL l4 (tl τ (p + 4)) then (if (cg s (p + 4) l4) = (nI 24) then (o_X0_holds_20 F τ n p a2 l1 s f (l3 ^^^ (nI 1)) (l4 + nI 1)) else (if (cg s (p + 4) l4) = (nI 25) then (if (l3 &&& (nI 1)) = (nI 1) then (o_X0_holds_20 F τ n p a2 l1 s f (l3 >>> ((nI 1) &&& 31)) (l4 + nI 1)) else (o_X0_holds_20 F τ n p a2 l1 s f ((l3 >>> ((nI 1) &&& 31)) &&& (-2)) (l4 + nI 1))) else (if (cg s (p + 4) l4) = (nI 26) then (o_X0_holds_20 F τ n p a2 l1 s f ((l3 >>> ((nI 1) &&& 31)) ||| (l3 &&& (nI 1))) (l4 + nI 1)) else (if (cg s (p + 4) l4) < (nI 12) then (if iL (cg s (p + 4) l4) 12 then (if iL l4 (tl τ (p + 5)) then (if (cg s (p + 5) l4) ≤ (cg s a2 (cg s (p + 4) l4)) then (o_X0_holds_20 F τ n p a2 l1 s f ((l3 <<< ((nI 1) &&& 31)) ||| (nI 0)) (l4 + nI 1)) else (o_X0_holds_20 F τ n p a2 l1 s f ((l3 <<< ((nI 1) &&& 31)) ||| (nI 1)) (l4 + nI 1))) else none) else none) else (if iL ((cg s (p + 4) l4) - (nI 12)) 12 then (if iL l4 (tl τ (p + 5)) then (if (cg s a2 ((cg s (p + 4) l4) - (nI 12))) ≤ (cg s (p + 5) l4) then (o_X0_holds_20 F τ n p a2 l1 s f ((l3 <<< ((nI 1) &&& 31)) ||| (nI 0)) (l4 + nI 1)) else (o_X0_holds_20 F τ n p a2 l1 s f ((l3 <<< ((nI 1) &&& 31)) ||| (nI 1)) (l4 + nI 1))) else none) else none))))) else none)) else none
set_option maxHeartbeats 4000000 in
theorem t_X0_holds_20 {Γ : jg_G} {g : Nat → jg_C} (F : Nat) (τ : cT) (n : Nat) (p : Nat) (a2 : Nat) (l1 : Int32) (s : cS) (hp : acb τ n p = true) (h2 : Ar τ n a2 0 12) (Q : jg_Q) {x : Int32} (K1 : jg Γ mX0_holds 0 0 0 179 [none, none, none, some (.int x), none, none, none, none] [] (ct_h g τ s, n) Q)  : ∀ (f : Nat) (l3 : Int32) (l4 : Int32), o_X0_holds_20 F τ n p a2 l1 s f l3 l4 = some x → jg Γ mX0_holds 0 0 0 20 [some (.ref p), some (.int l1), some (.ref a2), some (.int l3), some (.int l4), none, none, none] [] (ct_h g τ s, n) Q := by
  intro f
  induction f with
  | zero => intro l3 l4 h; rw [o_X0_holds_20] at h; cases h
  | succ f ih =>
   intro l3 l4 h
   rw [o_X0_holds_20] at h
   refine jg_iload dX0_holds_20 rfl ?_
   refine jg_aload_n dX0_holds_22 rfl ?_
   refine cs_get (s := s) (w := .ref (p + 3)) fl_X0_22 dX0_holds_23 (acb_ob hp) rfl ?_
   refine jg_iload_n dX0_holds_26 rfl ?_
   obtain ⟨q3, h⟩ := gd_some h
   refine cs_lda (s := s) (q := (p + 3)) (i := l1) dX0_holds_27 (acb_a3 hp) q3 ?_
   refine jg_icmp_ge (x := l4) (y := (cg s (p + 3) l1)) (tgt := 179) dX0_holds_28 (by decide) (fun c4 => ?_) (fun c4 => ?_)
   · replace h := it_t c4 h
     refine jg_fg (L' := [none, none, none, some (.int l3), none, none, none, none]) (by repeat (first | exact trivial | refine ⟨rfl, ?_⟩ | show jg_le _ _)) ?_
     obtain rfl := Option.some.inj h
     exact K1
   · replace h := it_f c4 h
     refine jg_aload_n dX0_holds_31 rfl ?_
     refine cs_get (s := s) (w := .ref (p + 4)) fl_X0_25 dX0_holds_32 (acb_ob hp) rfl ?_
     refine jg_iload dX0_holds_35 rfl ?_
     obtain ⟨q5, h⟩ := gd_some h
     refine cs_lda (s := s) (q := (p + 4)) (i := l4) dX0_holds_37 (acb_a4 hp) q5 ?_
     refine jg_istore (L' := [some (.ref p), some (.int l1), some (.ref a2), some (.int l3), some (.int l4), some (.int (cg s (p + 4) l4)), none, none]) dX0_holds_38 (by decide) rfl ?_
     refine jg_iload_n dX0_holds_40 rfl ?_
     refine jg_iconst (v := nI 1) dX0_holds_41 (by decide) ?_
     refine jg_iand (x := l3) (y := (nI 1)) dX0_holds_42  ?_
     refine jg_istore (L' := [some (.ref p), some (.int l1), some (.ref a2), some (.int l3), some (.int l4), some (.int (cg s (p + 4) l4)), some (.int (l3 &&& (nI 1))), none]) dX0_holds_43 (by decide) rfl ?_
     refine jg_iload dX0_holds_45 rfl ?_
     refine jg_bipush (v := nI 24) dX0_holds_47 (by decide) ?_
     refine jg_icmp_ne (x := (cg s (p + 4) l4)) (y := (nI 24)) (tgt := 59) dX0_holds_49 (by decide) (fun c6 => ?_) (fun c6 => ?_)
     · replace h := it_f c6 h
       refine jg_iload dX0_holds_59 rfl ?_
       refine jg_bipush (v := nI 25) dX0_holds_61 (by decide) ?_
       refine jg_icmp_ne (x := (cg s (p + 4) l4)) (y := (nI 25)) (tgt := 88) dX0_holds_63 (by decide) (fun c7 => ?_) (fun c7 => ?_)
       · replace h := it_f c7 h
         refine jg_iload dX0_holds_88 rfl ?_
         refine jg_bipush (v := nI 26) dX0_holds_90 (by decide) ?_
         refine jg_icmp_ne (x := (cg s (p + 4) l4)) (y := (nI 26)) (tgt := 105) dX0_holds_92 (by decide) (fun c8 => ?_) (fun c8 => ?_)
         · replace h := it_f c8 h
           refine jg_iload dX0_holds_105 rfl ?_
           refine jg_bipush (v := nI 12) dX0_holds_107 (by decide) ?_
           refine jg_icmp_lt (x := (cg s (p + 4) l4)) (y := (nI 12)) (tgt := 137) dX0_holds_109 (by decide) (fun c9 => ?_) (fun c9 => ?_)
           · replace h := it_t c9 h
             refine jg_aload_n dX0_holds_137 rfl ?_
             refine jg_iload dX0_holds_138 rfl ?_
             obtain ⟨q10, h⟩ := gd_some h
             refine cs_lda (s := s) (q := a2) (i := (cg s (p + 4) l4)) dX0_holds_140 h2 q10 ?_
             refine jg_aload_n dX0_holds_141 rfl ?_
             refine cs_get (s := s) (w := .ref (p + 5)) fl_X0_28 dX0_holds_142 (acb_ob hp) rfl ?_
             refine jg_iload dX0_holds_145 rfl ?_
             obtain ⟨q11, h⟩ := gd_some h
             refine cs_lda (s := s) (q := (p + 5)) (i := l4) dX0_holds_147 (acb_a5 hp) q11 ?_
             refine jg_icmp_ge (x := (cg s a2 (cg s (p + 4) l4))) (y := (cg s (p + 5) l4)) (tgt := 155) dX0_holds_148 (by decide) (fun c12 => ?_) (fun c12 => ?_)
             · replace h := it_t c12 h
               refine jg_iconst (v := nI 0) dX0_holds_155 (by decide) ?_
               refine jg_istore (L' := [some (.ref p), some (.int l1), some (.ref a2), some (.int l3), some (.int l4), some (.int (cg s (p + 4) l4)), some (.int (l3 &&& (nI 1))), some (.int (nI 0))]) dX0_holds_156 (by decide) rfl ?_
               refine jg_iload_n dX0_holds_158 rfl ?_
               refine jg_iconst (v := nI 1) dX0_holds_159 (by decide) ?_
               refine jg_ishl (x := l3) (y := (nI 1)) dX0_holds_160  ?_
               refine jg_iload dX0_holds_161 rfl ?_
               refine jg_if_eq (x := (nI 0)) (tgt := 170) dX0_holds_163 (by decide) (fun _ => ?_) (fun q9 => absurd q9 (by decide))
               refine jg_iconst (v := nI 0) dX0_holds_170 (by decide) ?_
               refine jg_ior (x := (l3 <<< ((nI 1) &&& 31))) (y := (nI 0)) dX0_holds_171  ?_
               refine jg_istore_n (L' := [some (.ref p), some (.int l1), some (.ref a2), some (.int ((l3 <<< ((nI 1) &&& 31)) ||| (nI 0))), some (.int l4), some (.int (cg s (p + 4) l4)), some (.int (l3 &&& (nI 1))), some (.int (nI 0))]) dX0_holds_172 (by decide) rfl ?_
               refine jg_iinc (x := l4) (v := l4 + nI 1) (L' := [some (.ref p), some (.int l1), some (.ref a2), some (.int ((l3 <<< ((nI 1) &&& 31)) ||| (nI 0))), some (.int (l4 + nI 1)), some (.int (cg s (p + 4) l4)), some (.int (l3 &&& (nI 1))), some (.int (nI 0))]) dX0_holds_173 rfl (ic_k _ (by decide)) (by decide) rfl ?_
               refine jg_goto (tgt := 20) dX0_holds_176 (by decide) ?_
               refine jg_fg (L' := [some (.ref p), some (.int l1), some (.ref a2), some (.int ((l3 <<< ((nI 1) &&& 31)) ||| (nI 0))), some (.int (l4 + nI 1)), none, none, none]) (by repeat (first | exact trivial | refine ⟨rfl, ?_⟩ | show jg_le _ _)) ?_
               exact ih ((l3 <<< ((nI 1) &&& 31)) ||| (nI 0)) (l4 + nI 1) h
             · replace h := it_f c12 h
               refine jg_iconst (v := nI 1) dX0_holds_151 (by decide) ?_
               refine jg_goto (tgt := 156) dX0_holds_152 (by decide) ?_
               refine jg_istore (L' := [some (.ref p), some (.int l1), some (.ref a2), some (.int l3), some (.int l4), some (.int (cg s (p + 4) l4)), some (.int (l3 &&& (nI 1))), some (.int (nI 1))]) dX0_holds_156 (by decide) rfl ?_
               refine jg_iload_n dX0_holds_158 rfl ?_
               refine jg_iconst (v := nI 1) dX0_holds_159 (by decide) ?_
               refine jg_ishl (x := l3) (y := (nI 1)) dX0_holds_160  ?_
               refine jg_iload dX0_holds_161 rfl ?_
               refine jg_if_eq (x := (nI 1)) (tgt := 170) dX0_holds_163 (by decide) (fun q9 => absurd q9 (by decide)) (fun _ => ?_)
               refine jg_iconst (v := nI 1) dX0_holds_166 (by decide) ?_
               refine jg_goto (tgt := 171) dX0_holds_167 (by decide) ?_
               refine jg_ior (x := (l3 <<< ((nI 1) &&& 31))) (y := (nI 1)) dX0_holds_171  ?_
               refine jg_istore_n (L' := [some (.ref p), some (.int l1), some (.ref a2), some (.int ((l3 <<< ((nI 1) &&& 31)) ||| (nI 1))), some (.int l4), some (.int (cg s (p + 4) l4)), some (.int (l3 &&& (nI 1))), some (.int (nI 1))]) dX0_holds_172 (by decide) rfl ?_
               refine jg_iinc (x := l4) (v := l4 + nI 1) (L' := [some (.ref p), some (.int l1), some (.ref a2), some (.int ((l3 <<< ((nI 1) &&& 31)) ||| (nI 1))), some (.int (l4 + nI 1)), some (.int (cg s (p + 4) l4)), some (.int (l3 &&& (nI 1))), some (.int (nI 1))]) dX0_holds_173 rfl (ic_k _ (by decide)) (by decide) rfl ?_
               refine jg_goto (tgt := 20) dX0_holds_176 (by decide) ?_
               refine jg_fg (L' := [some (.ref p), some (.int l1), some (.ref a2), some (.int ((l3 <<< ((nI 1) &&& 31)) ||| (nI 1))), some (.int (l4 + nI 1)), none, none, none]) (by repeat (first | exact trivial | refine ⟨rfl, ?_⟩ | show jg_le _ _)) ?_
               exact ih ((l3 <<< ((nI 1) &&& 31)) ||| (nI 1)) (l4 + nI 1) h
           · replace h := it_f c9 h
             refine jg_aload_n dX0_holds_112 rfl ?_
             refine jg_iload dX0_holds_113 rfl ?_
             refine jg_bipush (v := nI 12) dX0_holds_115 (by decide) ?_
             refine jg_isub (x := (cg s (p + 4) l4)) (y := (nI 12)) dX0_holds_117  ?_
             obtain ⟨q13, h⟩ := gd_some h
             refine cs_lda (s := s) (q := a2) (i := ((cg s (p + 4) l4) - (nI 12))) dX0_holds_118 h2 q13 ?_
             refine jg_aload_n dX0_holds_119 rfl ?_
             refine cs_get (s := s) (w := .ref (p + 5)) fl_X0_28 dX0_holds_120 (acb_ob hp) rfl ?_
             refine jg_iload dX0_holds_123 rfl ?_
             obtain ⟨q14, h⟩ := gd_some h
             refine cs_lda (s := s) (q := (p + 5)) (i := l4) dX0_holds_125 (acb_a5 hp) q14 ?_
             refine jg_icmp_le (x := (cg s a2 ((cg s (p + 4) l4) - (nI 12)))) (y := (cg s (p + 5) l4)) (tgt := 133) dX0_holds_126 (by decide) (fun c15 => ?_) (fun c15 => ?_)
             · replace h := it_t c15 h
               refine jg_iconst (v := nI 0) dX0_holds_133 (by decide) ?_
               refine jg_goto (tgt := 156) dX0_holds_134 (by decide) ?_
               refine jg_istore (L' := [some (.ref p), some (.int l1), some (.ref a2), some (.int l3), some (.int l4), some (.int (cg s (p + 4) l4)), some (.int (l3 &&& (nI 1))), some (.int (nI 0))]) dX0_holds_156 (by decide) rfl ?_
               refine jg_iload_n dX0_holds_158 rfl ?_
               refine jg_iconst (v := nI 1) dX0_holds_159 (by decide) ?_
               refine jg_ishl (x := l3) (y := (nI 1)) dX0_holds_160  ?_
               refine jg_iload dX0_holds_161 rfl ?_
               refine jg_if_eq (x := (nI 0)) (tgt := 170) dX0_holds_163 (by decide) (fun _ => ?_) (fun q9 => absurd q9 (by decide))
               refine jg_iconst (v := nI 0) dX0_holds_170 (by decide) ?_
               refine jg_ior (x := (l3 <<< ((nI 1) &&& 31))) (y := (nI 0)) dX0_holds_171  ?_
               refine jg_istore_n (L' := [some (.ref p), some (.int l1), some (.ref a2), some (.int ((l3 <<< ((nI 1) &&& 31)) ||| (nI 0))), some (.int l4), some (.int (cg s (p + 4) l4)), some (.int (l3 &&& (nI 1))), some (.int (nI 0))]) dX0_holds_172 (by decide) rfl ?_
               refine jg_iinc (x := l4) (v := l4 + nI 1) (L' := [some (.ref p), some (.int l1), some (.ref a2), some (.int ((l3 <<< ((nI 1) &&& 31)) ||| (nI 0))), some (.int (l4 + nI 1)), some (.int (cg s (p + 4) l4)), some (.int (l3 &&& (nI 1))), some (.int (nI 0))]) dX0_holds_173 rfl (ic_k _ (by decide)) (by decide) rfl ?_
               refine jg_goto (tgt := 20) dX0_holds_176 (by decide) ?_
               refine jg_fg (L' := [some (.ref p), some (.int l1), some (.ref a2), some (.int ((l3 <<< ((nI 1) &&& 31)) ||| (nI 0))), some (.int (l4 + nI 1)), none, none, none]) (by repeat (first | exact trivial | refine ⟨rfl, ?_⟩ | show jg_le _ _)) ?_
               exact ih ((l3 <<< ((nI 1) &&& 31)) ||| (nI 0)) (l4 + nI 1) h
             · replace h := it_f c15 h
               refine jg_iconst (v := nI 1) dX0_holds_129 (by decide) ?_
               refine jg_goto (tgt := 156) dX0_holds_130 (by decide) ?_
               refine jg_istore (L' := [some (.ref p), some (.int l1), some (.ref a2), some (.int l3), some (.int l4), some (.int (cg s (p + 4) l4)), some (.int (l3 &&& (nI 1))), some (.int (nI 1))]) dX0_holds_156 (by decide) rfl ?_
               refine jg_iload_n dX0_holds_158 rfl ?_
               refine jg_iconst (v := nI 1) dX0_holds_159 (by decide) ?_
               refine jg_ishl (x := l3) (y := (nI 1)) dX0_holds_160  ?_
               refine jg_iload dX0_holds_161 rfl ?_
               refine jg_if_eq (x := (nI 1)) (tgt := 170) dX0_holds_163 (by decide) (fun q9 => absurd q9 (by decide)) (fun _ => ?_)
               refine jg_iconst (v := nI 1) dX0_holds_166 (by decide) ?_
               refine jg_goto (tgt := 171) dX0_holds_167 (by decide) ?_
               refine jg_ior (x := (l3 <<< ((nI 1) &&& 31))) (y := (nI 1)) dX0_holds_171  ?_
               refine jg_istore_n (L' := [some (.ref p), some (.int l1), some (.ref a2), some (.int ((l3 <<< ((nI 1) &&& 31)) ||| (nI 1))), some (.int l4), some (.int (cg s (p + 4) l4)), some (.int (l3 &&& (nI 1))), some (.int (nI 1))]) dX0_holds_172 (by decide) rfl ?_
               refine jg_iinc (x := l4) (v := l4 + nI 1) (L' := [some (.ref p), some (.int l1), some (.ref a2), some (.int ((l3 <<< ((nI 1) &&& 31)) ||| (nI 1))), some (.int (l4 + nI 1)), some (.int (cg s (p + 4) l4)), some (.int (l3 &&& (nI 1))), some (.int (nI 1))]) dX0_holds_173 rfl (ic_k _ (by decide)) (by decide) rfl ?_
               refine jg_goto (tgt := 20) dX0_holds_176 (by decide) ?_
               refine jg_fg (L' := [some (.ref p), some (.int l1), some (.ref a2), some (.int ((l3 <<< ((nI 1) &&& 31)) ||| (nI 1))), some (.int (l4 + nI 1)), none, none, none]) (by repeat (first | exact trivial | refine ⟨rfl, ?_⟩ | show jg_le _ _)) ?_
               exact ih ((l3 <<< ((nI 1) &&& 31)) ||| (nI 1)) (l4 + nI 1) h
         · replace h := it_t c8 h
           refine jg_iload_n dX0_holds_95 rfl ?_
           refine jg_iconst (v := nI 1) dX0_holds_96 (by decide) ?_
           refine jg_ishr (x := l3) (y := (nI 1)) dX0_holds_97  ?_
           refine jg_iload dX0_holds_98 rfl ?_
           refine jg_ior (x := (l3 >>> ((nI 1) &&& 31))) (y := (l3 &&& (nI 1))) dX0_holds_100  ?_
           refine jg_istore_n (L' := [some (.ref p), some (.int l1), some (.ref a2), some (.int ((l3 >>> ((nI 1) &&& 31)) ||| (l3 &&& (nI 1)))), some (.int l4), some (.int (cg s (p + 4) l4)), some (.int (l3 &&& (nI 1))), none]) dX0_holds_101 (by decide) rfl ?_
           refine jg_goto (tgt := 173) dX0_holds_102 (by decide) ?_
           refine jg_iinc (x := l4) (v := l4 + nI 1) (L' := [some (.ref p), some (.int l1), some (.ref a2), some (.int ((l3 >>> ((nI 1) &&& 31)) ||| (l3 &&& (nI 1)))), some (.int (l4 + nI 1)), some (.int (cg s (p + 4) l4)), some (.int (l3 &&& (nI 1))), none]) dX0_holds_173 rfl (ic_k _ (by decide)) (by decide) rfl ?_
           refine jg_goto (tgt := 20) dX0_holds_176 (by decide) ?_
           refine jg_fg (L' := [some (.ref p), some (.int l1), some (.ref a2), some (.int ((l3 >>> ((nI 1) &&& 31)) ||| (l3 &&& (nI 1)))), some (.int (l4 + nI 1)), none, none, none]) (by repeat (first | exact trivial | refine ⟨rfl, ?_⟩ | show jg_le _ _)) ?_
           exact ih ((l3 >>> ((nI 1) &&& 31)) ||| (l3 &&& (nI 1))) (l4 + nI 1) h
       · replace h := it_t c7 h
         refine jg_iload dX0_holds_66 rfl ?_
         refine jg_iconst (v := nI 1) dX0_holds_68 (by decide) ?_
         refine jg_icmp_ne (x := (l3 &&& (nI 1))) (y := (nI 1)) (tgt := 78) dX0_holds_69 (by decide) (fun c16 => ?_) (fun c16 => ?_)
         · replace h := it_f c16 h
           refine jg_iload_n dX0_holds_78 rfl ?_
           refine jg_iconst (v := nI 1) dX0_holds_79 (by decide) ?_
           refine jg_ishr (x := l3) (y := (nI 1)) dX0_holds_80  ?_
           refine jg_bipush (v := (-2)) dX0_holds_81 (by decide) ?_
           refine jg_iand (x := (l3 >>> ((nI 1) &&& 31))) (y := (-2)) dX0_holds_83  ?_
           refine jg_istore_n (L' := [some (.ref p), some (.int l1), some (.ref a2), some (.int ((l3 >>> ((nI 1) &&& 31)) &&& (-2))), some (.int l4), some (.int (cg s (p + 4) l4)), some (.int (l3 &&& (nI 1))), none]) dX0_holds_84 (by decide) rfl ?_
           refine jg_goto (tgt := 173) dX0_holds_85 (by decide) ?_
           refine jg_iinc (x := l4) (v := l4 + nI 1) (L' := [some (.ref p), some (.int l1), some (.ref a2), some (.int ((l3 >>> ((nI 1) &&& 31)) &&& (-2))), some (.int (l4 + nI 1)), some (.int (cg s (p + 4) l4)), some (.int (l3 &&& (nI 1))), none]) dX0_holds_173 rfl (ic_k _ (by decide)) (by decide) rfl ?_
           refine jg_goto (tgt := 20) dX0_holds_176 (by decide) ?_
           refine jg_fg (L' := [some (.ref p), some (.int l1), some (.ref a2), some (.int ((l3 >>> ((nI 1) &&& 31)) &&& (-2))), some (.int (l4 + nI 1)), none, none, none]) (by repeat (first | exact trivial | refine ⟨rfl, ?_⟩ | show jg_le _ _)) ?_
           exact ih ((l3 >>> ((nI 1) &&& 31)) &&& (-2)) (l4 + nI 1) h
         · replace h := it_t c16 h
           refine jg_iload_n dX0_holds_72 rfl ?_
           refine jg_iconst (v := nI 1) dX0_holds_73 (by decide) ?_
           refine jg_ishr (x := l3) (y := (nI 1)) dX0_holds_74  ?_
           refine jg_goto (tgt := 84) dX0_holds_75 (by decide) ?_
           refine jg_istore_n (L' := [some (.ref p), some (.int l1), some (.ref a2), some (.int (l3 >>> ((nI 1) &&& 31))), some (.int l4), some (.int (cg s (p + 4) l4)), some (.int (l3 &&& (nI 1))), none]) dX0_holds_84 (by decide) rfl ?_
           refine jg_goto (tgt := 173) dX0_holds_85 (by decide) ?_
           refine jg_iinc (x := l4) (v := l4 + nI 1) (L' := [some (.ref p), some (.int l1), some (.ref a2), some (.int (l3 >>> ((nI 1) &&& 31))), some (.int (l4 + nI 1)), some (.int (cg s (p + 4) l4)), some (.int (l3 &&& (nI 1))), none]) dX0_holds_173 rfl (ic_k _ (by decide)) (by decide) rfl ?_
           refine jg_goto (tgt := 20) dX0_holds_176 (by decide) ?_
           refine jg_fg (L' := [some (.ref p), some (.int l1), some (.ref a2), some (.int (l3 >>> ((nI 1) &&& 31))), some (.int (l4 + nI 1)), none, none, none]) (by repeat (first | exact trivial | refine ⟨rfl, ?_⟩ | show jg_le _ _)) ?_
           exact ih (l3 >>> ((nI 1) &&& 31)) (l4 + nI 1) h
     · replace h := it_t c6 h
       refine jg_iload_n dX0_holds_52 rfl ?_
       refine jg_iconst (v := nI 1) dX0_holds_53 (by decide) ?_
       refine jg_ixor (x := l3) (y := (nI 1)) dX0_holds_54  ?_
       refine jg_istore_n (L' := [some (.ref p), some (.int l1), some (.ref a2), some (.int (l3 ^^^ (nI 1))), some (.int l4), some (.int (cg s (p + 4) l4)), some (.int (l3 &&& (nI 1))), none]) dX0_holds_55 (by decide) rfl ?_
       refine jg_goto (tgt := 173) dX0_holds_56 (by decide) ?_
       refine jg_iinc (x := l4) (v := l4 + nI 1) (L' := [some (.ref p), some (.int l1), some (.ref a2), some (.int (l3 ^^^ (nI 1))), some (.int (l4 + nI 1)), some (.int (cg s (p + 4) l4)), some (.int (l3 &&& (nI 1))), none]) dX0_holds_173 rfl (ic_k _ (by decide)) (by decide) rfl ?_
       refine jg_goto (tgt := 20) dX0_holds_176 (by decide) ?_
       refine jg_fg (L' := [some (.ref p), some (.int l1), some (.ref a2), some (.int (l3 ^^^ (nI 1))), some (.int (l4 + nI 1)), none, none, none]) (by repeat (first | exact trivial | refine ⟨rfl, ?_⟩ | show jg_le _ _)) ?_
       exact ih (l3 ^^^ (nI 1)) (l4 + nI 1) h
noncomputable def o_X0_holds (F : Nat) (τ : cT) (n : Nat) (p : Nat) (a2 : Nat) (s : cS) (a1 : Int32) : Option (Int32) := if a1 = 0 then ((o_X0_holds_20 F τ n p a2 a1 s F (nI 1) (nI 0)).bind fun x19 => (if (x19 &&& (nI 1)) = (nI 1) then (some (nI 1)) else (some (nI 0)))) else (if iL (a1 - (nI 1)) (tl τ (p + 3)) then ((o_X0_holds_20 F τ n p a2 a1 s F (nI 1) (cg s (p + 3) (a1 - (nI 1)))).bind fun x17 => (if (x17 &&& (nI 1)) = (nI 1) then (some (nI 1)) else (some (nI 0)))) else none)
set_option maxHeartbeats 4000000 in
theorem t_X0_holds {Γ : jg_G} {g : Nat → jg_C} (F : Nat) (τ : cT) (n : Nat) (p : Nat) (a2 : Nat) (s : cS) (a1 : Int32) (hp : acb τ n p = true) (h2 : Ar τ n a2 0 12) {x : Int32} (h : o_X0_holds F τ n p a2 s a1 = some x) : jc Γ mX0_holds 0 0 0 [some (.ref p), some (.int a1), some (.ref a2), none, none, none, none, none] (ct_h g τ s, n) (.inl (some (.int x))) (ct_h g τ s, n) := by
  refine jc_of ?_
  rw [o_X0_holds] at h
  refine jg_iconst (v := nI 1) dX0_holds_0 (by decide) ?_
  refine jg_istore_n (L' := [some (.ref p), some (.int a1), some (.ref a2), some (.int (nI 1)), none, none, none, none]) dX0_holds_1 (by decide) rfl ?_
  refine jg_iload_n dX0_holds_2 rfl ?_
  refine jg_if_ne (x := a1) (tgt := 10) dX0_holds_3 (by decide) (fun c1 => ?_) (fun c1 => ?_)
  · replace h := it_f c1 h
    refine jg_aload_n dX0_holds_10 rfl ?_
    refine cs_get (s := s) (w := .ref (p + 3)) fl_X0_22 dX0_holds_11 (acb_ob hp) rfl ?_
    refine jg_iload_n dX0_holds_14 rfl ?_
    refine jg_iconst (v := nI 1) dX0_holds_15 (by decide) ?_
    refine jg_isub (x := a1) (y := (nI 1)) dX0_holds_16  ?_
    obtain ⟨q2, h⟩ := gd_some h
    refine cs_lda (s := s) (q := (p + 3)) (i := (a1 - (nI 1))) dX0_holds_17 (acb_a3 hp) q2 ?_
    refine jg_istore (L' := [some (.ref p), some (.int a1), some (.ref a2), some (.int (nI 1)), some (.int (cg s (p + 3) (a1 - (nI 1)))), none, none, none]) dX0_holds_18 (by decide) rfl ?_
    obtain ⟨x17, e_x17, h⟩ := bd_some h
    refine jg_fg (L' := [some (.ref p), some (.int a1), some (.ref a2), some (.int (nI 1)), some (.int (cg s (p + 3) (a1 - (nI 1)))), none, none, none]) (by repeat (first | exact trivial | refine ⟨rfl, ?_⟩ | show jg_le _ _)) ?_
    refine t_X0_holds_20  F τ n p a2 a1 s hp h2 _ (x := x17) ?_ F (nI 1) (cg s (p + 3) (a1 - (nI 1))) e_x17
    refine jg_iload_n dX0_holds_179 rfl ?_
    refine jg_iconst (v := nI 1) dX0_holds_180 (by decide) ?_
    refine jg_iand (x := x17) (y := (nI 1)) dX0_holds_181  ?_
    refine jg_iconst (v := nI 1) dX0_holds_182 (by decide) ?_
    refine jg_icmp_ne (x := (x17 &&& (nI 1))) (y := (nI 1)) (tgt := 190) dX0_holds_183 (by decide) (fun c18 => ?_) (fun c18 => ?_)
    · replace h := it_f c18 h
      refine jg_iconst (v := nI 0) dX0_holds_190 (by decide) ?_
      obtain rfl := Option.some.inj h
      exact jg_zreturn dX0_holds_191 rfl (rfl) ⟨rfl, rfl⟩
    · replace h := it_t c18 h
      refine jg_iconst (v := nI 1) dX0_holds_186 (by decide) ?_
      refine jg_goto (tgt := 191) dX0_holds_187 (by decide) ?_
      obtain rfl := Option.some.inj h
      exact jg_zreturn dX0_holds_191 rfl (rfl) ⟨rfl, rfl⟩
  · replace h := it_t c1 h
    refine jg_iconst (v := nI 0) dX0_holds_6 (by decide) ?_
    refine jg_goto (tgt := 18) dX0_holds_7 (by decide) ?_
    refine jg_istore (L' := [some (.ref p), some (.int a1), some (.ref a2), some (.int (nI 1)), some (.int (nI 0)), none, none, none]) dX0_holds_18 (by decide) rfl ?_
    obtain ⟨x19, e_x19, h⟩ := bd_some h
    refine jg_fg (L' := [some (.ref p), some (.int a1), some (.ref a2), some (.int (nI 1)), some (.int (nI 0)), none, none, none]) (by repeat (first | exact trivial | refine ⟨rfl, ?_⟩ | show jg_le _ _)) ?_
    refine t_X0_holds_20  F τ n p a2 a1 s hp h2 _ (x := x19) ?_ F (nI 1) (nI 0) e_x19
    refine jg_iload_n dX0_holds_179 rfl ?_
    refine jg_iconst (v := nI 1) dX0_holds_180 (by decide) ?_
    refine jg_iand (x := x19) (y := (nI 1)) dX0_holds_181  ?_
    refine jg_iconst (v := nI 1) dX0_holds_182 (by decide) ?_
    refine jg_icmp_ne (x := (x19 &&& (nI 1))) (y := (nI 1)) (tgt := 190) dX0_holds_183 (by decide) (fun c20 => ?_) (fun c20 => ?_)
    · replace h := it_f c20 h
      refine jg_iconst (v := nI 0) dX0_holds_190 (by decide) ?_
      obtain rfl := Option.some.inj h
      exact jg_zreturn dX0_holds_191 rfl (rfl) ⟨rfl, rfl⟩
    · replace h := it_t c20 h
      refine jg_iconst (v := nI 1) dX0_holds_186 (by decide) ?_
      refine jg_goto (tgt := 191) dX0_holds_187 (by decide) ?_
      obtain rfl := Option.some.inj h
      exact jg_zreturn dX0_holds_191 rfl (rfl) ⟨rfl, rfl⟩
theorem dX0_sum_0 : decode cX0_sum 0 = .ok (.iconst 0, 1) := by decide +kernel
theorem dX0_sum_1 : decode cX0_sum 1 = .ok (.istore_n 3, 1) := by decide +kernel
theorem dX0_sum_2 : decode cX0_sum 2 = .ok (.iconst 0, 1) := by decide +kernel
theorem dX0_sum_3 : decode cX0_sum 3 = .ok (.istore 4, 2) := by decide +kernel
theorem dX0_sum_5 : decode cX0_sum 5 = .ok (.iload 4, 2) := by decide +kernel
theorem dX0_sum_7 : decode cX0_sum 7 = .ok (.aload_n 0, 1) := by decide +kernel
theorem dX0_sum_8 : decode cX0_sum 8 = .ok (.getfield 11, 3) := by decide +kernel
theorem dX0_sum_11 : decode cX0_sum 11 = .ok (.if_icmp .ge 40, 3) := by decide +kernel
theorem dX0_sum_14 : decode cX0_sum 14 = .ok (.aload_n 0, 1) := by decide +kernel
theorem dX0_sum_15 : decode cX0_sum 15 = .ok (.getfield 15, 3) := by decide +kernel
theorem dX0_sum_18 : decode cX0_sum 18 = .ok (.iload 4, 2) := by decide +kernel
theorem dX0_sum_20 : decode cX0_sum 20 = .ok (.iaload, 1) := by decide +kernel
theorem dX0_sum_21 : decode cX0_sum 21 = .ok (.iload_n 1, 1) := by decide +kernel
theorem dX0_sum_22 : decode cX0_sum 22 = .ok (.if_icmp .ne 23, 3) := by decide +kernel
theorem dX0_sum_25 : decode cX0_sum 25 = .ok (.aload_n 0, 1) := by decide +kernel
theorem dX0_sum_26 : decode cX0_sum 26 = .ok (.iload 4, 2) := by decide +kernel
theorem dX0_sum_28 : decode cX0_sum 28 = .ok (.aload_n 2, 1) := by decide +kernel
theorem dX0_sum_29 : decode cX0_sum 29 = .ok (.invokevirtual 31, 3) := by decide +kernel
theorem dX0_sum_32 : decode cX0_sum 32 = .ok (.ifCond .eq 13, 3) := by decide +kernel
theorem dX0_sum_35 : decode cX0_sum 35 = .ok (.iload_n 3, 1) := by decide +kernel
theorem dX0_sum_36 : decode cX0_sum 36 = .ok (.aload_n 0, 1) := by decide +kernel
theorem dX0_sum_37 : decode cX0_sum 37 = .ok (.getfield 19, 3) := by decide +kernel
theorem dX0_sum_40 : decode cX0_sum 40 = .ok (.iload 4, 2) := by decide +kernel
theorem dX0_sum_42 : decode cX0_sum 42 = .ok (.iaload, 1) := by decide +kernel
theorem dX0_sum_43 : decode cX0_sum 43 = .ok (.iadd, 1) := by decide +kernel
theorem dX0_sum_44 : decode cX0_sum 44 = .ok (.istore_n 3, 1) := by decide +kernel
theorem dX0_sum_45 : decode cX0_sum 45 = .ok (.iinc 4 1, 3) := by decide +kernel
theorem dX0_sum_48 : decode cX0_sum 48 = .ok (.goto (-43), 3) := by decide +kernel
theorem dX0_sum_51 : decode cX0_sum 51 = .ok (.iload_n 3, 1) := by decide +kernel
theorem dX0_sum_52 : decode cX0_sum 52 = .ok (.ireturn, 1) := by decide +kernel
noncomputable def o_X0_sum_5 (F : Nat) (τ : cT) (n : Nat) (p : Nat) (a2 : Nat) (l1 : Int32) (s : cS) : Nat → Int32 → Int32 → Option (Int32)
  | 0, _, _ => none
  | f + 1, l3, l4 => if (s.1 p 0) ≤ l4 then (some l3) else (if iL l4 (tl τ (p + 1)) then (if (cg s (p + 1) l4) = l1 then ((o_X0_holds F τ n p a2 s l4).bind fun x4 => (if x4 = 0 then (o_X0_sum_5 F τ n p a2 l1 s f l3 (l4 + nI 1)) else (if iL l4 (tl τ (p + 2)) then (o_X0_sum_5 F τ n p a2 l1 s f (l3 + (cg s (p + 2) l4)) (l4 + nI 1)) else none))) else (o_X0_sum_5 F τ n p a2 l1 s f l3 (l4 + nI 1))) else none)
set_option maxHeartbeats 4000000 in
theorem t_X0_sum_5 {Γ : jg_G} {g : Nat → jg_C} (F : Nat) (τ : cT) (n : Nat) (p : Nat) (a2 : Nat) (l1 : Int32) (s : cS) (hp : acb τ n p = true) (h2 : Ar τ n a2 0 12) (Q : jg_Q) {x : Int32} (K1 : jg Γ mX0_sum 1 0 0 51 [none, none, none, some (.int x), none] [] (ct_h g τ s, n) Q)  : ∀ (f : Nat) (l3 : Int32) (l4 : Int32), o_X0_sum_5 F τ n p a2 l1 s f l3 l4 = some x → jg Γ mX0_sum 1 0 0 5 [some (.ref p), some (.int l1), some (.ref a2), some (.int l3), some (.int l4)] [] (ct_h g τ s, n) Q := by
  intro f
  induction f with
  | zero => intro l3 l4 h; rw [o_X0_sum_5] at h; cases h
  | succ f ih =>
   intro l3 l4 h
   rw [o_X0_sum_5] at h
   refine jg_iload dX0_sum_5 rfl ?_
   refine jg_aload_n dX0_sum_7 rfl ?_
   refine cs_get (s := s) (w := .int (s.1 p 0)) fl_X0_11 dX0_sum_8 (acb_ob hp) rfl ?_
   refine jg_icmp_ge (x := l4) (y := (s.1 p 0)) (tgt := 51) dX0_sum_11 (by decide) (fun c1 => ?_) (fun c1 => ?_)
   · replace h := it_t c1 h
     refine jg_fg (L' := [none, none, none, some (.int l3), none]) (by repeat (first | exact trivial | refine ⟨rfl, ?_⟩ | show jg_le _ _)) ?_
     obtain rfl := Option.some.inj h
     exact K1
   · replace h := it_f c1 h
     refine jg_aload_n dX0_sum_14 rfl ?_
     refine cs_get (s := s) (w := .ref (p + 1)) fl_X0_15 dX0_sum_15 (acb_ob hp) rfl ?_
     refine jg_iload dX0_sum_18 rfl ?_
     obtain ⟨q2, h⟩ := gd_some h
     refine cs_lda (s := s) (q := (p + 1)) (i := l4) dX0_sum_20 (acb_a1 hp) q2 ?_
     refine jg_iload_n dX0_sum_21 rfl ?_
     refine jg_icmp_ne (x := (cg s (p + 1) l4)) (y := l1) (tgt := 45) dX0_sum_22 (by decide) (fun c3 => ?_) (fun c3 => ?_)
     · replace h := it_f c3 h
       refine jg_iinc (x := l4) (v := l4 + nI 1) (L' := [some (.ref p), some (.int l1), some (.ref a2), some (.int l3), some (.int (l4 + nI 1))]) dX0_sum_45 rfl (ic_k _ (by decide)) (by decide) rfl ?_
       refine jg_goto (tgt := 5) dX0_sum_48 (by decide) ?_
       refine jg_fg (L' := [some (.ref p), some (.int l1), some (.ref a2), some (.int l3), some (.int (l4 + nI 1))]) (by repeat (first | exact trivial | refine ⟨rfl, ?_⟩ | show jg_le _ _)) ?_
       exact ih l3 (l4 + nI 1) h
     · replace h := it_t c3 h
       refine jg_aload_n dX0_sum_25 rfl ?_
       refine jg_iload dX0_sum_26 rfl ?_
       refine jg_aload_n dX0_sum_28 rfl ?_
       obtain ⟨x4, e_x4, h⟩ := bd_some h
       refine cs_call (q := p) (As := [.int l4, .ref a2]) kv_X0_31 dX0_sum_29 (acb_ob hp) rfl rfl (by decide) (Nat.le_of_ble_eq_true rfl) rfl (by decide) (Nat.le_of_ble_eq_true rfl) (t_X0_holds F τ n p a2 s l4 hp h2 e_x4) ?_
       refine jg_if_eq (x := x4) (tgt := 45) dX0_sum_32 (by decide) (fun c5 => ?_) (fun c5 => ?_)
       · replace h := it_t c5 h
         refine jg_iinc (x := l4) (v := l4 + nI 1) (L' := [some (.ref p), some (.int l1), some (.ref a2), some (.int l3), some (.int (l4 + nI 1))]) dX0_sum_45 rfl (ic_k _ (by decide)) (by decide) rfl ?_
         refine jg_goto (tgt := 5) dX0_sum_48 (by decide) ?_
         refine jg_fg (L' := [some (.ref p), some (.int l1), some (.ref a2), some (.int l3), some (.int (l4 + nI 1))]) (by repeat (first | exact trivial | refine ⟨rfl, ?_⟩ | show jg_le _ _)) ?_
         exact ih l3 (l4 + nI 1) h
       · replace h := it_f c5 h
         refine jg_iload_n dX0_sum_35 rfl ?_
         refine jg_aload_n dX0_sum_36 rfl ?_
         refine cs_get (s := s) (w := .ref (p + 2)) fl_X0_19 dX0_sum_37 (acb_ob hp) rfl ?_
         refine jg_iload dX0_sum_40 rfl ?_
         obtain ⟨q6, h⟩ := gd_some h
         refine cs_lda (s := s) (q := (p + 2)) (i := l4) dX0_sum_42 (acb_a2 hp) q6 ?_
         refine jg_iadd (x := l3) (y := (cg s (p + 2) l4)) dX0_sum_43  ?_
         refine jg_istore_n (L' := [some (.ref p), some (.int l1), some (.ref a2), some (.int (l3 + (cg s (p + 2) l4))), some (.int l4)]) dX0_sum_44 (by decide) rfl ?_
         refine jg_iinc (x := l4) (v := l4 + nI 1) (L' := [some (.ref p), some (.int l1), some (.ref a2), some (.int (l3 + (cg s (p + 2) l4))), some (.int (l4 + nI 1))]) dX0_sum_45 rfl (ic_k _ (by decide)) (by decide) rfl ?_
         refine jg_goto (tgt := 5) dX0_sum_48 (by decide) ?_
         refine jg_fg (L' := [some (.ref p), some (.int l1), some (.ref a2), some (.int (l3 + (cg s (p + 2) l4))), some (.int (l4 + nI 1))]) (by repeat (first | exact trivial | refine ⟨rfl, ?_⟩ | show jg_le _ _)) ?_
         exact ih (l3 + (cg s (p + 2) l4)) (l4 + nI 1) h
noncomputable def o_X0_sum (F : Nat) (τ : cT) (n : Nat) (p : Nat) (a2 : Nat) (s : cS) (a1 : Int32) : Option (Int32) := (o_X0_sum_5 F τ n p a2 a1 s F (nI 0) (nI 0)).bind fun x7 => (some x7)
set_option maxHeartbeats 4000000 in
theorem t_X0_sum {Γ : jg_G} {g : Nat → jg_C} (F : Nat) (τ : cT) (n : Nat) (p : Nat) (a2 : Nat) (s : cS) (a1 : Int32) (hp : acb τ n p = true) (h2 : Ar τ n a2 0 12) {x : Int32} (h : o_X0_sum F τ n p a2 s a1 = some x) : jc Γ mX0_sum 1 0 0 [some (.ref p), some (.int a1), some (.ref a2), none, none] (ct_h g τ s, n) (.inl (some (.int x))) (ct_h g τ s, n) := by
  refine jc_of ?_
  rw [o_X0_sum] at h
  refine jg_iconst (v := nI 0) dX0_sum_0 (by decide) ?_
  refine jg_istore_n (L' := [some (.ref p), some (.int a1), some (.ref a2), some (.int (nI 0)), none]) dX0_sum_1 (by decide) rfl ?_
  refine jg_iconst (v := nI 0) dX0_sum_2 (by decide) ?_
  refine jg_istore (L' := [some (.ref p), some (.int a1), some (.ref a2), some (.int (nI 0)), some (.int (nI 0))]) dX0_sum_3 (by decide) rfl ?_
  obtain ⟨x7, e_x7, h⟩ := bd_some h
  refine jg_fg (L' := [some (.ref p), some (.int a1), some (.ref a2), some (.int (nI 0)), some (.int (nI 0))]) (by repeat (first | exact trivial | refine ⟨rfl, ?_⟩ | show jg_le _ _)) ?_
  refine t_X0_sum_5  F τ n p a2 a1 s hp h2 _ (x := x7) ?_ F (nI 0) (nI 0) e_x7
  refine jg_iload_n dX0_sum_51 rfl ?_
  obtain rfl := Option.some.inj h
  exact jg_ireturn dX0_sum_52 rfl ⟨rfl, rfl⟩
theorem dX11_capped_0 : decode cX11_capped 0 = .ok (.lload_n 0, 1) := by decide +kernel
theorem dX11_capped_1 : decode cX11_capped 1 = .ok (.ldc2_w 476, 3) := by decide +kernel
theorem dX11_capped_4 : decode cX11_capped 4 = .ok (.invokestatic 478, 3) := by decide +kernel
theorem dX11_capped_7 : decode cX11_capped 7 = .ok (.l2i, 1) := by decide +kernel
theorem dX11_capped_8 : decode cX11_capped 8 = .ok (.ireturn, 1) := by decide +kernel
noncomputable def o_X11_capped (τ : cT) (n : Nat) (s : cS) (a1 : Int64) : Option (Int32) := some ((mnl a1 2000000000).toInt32)
set_option maxHeartbeats 4000000 in
theorem t_X11_capped {Γ : jg_G} {g : Nat → jg_C} (τ : cT) (n : Nat) (s : cS) (a1 : Int64)  {x : Int32} (h : o_X11_capped τ n s a1 = some x) : jc Γ mX11_capped 1 0 0 [some (.long a1), none] (ct_h g τ s, n) (.inl (some (.int x))) (ct_h g τ s, n) := by
  refine jc_of ?_
  rw [o_X11_capped] at h
  refine jg_lload_n dX11_capped_0 rfl ?_
  refine jg_ldc2 kk_X11_476 dX11_capped_1 ?_
  refine jg_mminl (x := a1) (y := 2000000000) km_X11_478 jw_minl.1 jw_minl.2 dX11_capped_4 (by decide) (Nat.le_of_ble_eq_true rfl) ?_
  refine jg_l2i dX11_capped_7 ?_
  obtain rfl := Option.some.inj h
  exact jg_ireturn dX11_capped_8 rfl ⟨rfl, rfl⟩
theorem dX2_dueBy_0 : decode cX2_dueBy 0 = .ok (.aload_n 0, 1) := by decide +kernel
theorem dX2_dueBy_1 : decode cX2_dueBy 1 = .ok (.aload_n 2, 1) := by decide +kernel
theorem dX2_dueBy_2 : decode cX2_dueBy 2 = .ok (.iload_n 3, 1) := by decide +kernel
theorem dX2_dueBy_3 : decode cX2_dueBy 3 = .ok (.invokevirtual 298, 3) := by decide +kernel
theorem dX2_dueBy_6 : decode cX2_dueBy 6 = .ok (.aload_n 1, 1) := by decide +kernel
theorem dX2_dueBy_7 : decode cX2_dueBy 7 = .ok (.iconst 0, 1) := by decide +kernel
theorem dX2_dueBy_8 : decode cX2_dueBy 8 = .ok (.aload_n 0, 1) := by decide +kernel
theorem dX2_dueBy_9 : decode cX2_dueBy 9 = .ok (.getfield 63, 3) := by decide +kernel
theorem dX2_dueBy_12 : decode cX2_dueBy 12 = .ok (.invokevirtual 301, 3) := by decide +kernel
theorem dX2_dueBy_15 : decode cX2_dueBy 15 = .ok (.i2l, 1) := by decide +kernel
theorem dX2_dueBy_16 : decode cX2_dueBy 16 = .ok (.aload_n 2, 1) := by decide +kernel
theorem dX2_dueBy_17 : decode cX2_dueBy 17 = .ok (.getfield 292, 3) := by decide +kernel
theorem dX2_dueBy_20 : decode cX2_dueBy 20 = .ok (.i2l, 1) := by decide +kernel
theorem dX2_dueBy_21 : decode cX2_dueBy 21 = .ok (.lmul, 1) := by decide +kernel
theorem dX2_dueBy_22 : decode cX2_dueBy 22 = .ok (.aload_n 1, 1) := by decide +kernel
theorem dX2_dueBy_23 : decode cX2_dueBy 23 = .ok (.iconst 1, 1) := by decide +kernel
theorem dX2_dueBy_24 : decode cX2_dueBy 24 = .ok (.aload_n 0, 1) := by decide +kernel
theorem dX2_dueBy_25 : decode cX2_dueBy 25 = .ok (.getfield 63, 3) := by decide +kernel
theorem dX2_dueBy_28 : decode cX2_dueBy 28 = .ok (.invokevirtual 301, 3) := by decide +kernel
theorem dX2_dueBy_31 : decode cX2_dueBy 31 = .ok (.i2l, 1) := by decide +kernel
theorem dX2_dueBy_32 : decode cX2_dueBy 32 = .ok (.ladd, 1) := by decide +kernel
theorem dX2_dueBy_33 : decode cX2_dueBy 33 = .ok (.invokestatic 305, 3) := by decide +kernel
theorem dX2_dueBy_36 : decode cX2_dueBy 36 = .ok (.ireturn, 1) := by decide +kernel
noncomputable def o_X2_dueBy (F : Nat) (τ : cT) (n : Nat) (b : Nat) (a1 : Nat) (a2 : Nat) (s : cS) (a3 : Int32) : Option (Int32 × cS) := (o_X2_askOfShip F τ n b a2 s a3).bind fun x1 => ((o_X0_sum F τ n a1 (b + 167) x1 (nI 0)).bind fun x2 => ((o_X0_sum F τ n a1 (b + 167) x1 (nI 1)).bind fun x3 => ((o_X11_capped τ n x1 ((x2.toInt64 * ((x1.1 a2 1).toInt64)) + x3.toInt64)).bind fun x4 => (some (x4, x1)))))
set_option maxHeartbeats 4000000 in
theorem t_X2_dueBy {Γ : jg_G} {g : Nat → jg_C} (F : Nat) (τ : cT) (n : Nat) (b : Nat) (a1 : Nat) (a2 : Nat) (s : cS) (a3 : Int32) (hB : Bd τ n b) (h1 : acb τ n a1 = true) (h2 : Ob τ n a2 9) {x : Int32 × cS} (h : o_X2_dueBy F τ n b a1 a2 s a3 = some x) : jc Γ mX2_dueBy 2 0 0 [some (.ref b), some (.ref a1), some (.ref a2), some (.int a3)] (ct_h g τ s, n) (.inl (some (.int x.1))) (ct_h g τ x.2, n) := by
  refine jc_of ?_
  rw [o_X2_dueBy] at h
  refine jg_aload_n dX2_dueBy_0 rfl ?_
  refine jg_aload_n dX2_dueBy_1 rfl ?_
  refine jg_iload_n dX2_dueBy_2 rfl ?_
  obtain ⟨x1, e_x1, h⟩ := bd_some h
  refine cs_call (q := b) (As := [.ref a2, .int a3]) kv_X2_298 dX2_dueBy_3 hB.ob0 rfl rfl (by decide) (Nat.le_of_ble_eq_true rfl) rfl (by decide) (Nat.le_of_ble_eq_true rfl) (t_X2_askOfShip F τ n b a2 s a3 hB h2 e_x1) ?_
  refine jg_aload_n dX2_dueBy_6 rfl ?_
  refine jg_iconst (v := nI 0) dX2_dueBy_7 (by decide) ?_
  refine jg_aload_n dX2_dueBy_8 rfl ?_
  refine cs_get (s := x1) (w := .ref (b + 167)) fl_X2_63 dX2_dueBy_9 hB.ob0 rfl ?_
  obtain ⟨x2, e_x2, h⟩ := bd_some h
  refine cs_call (q := a1) (As := [.int (nI 0), .ref (b + 167)]) kv_X2_301 dX2_dueBy_12 (acb_ob h1) rfl rfl (by decide) (Nat.le_of_ble_eq_true rfl) rfl (by decide) (Nat.le_of_ble_eq_true rfl) (t_X0_sum F τ n a1 (b + 167) x1 (nI 0) h1 (hB.ar 167 (by decide) rfl) e_x2) ?_
  refine jg_i2l dX2_dueBy_15 ?_
  refine jg_aload_n dX2_dueBy_16 rfl ?_
  refine cs_get (s := x1) (w := .int (x1.1 a2 1)) fl_X2_292 dX2_dueBy_17 h2 rfl ?_
  refine jg_i2l dX2_dueBy_20 ?_
  refine jg_lmul dX2_dueBy_21 ?_
  refine jg_aload_n dX2_dueBy_22 rfl ?_
  refine jg_iconst (v := nI 1) dX2_dueBy_23 (by decide) ?_
  refine jg_aload_n dX2_dueBy_24 rfl ?_
  refine cs_get (s := x1) (w := .ref (b + 167)) fl_X2_63 dX2_dueBy_25 hB.ob0 rfl ?_
  obtain ⟨x3, e_x3, h⟩ := bd_some h
  refine cs_call (q := a1) (As := [.int (nI 1), .ref (b + 167)]) kv_X2_301 dX2_dueBy_28 (acb_ob h1) rfl rfl (by decide) (Nat.le_of_ble_eq_true rfl) rfl (by decide) (Nat.le_of_ble_eq_true rfl) (t_X0_sum F τ n a1 (b + 167) x1 (nI 1) h1 (hB.ar 167 (by decide) rfl) e_x3) ?_
  refine jg_i2l dX2_dueBy_31 ?_
  refine jg_ladd dX2_dueBy_32 ?_
  obtain ⟨x4, e_x4, h⟩ := bd_some h
  refine cs_callN (As := [.long ((x2.toInt64 * ((x1.1 a2 1).toInt64)) + x3.toInt64)]) kw_X2_305 dX2_dueBy_33 rfl (by decide) (Nat.le_of_ble_eq_true rfl) rfl (by decide) (Nat.le_of_ble_eq_true rfl) (t_X11_capped τ n x1 ((x2.toInt64 * ((x1.1 a2 1).toInt64)) + x3.toInt64) e_x4) ?_
  obtain rfl := Option.some.inj h
  exact jg_ireturn dX2_dueBy_36 rfl ⟨rfl, rfl⟩
theorem dX5_freeBerth_0 : decode cX5_freeBerth 0 = .ok (.iload_n 1, 1) := by decide +kernel
theorem dX5_freeBerth_1 : decode cX5_freeBerth 1 = .ok (.ifCond .lt 21, 3) := by decide +kernel
theorem dX5_freeBerth_4 : decode cX5_freeBerth 4 = .ok (.iload_n 1, 1) := by decide +kernel
theorem dX5_freeBerth_5 : decode cX5_freeBerth 5 = .ok (.aload_n 0, 1) := by decide +kernel
theorem dX5_freeBerth_6 : decode cX5_freeBerth 6 = .ok (.getfield 38, 3) := by decide +kernel
theorem dX5_freeBerth_9 : decode cX5_freeBerth 9 = .ok (.if_icmp .ge 13, 3) := by decide +kernel
theorem dX5_freeBerth_12 : decode cX5_freeBerth 12 = .ok (.aload_n 0, 1) := by decide +kernel
theorem dX5_freeBerth_13 : decode cX5_freeBerth 13 = .ok (.getfield 11, 3) := by decide +kernel
theorem dX5_freeBerth_16 : decode cX5_freeBerth 16 = .ok (.iload_n 1, 1) := by decide +kernel
theorem dX5_freeBerth_17 : decode cX5_freeBerth 17 = .ok (.aaload, 1) := by decide +kernel
theorem dX5_freeBerth_18 : decode cX5_freeBerth 18 = .ok (.iconst (-1), 1) := by decide +kernel
theorem dX5_freeBerth_19 : decode cX5_freeBerth 19 = .ok (.putfield 71, 3) := by decide +kernel
theorem dX5_freeBerth_22 : decode cX5_freeBerth 22 = .ok (.return_, 1) := by decide +kernel
noncomputable def o_X5_freeBerth (τ : cT) (n : Nat) (b : Nat) (s : cS) (a1 : Int32) : Option (cS) := if a1 < 0 then (some s) else (if (s.1 (b + 27) 1) ≤ a1 then (some s) else (if iL a1 10 then (some (cp s (b + 28 + 1 + a1.toNatClampNeg) 7 (-1))) else none))
set_option maxHeartbeats 4000000 in
theorem t_X5_freeBerth {Γ : jg_G} {g : Nat → jg_C} (τ : cT) (n : Nat) (b : Nat) (s : cS) (a1 : Int32) (hB : Bd τ n b) {x : cS} (h : o_X5_freeBerth τ n b s a1 = some x) : jc Γ mX5_freeBerth 0 0 0 [some (.ref (b + 27)), some (.int a1)] (ct_h g τ s, n) (.inl none) (ct_h g τ x, n) := by
  refine jc_of ?_
  rw [o_X5_freeBerth] at h
  refine jg_iload_n dX5_freeBerth_0 rfl ?_
  refine jg_if_lt (x := a1) (tgt := 22) dX5_freeBerth_1 (by decide) (fun c1 => ?_) (fun c1 => ?_)
  · replace h := it_t c1 h
    obtain rfl := Option.some.inj h
    exact jg_return dX5_freeBerth_22 rfl ⟨rfl, rfl⟩
  · replace h := it_f c1 h
    refine jg_iload_n dX5_freeBerth_4 rfl ?_
    refine jg_aload_n dX5_freeBerth_5 rfl ?_
    refine cs_get (s := s) (w := .int (s.1 (b + 27) 1)) fl_X5_38 dX5_freeBerth_6 (hB.ob 27 (by decide) rfl) rfl ?_
    refine jg_icmp_ge (x := a1) (y := (s.1 (b + 27) 1)) (tgt := 22) dX5_freeBerth_9 (by decide) (fun c2 => ?_) (fun c2 => ?_)
    · replace h := it_t c2 h
      obtain rfl := Option.some.inj h
      exact jg_return dX5_freeBerth_22 rfl ⟨rfl, rfl⟩
    · replace h := it_f c2 h
      refine jg_aload_n dX5_freeBerth_12 rfl ?_
      refine cs_get (s := s) (w := .ref (b + 28)) fl_X5_11 dX5_freeBerth_13 (hB.ob 27 (by decide) rfl) rfl ?_
      refine jg_iload_n dX5_freeBerth_16 rfl ?_
      obtain ⟨q3, h⟩ := gd_some h
      refine cs_ldr (s := s) (q := (b + 28)) (i := a1) (kd := 5) (by decide) dX5_freeBerth_17 (hB.ar 28 (by decide) rfl) q3 ?_
      refine jg_iconst (v := (-1)) dX5_freeBerth_18 (by decide) ?_
      refine cs_put (s := s) (k := 7) (x := (-1)) fl_X5_71 dX5_freeBerth_19 (hB.berth q3.2) (ltb rfl) (rfl) rfl rfl ?_
      obtain rfl := Option.some.inj h
      exact jg_return dX5_freeBerth_22 rfl ⟨rfl, rfl⟩
theorem dX5_takePilot_0 : decode cX5_takePilot 0 = .ok (.iconst 0, 1) := by decide +kernel
theorem dX5_takePilot_1 : decode cX5_takePilot 1 = .ok (.istore_n 2, 1) := by decide +kernel
theorem dX5_takePilot_2 : decode cX5_takePilot 2 = .ok (.iload_n 2, 1) := by decide +kernel
theorem dX5_takePilot_3 : decode cX5_takePilot 3 = .ok (.iload_n 1, 1) := by decide +kernel
theorem dX5_takePilot_4 : decode cX5_takePilot 4 = .ok (.if_icmp .ge 28, 3) := by decide +kernel
theorem dX5_takePilot_7 : decode cX5_takePilot 7 = .ok (.iload_n 2, 1) := by decide +kernel
theorem dX5_takePilot_8 : decode cX5_takePilot 8 = .ok (.aload_n 0, 1) := by decide +kernel
theorem dX5_takePilot_9 : decode cX5_takePilot 9 = .ok (.getfield 34, 3) := by decide +kernel
theorem dX5_takePilot_12 : decode cX5_takePilot 12 = .ok (.arraylength, 1) := by decide +kernel
theorem dX5_takePilot_13 : decode cX5_takePilot 13 = .ok (.if_icmp .ge 19, 3) := by decide +kernel
theorem dX5_takePilot_16 : decode cX5_takePilot 16 = .ok (.aload_n 0, 1) := by decide +kernel
theorem dX5_takePilot_17 : decode cX5_takePilot 17 = .ok (.getfield 34, 3) := by decide +kernel
theorem dX5_takePilot_20 : decode cX5_takePilot 20 = .ok (.iload_n 2, 1) := by decide +kernel
theorem dX5_takePilot_21 : decode cX5_takePilot 21 = .ok (.dup2, 1) := by decide +kernel
theorem dX5_takePilot_22 : decode cX5_takePilot 22 = .ok (.iaload, 1) := by decide +kernel
theorem dX5_takePilot_23 : decode cX5_takePilot 23 = .ok (.iconst 1, 1) := by decide +kernel
theorem dX5_takePilot_24 : decode cX5_takePilot 24 = .ok (.iadd, 1) := by decide +kernel
theorem dX5_takePilot_25 : decode cX5_takePilot 25 = .ok (.iastore, 1) := by decide +kernel
theorem dX5_takePilot_26 : decode cX5_takePilot 26 = .ok (.iinc 2 1, 3) := by decide +kernel
theorem dX5_takePilot_29 : decode cX5_takePilot 29 = .ok (.goto (-27), 3) := by decide +kernel
theorem dX5_takePilot_32 : decode cX5_takePilot 32 = .ok (.return_, 1) := by decide +kernel
noncomputable def o_X5_takePilot_2 (F : Nat) (τ : cT) (n : Nat) (b : Nat) (l1 : Int32)  : Nat → Int32 → cS → Option (cS)
  | 0, _, _ => none
  | f + 1, l2, s => if l1 ≤ l2 then (some s) else (if (nI 4) ≤ l2 then (some s) else (if iL l2 4 then (o_X5_takePilot_2 F τ n b l1 f (l2 + nI 1) (ca s (b + 120) l2 ((cg s (b + 120) l2) + (nI 1)))) else none))
set_option maxHeartbeats 4000000 in
theorem t_X5_takePilot_2 {Γ : jg_G} {g : Nat → jg_C} (F : Nat) (τ : cT) (n : Nat) (b : Nat) (l1 : Int32)  (hB : Bd τ n b) (Q : jg_Q) {x : cS} (K1 : jg Γ mX5_takePilot 0 0 0 32 [none, none, none] [] (ct_h g τ x, n) Q)  : ∀ (f : Nat) (l2 : Int32) (s : cS), o_X5_takePilot_2 F τ n b l1 f l2 s = some x → jg Γ mX5_takePilot 0 0 0 2 [some (.ref (b + 27)), some (.int l1), some (.int l2)] [] (ct_h g τ s, n) Q := by
  intro f
  induction f with
  | zero => intro l2 s h; rw [o_X5_takePilot_2] at h; cases h
  | succ f ih =>
   intro l2 s h
   rw [o_X5_takePilot_2] at h
   refine jg_iload_n dX5_takePilot_2 rfl ?_
   refine jg_iload_n dX5_takePilot_3 rfl ?_
   refine jg_icmp_ge (x := l2) (y := l1) (tgt := 32) dX5_takePilot_4 (by decide) (fun c1 => ?_) (fun c1 => ?_)
   · replace h := it_t c1 h
     refine jg_fg (L' := [none, none, none]) (by repeat (first | exact trivial | refine ⟨rfl, ?_⟩ | show jg_le _ _)) ?_
     obtain rfl := Option.some.inj h
     exact K1
   · replace h := it_f c1 h
     refine jg_iload_n dX5_takePilot_7 rfl ?_
     refine jg_aload_n dX5_takePilot_8 rfl ?_
     refine cs_get (s := s) (w := .ref (b + 120)) fl_X5_34 dX5_takePilot_9 (hB.ob 27 (by decide) rfl) rfl ?_
     refine cs_len (s := s) (q := (b + 120)) (by decide) dX5_takePilot_12 (hB.ar 120 (by decide) rfl) ?_
     refine jg_icmp_ge (x := l2) (y := (nI 4)) (tgt := 32) dX5_takePilot_13 (by decide) (fun c2 => ?_) (fun c2 => ?_)
     · replace h := it_t c2 h
       refine jg_fg (L' := [none, none, none]) (by repeat (first | exact trivial | refine ⟨rfl, ?_⟩ | show jg_le _ _)) ?_
       obtain rfl := Option.some.inj h
       exact K1
     · replace h := it_f c2 h
       refine jg_aload_n dX5_takePilot_16 rfl ?_
       refine cs_get (s := s) (w := .ref (b + 120)) fl_X5_34 dX5_takePilot_17 (hB.ob 27 (by decide) rfl) rfl ?_
       refine jg_iload_n dX5_takePilot_20 rfl ?_
       refine jg_dup2 dX5_takePilot_21 rfl rfl ?_
       obtain ⟨q3, h⟩ := gd_some h
       refine cs_lda (s := s) (q := (b + 120)) (i := l2) dX5_takePilot_22 (hB.ar 120 (by decide) rfl) q3 ?_
       refine jg_iconst (v := nI 1) dX5_takePilot_23 (by decide) ?_
       refine jg_iadd (x := (cg s (b + 120) l2)) (y := (nI 1)) dX5_takePilot_24  ?_
       refine cs_sta (s := s) (q := (b + 120)) (i := l2) (x := ((cg s (b + 120) l2) + (nI 1))) dX5_takePilot_25 (hB.ar 120 (by decide) rfl) q3 ?_
       refine jg_iinc (x := l2) (v := l2 + nI 1) (L' := [some (.ref (b + 27)), some (.int l1), some (.int (l2 + nI 1))]) dX5_takePilot_26 rfl (ic_k _ (by decide)) (by decide) rfl ?_
       refine jg_goto (tgt := 2) dX5_takePilot_29 (by decide) ?_
       refine jg_fg (L' := [some (.ref (b + 27)), some (.int l1), some (.int (l2 + nI 1))]) (by repeat (first | exact trivial | refine ⟨rfl, ?_⟩ | show jg_le _ _)) ?_
       exact ih (l2 + nI 1) (ca s (b + 120) l2 ((cg s (b + 120) l2) + (nI 1))) h
noncomputable def o_X5_takePilot (F : Nat) (τ : cT) (n : Nat) (b : Nat) (s : cS) (a1 : Int32) : Option (cS) := (o_X5_takePilot_2 F τ n b a1 F (nI 0) s).bind fun x4 => (some x4)
set_option maxHeartbeats 4000000 in
theorem t_X5_takePilot {Γ : jg_G} {g : Nat → jg_C} (F : Nat) (τ : cT) (n : Nat) (b : Nat) (s : cS) (a1 : Int32) (hB : Bd τ n b) {x : cS} (h : o_X5_takePilot F τ n b s a1 = some x) : jc Γ mX5_takePilot 0 0 0 [some (.ref (b + 27)), some (.int a1), none] (ct_h g τ s, n) (.inl none) (ct_h g τ x, n) := by
  refine jc_of ?_
  rw [o_X5_takePilot] at h
  refine jg_iconst (v := nI 0) dX5_takePilot_0 (by decide) ?_
  refine jg_istore_n (L' := [some (.ref (b + 27)), some (.int a1), some (.int (nI 0))]) dX5_takePilot_1 (by decide) rfl ?_
  obtain ⟨x4, e_x4, h⟩ := bd_some h
  refine jg_fg (L' := [some (.ref (b + 27)), some (.int a1), some (.int (nI 0))]) (by repeat (first | exact trivial | refine ⟨rfl, ?_⟩ | show jg_le _ _)) ?_
  refine t_X5_takePilot_2  F τ n b a1 hB _ (x := x4) ?_ F (nI 0) s e_x4
  obtain rfl := Option.some.inj h
  exact jg_return dX5_takePilot_32 rfl ⟨rfl, rfl⟩
theorem dX6_takeDue_0 : decode cX6_takeDue 0 = .ok (.aload_n 0, 1) := by decide +kernel
theorem dX6_takeDue_1 : decode cX6_takeDue 1 = .ok (.getfield 9, 3) := by decide +kernel
theorem dX6_takeDue_4 : decode cX6_takeDue 4 = .ok (.iload_n 1, 1) := by decide +kernel
theorem dX6_takeDue_5 : decode cX6_takeDue 5 = .ok (.aload_n 0, 1) := by decide +kernel
theorem dX6_takeDue_6 : decode cX6_takeDue 6 = .ok (.getfield 9, 3) := by decide +kernel
theorem dX6_takeDue_9 : decode cX6_takeDue 9 = .ok (.iload_n 1, 1) := by decide +kernel
theorem dX6_takeDue_10 : decode cX6_takeDue 10 = .ok (.iaload, 1) := by decide +kernel
theorem dX6_takeDue_11 : decode cX6_takeDue 11 = .ok (.i2l, 1) := by decide +kernel
theorem dX6_takeDue_12 : decode cX6_takeDue 12 = .ok (.iload_n 2, 1) := by decide +kernel
theorem dX6_takeDue_13 : decode cX6_takeDue 13 = .ok (.i2l, 1) := by decide +kernel
theorem dX6_takeDue_14 : decode cX6_takeDue 14 = .ok (.ladd, 1) := by decide +kernel
theorem dX6_takeDue_15 : decode cX6_takeDue 15 = .ok (.invokestatic 59, 3) := by decide +kernel
theorem dX6_takeDue_18 : decode cX6_takeDue 18 = .ok (.iastore, 1) := by decide +kernel
theorem dX6_takeDue_19 : decode cX6_takeDue 19 = .ok (.aload_n 0, 1) := by decide +kernel
theorem dX6_takeDue_20 : decode cX6_takeDue 20 = .ok (.getfield 18, 3) := by decide +kernel
theorem dX6_takeDue_23 : decode cX6_takeDue 23 = .ok (.iload_n 1, 1) := by decide +kernel
theorem dX6_takeDue_24 : decode cX6_takeDue 24 = .ok (.aload_n 0, 1) := by decide +kernel
theorem dX6_takeDue_25 : decode cX6_takeDue 25 = .ok (.getfield 18, 3) := by decide +kernel
theorem dX6_takeDue_28 : decode cX6_takeDue 28 = .ok (.iload_n 1, 1) := by decide +kernel
theorem dX6_takeDue_29 : decode cX6_takeDue 29 = .ok (.iaload, 1) := by decide +kernel
theorem dX6_takeDue_30 : decode cX6_takeDue 30 = .ok (.i2l, 1) := by decide +kernel
theorem dX6_takeDue_31 : decode cX6_takeDue 31 = .ok (.iload_n 2, 1) := by decide +kernel
theorem dX6_takeDue_32 : decode cX6_takeDue 32 = .ok (.i2l, 1) := by decide +kernel
theorem dX6_takeDue_33 : decode cX6_takeDue 33 = .ok (.ladd, 1) := by decide +kernel
theorem dX6_takeDue_34 : decode cX6_takeDue 34 = .ok (.invokestatic 59, 3) := by decide +kernel
theorem dX6_takeDue_37 : decode cX6_takeDue 37 = .ok (.iastore, 1) := by decide +kernel
theorem dX6_takeDue_38 : decode cX6_takeDue 38 = .ok (.aload_n 0, 1) := by decide +kernel
theorem dX6_takeDue_39 : decode cX6_takeDue 39 = .ok (.aload_n 0, 1) := by decide +kernel
theorem dX6_takeDue_40 : decode cX6_takeDue 40 = .ok (.getfield 43, 3) := by decide +kernel
theorem dX6_takeDue_43 : decode cX6_takeDue 43 = .ok (.i2l, 1) := by decide +kernel
theorem dX6_takeDue_44 : decode cX6_takeDue 44 = .ok (.iload_n 2, 1) := by decide +kernel
theorem dX6_takeDue_45 : decode cX6_takeDue 45 = .ok (.i2l, 1) := by decide +kernel
theorem dX6_takeDue_46 : decode cX6_takeDue 46 = .ok (.ladd, 1) := by decide +kernel
theorem dX6_takeDue_47 : decode cX6_takeDue 47 = .ok (.invokestatic 59, 3) := by decide +kernel
theorem dX6_takeDue_50 : decode cX6_takeDue 50 = .ok (.putfield 43, 3) := by decide +kernel
theorem dX6_takeDue_53 : decode cX6_takeDue 53 = .ok (.aload_n 0, 1) := by decide +kernel
theorem dX6_takeDue_54 : decode cX6_takeDue 54 = .ok (.aload_n 0, 1) := by decide +kernel
theorem dX6_takeDue_55 : decode cX6_takeDue 55 = .ok (.getfield 39, 3) := by decide +kernel
theorem dX6_takeDue_58 : decode cX6_takeDue 58 = .ok (.i2l, 1) := by decide +kernel
theorem dX6_takeDue_59 : decode cX6_takeDue 59 = .ok (.iload_n 2, 1) := by decide +kernel
theorem dX6_takeDue_60 : decode cX6_takeDue 60 = .ok (.i2l, 1) := by decide +kernel
theorem dX6_takeDue_61 : decode cX6_takeDue 61 = .ok (.ladd, 1) := by decide +kernel
theorem dX6_takeDue_62 : decode cX6_takeDue 62 = .ok (.invokestatic 59, 3) := by decide +kernel
theorem dX6_takeDue_65 : decode cX6_takeDue 65 = .ok (.putfield 39, 3) := by decide +kernel
theorem dX6_takeDue_68 : decode cX6_takeDue 68 = .ok (.return_, 1) := by decide +kernel
noncomputable def o_X6_takeDue (τ : cT) (n : Nat) (b : Nat) (s : cS) (a1 : Int32) (a2 : Int32) : Option (cS) := if iL a1 30 then ((o_X11_capped τ n s (((cg s (b + 122) a1).toInt64) + a2.toInt64)).bind fun x2 => ((o_X11_capped τ n (ca s (b + 122) a1 x2) (((cg (ca s (b + 122) a1 x2) (b + 124) a1).toInt64) + a2.toInt64)).bind fun x3 => ((o_X11_capped τ n (ca (ca s (b + 122) a1 x2) (b + 124) a1 x3) ((((ca (ca s (b + 122) a1 x2) (b + 124) a1 x3).1 (b + 121) 1).toInt64) + a2.toInt64)).bind fun x4 => ((some (cp (ca (ca s (b + 122) a1 x2) (b + 124) a1 x3) (b + 121) 1 x4)).bind fun x5 => ((o_X11_capped τ n x5 (((x5.1 (b + 121) 0).toInt64) + a2.toInt64)).bind fun x6 => (some (cp x5 (b + 121) 0 x6))))))) else none
set_option maxHeartbeats 4000000 in
theorem t_X6_takeDue {Γ : jg_G} {g : Nat → jg_C} (τ : cT) (n : Nat) (b : Nat) (s : cS) (a1 : Int32) (a2 : Int32) (hB : Bd τ n b) {x : cS} (h : o_X6_takeDue τ n b s a1 a2 = some x) : jc Γ mX6_takeDue 2 0 0 [some (.ref (b + 121)), some (.int a1), some (.int a2)] (ct_h g τ s, n) (.inl none) (ct_h g τ x, n) := by
  refine jc_of ?_
  rw [o_X6_takeDue] at h
  refine jg_aload_n dX6_takeDue_0 rfl ?_
  refine cs_get (s := s) (w := .ref (b + 122)) fl_X6_9 dX6_takeDue_1 (hB.ob 121 (by decide) rfl) rfl ?_
  refine jg_iload_n dX6_takeDue_4 rfl ?_
  refine jg_aload_n dX6_takeDue_5 rfl ?_
  refine cs_get (s := s) (w := .ref (b + 122)) fl_X6_9 dX6_takeDue_6 (hB.ob 121 (by decide) rfl) rfl ?_
  refine jg_iload_n dX6_takeDue_9 rfl ?_
  obtain ⟨q1, h⟩ := gd_some h
  refine cs_lda (s := s) (q := (b + 122)) (i := a1) dX6_takeDue_10 (hB.ar 122 (by decide) rfl) q1 ?_
  refine jg_i2l dX6_takeDue_11 ?_
  refine jg_iload_n dX6_takeDue_12 rfl ?_
  refine jg_i2l dX6_takeDue_13 ?_
  refine jg_ladd dX6_takeDue_14 ?_
  obtain ⟨x2, e_x2, h⟩ := bd_some h
  refine cs_callN (As := [.long (((cg s (b + 122) a1).toInt64) + a2.toInt64)]) kw_X6_59 dX6_takeDue_15 rfl (by decide) (Nat.le_of_ble_eq_true rfl) rfl (by decide) (Nat.le_of_ble_eq_true rfl) (t_X11_capped τ n s (((cg s (b + 122) a1).toInt64) + a2.toInt64) e_x2) ?_
  refine cs_sta (s := s) (q := (b + 122)) (i := a1) (x := x2) dX6_takeDue_18 (hB.ar 122 (by decide) rfl) q1 ?_
  refine jg_aload_n dX6_takeDue_19 rfl ?_
  refine cs_get (s := (ca s (b + 122) a1 x2)) (w := .ref (b + 124)) fl_X6_18 dX6_takeDue_20 (hB.ob 121 (by decide) rfl) rfl ?_
  refine jg_iload_n dX6_takeDue_23 rfl ?_
  refine jg_aload_n dX6_takeDue_24 rfl ?_
  refine cs_get (s := (ca s (b + 122) a1 x2)) (w := .ref (b + 124)) fl_X6_18 dX6_takeDue_25 (hB.ob 121 (by decide) rfl) rfl ?_
  refine jg_iload_n dX6_takeDue_28 rfl ?_
  refine cs_lda (s := (ca s (b + 122) a1 x2)) (q := (b + 124)) (i := a1) dX6_takeDue_29 (hB.ar 124 (by decide) rfl) q1 ?_
  refine jg_i2l dX6_takeDue_30 ?_
  refine jg_iload_n dX6_takeDue_31 rfl ?_
  refine jg_i2l dX6_takeDue_32 ?_
  refine jg_ladd dX6_takeDue_33 ?_
  obtain ⟨x3, e_x3, h⟩ := bd_some h
  refine cs_callN (As := [.long (((cg (ca s (b + 122) a1 x2) (b + 124) a1).toInt64) + a2.toInt64)]) kw_X6_59 dX6_takeDue_34 rfl (by decide) (Nat.le_of_ble_eq_true rfl) rfl (by decide) (Nat.le_of_ble_eq_true rfl) (t_X11_capped τ n (ca s (b + 122) a1 x2) (((cg (ca s (b + 122) a1 x2) (b + 124) a1).toInt64) + a2.toInt64) e_x3) ?_
  refine cs_sta (s := (ca s (b + 122) a1 x2)) (q := (b + 124)) (i := a1) (x := x3) dX6_takeDue_37 (hB.ar 124 (by decide) rfl) q1 ?_
  refine jg_aload_n dX6_takeDue_38 rfl ?_
  refine jg_aload_n dX6_takeDue_39 rfl ?_
  refine cs_get (s := (ca (ca s (b + 122) a1 x2) (b + 124) a1 x3)) (w := .int ((ca (ca s (b + 122) a1 x2) (b + 124) a1 x3).1 (b + 121) 1)) fl_X6_43 dX6_takeDue_40 (hB.ob 121 (by decide) rfl) rfl ?_
  refine jg_i2l dX6_takeDue_43 ?_
  refine jg_iload_n dX6_takeDue_44 rfl ?_
  refine jg_i2l dX6_takeDue_45 ?_
  refine jg_ladd dX6_takeDue_46 ?_
  obtain ⟨x4, e_x4, h⟩ := bd_some h
  refine cs_callN (As := [.long ((((ca (ca s (b + 122) a1 x2) (b + 124) a1 x3).1 (b + 121) 1).toInt64) + a2.toInt64)]) kw_X6_59 dX6_takeDue_47 rfl (by decide) (Nat.le_of_ble_eq_true rfl) rfl (by decide) (Nat.le_of_ble_eq_true rfl) (t_X11_capped τ n (ca (ca s (b + 122) a1 x2) (b + 124) a1 x3) ((((ca (ca s (b + 122) a1 x2) (b + 124) a1 x3).1 (b + 121) 1).toInt64) + a2.toInt64) e_x4) ?_
  refine cs_put (s := (ca (ca s (b + 122) a1 x2) (b + 124) a1 x3)) (k := 1) (x := x4) fl_X6_43 dX6_takeDue_50 (hB.ob 121 (by decide) rfl) (ltb rfl) (rfl) rfl rfl ?_
  obtain ⟨x5, e_x5, h⟩ := bd_some h
  refine cs_sub (Option.some.inj e_x5) ?_
  refine jg_aload_n dX6_takeDue_53 rfl ?_
  refine jg_aload_n dX6_takeDue_54 rfl ?_
  refine cs_get (s := x5) (w := .int (x5.1 (b + 121) 0)) fl_X6_39 dX6_takeDue_55 (hB.ob 121 (by decide) rfl) rfl ?_
  refine jg_i2l dX6_takeDue_58 ?_
  refine jg_iload_n dX6_takeDue_59 rfl ?_
  refine jg_i2l dX6_takeDue_60 ?_
  refine jg_ladd dX6_takeDue_61 ?_
  obtain ⟨x6, e_x6, h⟩ := bd_some h
  refine cs_callN (As := [.long (((x5.1 (b + 121) 0).toInt64) + a2.toInt64)]) kw_X6_59 dX6_takeDue_62 rfl (by decide) (Nat.le_of_ble_eq_true rfl) rfl (by decide) (Nat.le_of_ble_eq_true rfl) (t_X11_capped τ n x5 (((x5.1 (b + 121) 0).toInt64) + a2.toInt64) e_x6) ?_
  refine cs_put (s := x5) (k := 0) (x := x6) fl_X6_39 dX6_takeDue_65 (hB.ob 121 (by decide) rfl) (ltb rfl) (rfl) rfl rfl ?_
  obtain rfl := Option.some.inj h
  exact jg_return dX6_takeDue_68 rfl ⟨rfl, rfl⟩
theorem dX2_leave_0 : decode cX2_leave 0 = .ok (.aload_n 0, 1) := by decide +kernel
theorem dX2_leave_1 : decode cX2_leave 1 = .ok (.getfield 18, 3) := by decide +kernel
theorem dX2_leave_4 : decode cX2_leave 4 = .ok (.aload_n 1, 1) := by decide +kernel
theorem dX2_leave_5 : decode cX2_leave 5 = .ok (.getfield 178, 3) := by decide +kernel
theorem dX2_leave_8 : decode cX2_leave 8 = .ok (.aload_n 0, 1) := by decide +kernel
theorem dX2_leave_9 : decode cX2_leave 9 = .ok (.getfield 18, 3) := by decide +kernel
theorem dX2_leave_12 : decode cX2_leave 12 = .ok (.getfield 189, 3) := by decide +kernel
theorem dX2_leave_15 : decode cX2_leave 15 = .ok (.iload_n 2, 1) := by decide +kernel
theorem dX2_leave_16 : decode cX2_leave 16 = .ok (.aload_n 0, 1) := by decide +kernel
theorem dX2_leave_17 : decode cX2_leave 17 = .ok (.getfield 9, 3) := by decide +kernel
theorem dX2_leave_20 : decode cX2_leave 20 = .ok (.iconst 1, 1) := by decide +kernel
theorem dX2_leave_21 : decode cX2_leave 21 = .ok (.invokevirtual 181, 3) := by decide +kernel
theorem dX2_leave_24 : decode cX2_leave 24 = .ok (.ifCond .ne 13, 3) := by decide +kernel
theorem dX2_leave_27 : decode cX2_leave 27 = .ok (.aload_n 1, 1) := by decide +kernel
theorem dX2_leave_28 : decode cX2_leave 28 = .ok (.dup, 1) := by decide +kernel
theorem dX2_leave_29 : decode cX2_leave 29 = .ok (.getfield 192, 3) := by decide +kernel
theorem dX2_leave_32 : decode cX2_leave 32 = .ok (.iconst 1, 1) := by decide +kernel
theorem dX2_leave_33 : decode cX2_leave 33 = .ok (.iadd, 1) := by decide +kernel
theorem dX2_leave_34 : decode cX2_leave 34 = .ok (.putfield 192, 3) := by decide +kernel
theorem dX2_leave_37 : decode cX2_leave 37 = .ok (.aload_n 1, 1) := by decide +kernel
theorem dX2_leave_38 : decode cX2_leave 38 = .ok (.aload_n 0, 1) := by decide +kernel
theorem dX2_leave_39 : decode cX2_leave 39 = .ok (.aload_n 1, 1) := by decide +kernel
theorem dX2_leave_40 : decode cX2_leave 40 = .ok (.getfield 195, 3) := by decide +kernel
theorem dX2_leave_43 : decode cX2_leave 43 = .ok (.aload_n 1, 1) := by decide +kernel
theorem dX2_leave_44 : decode cX2_leave 44 = .ok (.aload_n 0, 1) := by decide +kernel
theorem dX2_leave_45 : decode cX2_leave 45 = .ok (.aload_n 1, 1) := by decide +kernel
theorem dX2_leave_46 : decode cX2_leave 46 = .ok (.invokevirtual 198, 3) := by decide +kernel
theorem dX2_leave_49 : decode cX2_leave 49 = .ok (.invokevirtual 202, 3) := by decide +kernel
theorem dX2_leave_52 : decode cX2_leave 52 = .ok (.putfield 206, 3) := by decide +kernel
theorem dX2_leave_55 : decode cX2_leave 55 = .ok (.aload_n 1, 1) := by decide +kernel
theorem dX2_leave_56 : decode cX2_leave 56 = .ok (.iconst 4, 1) := by decide +kernel
theorem dX2_leave_57 : decode cX2_leave 57 = .ok (.putfield 163, 3) := by decide +kernel
theorem dX2_leave_60 : decode cX2_leave 60 = .ok (.aload_n 1, 1) := by decide +kernel
theorem dX2_leave_61 : decode cX2_leave 61 = .ok (.aload_n 0, 1) := by decide +kernel
theorem dX2_leave_62 : decode cX2_leave 62 = .ok (.getfield 9, 3) := by decide +kernel
theorem dX2_leave_65 : decode cX2_leave 65 = .ok (.putfield 209, 3) := by decide +kernel
theorem dX2_leave_68 : decode cX2_leave 68 = .ok (.aload_n 0, 1) := by decide +kernel
theorem dX2_leave_69 : decode cX2_leave 69 = .ok (.getfield 45, 3) := by decide +kernel
theorem dX2_leave_72 : decode cX2_leave 72 = .ok (.aload_n 1, 1) := by decide +kernel
theorem dX2_leave_73 : decode cX2_leave 73 = .ok (.getfield 171, 3) := by decide +kernel
theorem dX2_leave_76 : decode cX2_leave 76 = .ok (.invokevirtual 212, 3) := by decide +kernel
theorem dX2_leave_79 : decode cX2_leave 79 = .ok (.aload_n 0, 1) := by decide +kernel
theorem dX2_leave_80 : decode cX2_leave 80 = .ok (.getfield 45, 3) := by decide +kernel
theorem dX2_leave_83 : decode cX2_leave 83 = .ok (.iload_n 2, 1) := by decide +kernel
theorem dX2_leave_84 : decode cX2_leave 84 = .ok (.bipush 6, 2) := by decide +kernel
theorem dX2_leave_86 : decode cX2_leave 86 = .ok (.idiv, 1) := by decide +kernel
theorem dX2_leave_87 : decode cX2_leave 87 = .ok (.iconst 1, 1) := by decide +kernel
theorem dX2_leave_88 : decode cX2_leave 88 = .ok (.iadd, 1) := by decide +kernel
theorem dX2_leave_89 : decode cX2_leave 89 = .ok (.invokevirtual 215, 3) := by decide +kernel
theorem dX2_leave_92 : decode cX2_leave 92 = .ok (.aload_n 0, 1) := by decide +kernel
theorem dX2_leave_93 : decode cX2_leave 93 = .ok (.getfield 52, 3) := by decide +kernel
theorem dX2_leave_96 : decode cX2_leave 96 = .ok (.aload_n 1, 1) := by decide +kernel
theorem dX2_leave_97 : decode cX2_leave 97 = .ok (.getfield 218, 3) := by decide +kernel
theorem dX2_leave_100 : decode cX2_leave 100 = .ok (.aload_n 1, 1) := by decide +kernel
theorem dX2_leave_101 : decode cX2_leave 101 = .ok (.getfield 206, 3) := by decide +kernel
theorem dX2_leave_104 : decode cX2_leave 104 = .ok (.invokevirtual 221, 3) := by decide +kernel
theorem dX2_leave_107 : decode cX2_leave 107 = .ok (.return_, 1) := by decide +kernel
noncomputable def o_X2_leave (F : Nat) (τ : cT) (n : Nat) (b : Nat) (a1 : Nat) (s : cS) (a2 : Int32) : Option (cS) := (o_X8_bears F τ n b (b + 2) s (s.1 a1 5) a2 (s.1 b 0) (nI 1)).bind fun x1 => (if x1 = 0 then (((cp s a1 18 ((s.1 a1 18) + (nI 1))).2 a1 8).bind fun x11 => (if acb τ n x11 = true then ((o_X2_stayOf τ n b a1 (cp s a1 18 ((s.1 a1 18) + (nI 1)))).bind fun x13 => ((o_X2_dueBy F τ n b x11 a1 (cp s a1 18 ((s.1 a1 18) + (nI 1))) x13).bind fun x14 => ((some (cp (cp (cp x14.2 a1 15 x14.1) a1 10 (nI 4)) a1 14 ((cp (cp x14.2 a1 15 x14.1) a1 10 (nI 4)).1 b 0))).bind fun x15 => ((o_X5_freeBerth τ n b x15 (x15.1 a1 11)).bind fun x16 => ((o_X5_takePilot F τ n b x16 ((a2 / (nI 6)) + (nI 1))).bind fun x17 => ((o_X6_takeDue τ n b x17 (x17.1 a1 6) (x17.1 a1 15)).bind fun x18 => (some x18))))))) else none)) else ((s.2 a1 8).bind fun x3 => (if acb τ n x3 = true then ((o_X2_stayOf τ n b a1 s).bind fun x5 => ((o_X2_dueBy F τ n b x3 a1 s x5).bind fun x6 => ((some (cp (cp (cp x6.2 a1 15 x6.1) a1 10 (nI 4)) a1 14 ((cp (cp x6.2 a1 15 x6.1) a1 10 (nI 4)).1 b 0))).bind fun x7 => ((o_X5_freeBerth τ n b x7 (x7.1 a1 11)).bind fun x8 => ((o_X5_takePilot F τ n b x8 ((a2 / (nI 6)) + (nI 1))).bind fun x9 => ((o_X6_takeDue τ n b x9 (x9.1 a1 6) (x9.1 a1 15)).bind fun x10 => (some x10))))))) else none)))
set_option maxHeartbeats 4000000 in
theorem t_X2_leave {Γ : jg_G} {g : Nat → jg_C} (F : Nat) (τ : cT) (n : Nat) (b : Nat) (a1 : Nat) (s : cS) (a2 : Int32) (hB : Bd τ n b) (h1 : Ob τ n a1 9) {x : cS} (h : o_X2_leave F τ n b a1 s a2 = some x) : jc Γ mX2_leave 3 0 0 [some (.ref b), some (.ref a1), some (.int a2)] (ct_h g τ s, n) (.inl none) (ct_h g τ x, n) := by
  refine jc_of ?_
  rw [o_X2_leave] at h
  refine jg_aload_n dX2_leave_0 rfl ?_
  refine cs_get (s := s) (w := .ref (b + 1)) fl_X2_18 dX2_leave_1 hB.ob0 rfl ?_
  refine jg_aload_n dX2_leave_4 rfl ?_
  refine cs_get (s := s) (w := .int (s.1 a1 5)) fl_X2_178 dX2_leave_5 h1 rfl ?_
  refine jg_aload_n dX2_leave_8 rfl ?_
  refine cs_get (s := s) (w := .ref (b + 1)) fl_X2_18 dX2_leave_9 hB.ob0 rfl ?_
  refine cs_get (s := s) (w := .ref (b + 2)) fl_X2_189 dX2_leave_12 (hB.ob 1 (by decide) rfl) rfl ?_
  refine jg_iload_n dX2_leave_15 rfl ?_
  refine jg_aload_n dX2_leave_16 rfl ?_
  refine cs_get (s := s) (w := .int (s.1 b 0)) fl_X2_9 dX2_leave_17 hB.ob0 rfl ?_
  refine jg_iconst (v := nI 1) dX2_leave_20 (by decide) ?_
  obtain ⟨x1, e_x1, h⟩ := bd_some h
  refine cs_call (q := (b + 1)) (As := [.int (s.1 a1 5), .ref (b + 2), .int a2, .int (s.1 b 0), .int (nI 1)]) kv_X2_181 dX2_leave_21 (hB.ob 1 (by decide) rfl) rfl rfl (by decide) (Nat.le_of_ble_eq_true rfl) rfl (by decide) (Nat.le_of_ble_eq_true rfl) (t_X8_bears F τ n b (b + 2) s (s.1 a1 5) a2 (s.1 b 0) (nI 1) hB (hB.ar 2 (by decide) rfl) e_x1) ?_
  refine jg_if_ne (x := x1) (tgt := 37) dX2_leave_24 (by decide) (fun c2 => ?_) (fun c2 => ?_)
  · replace h := it_f c2 h
    refine jg_aload_n dX2_leave_37 rfl ?_
    refine jg_aload_n dX2_leave_38 rfl ?_
    refine jg_aload_n dX2_leave_39 rfl ?_
    obtain ⟨x3, e_x3, h⟩ := bd_some h
    obtain ⟨q4, h⟩ := gd_some h
    refine cs_get (s := s) (w := .ref x3) fl_X2_195 dX2_leave_40 h1 (by show some (vr (s.2 a1 8)) = _; rw [e_x3]; rfl) ?_
    refine jg_aload_n dX2_leave_43 rfl ?_
    refine jg_aload_n dX2_leave_44 rfl ?_
    refine jg_aload_n dX2_leave_45 rfl ?_
    obtain ⟨x5, e_x5, h⟩ := bd_some h
    refine cs_call (q := b) (As := [.ref a1]) kv_X2_198 dX2_leave_46 hB.ob0 rfl rfl (by decide) (Nat.le_of_ble_eq_true rfl) rfl (by decide) (Nat.le_of_ble_eq_true rfl) (t_X2_stayOf τ n b a1 s hB h1 e_x5) ?_
    obtain ⟨x6, e_x6, h⟩ := bd_some h
    refine cs_call (q := b) (As := [.ref x3, .ref a1, .int x5]) kv_X2_202 dX2_leave_49 hB.ob0 rfl rfl (by decide) (Nat.le_of_ble_eq_true rfl) rfl (by decide) (Nat.le_of_ble_eq_true rfl) (t_X2_dueBy F τ n b x3 a1 s x5 hB q4 h1 e_x6) ?_
    refine cs_put (s := x6.2) (k := 15) (x := x6.1) fl_X2_206 dX2_leave_52 h1 (ltb rfl) (rfl) rfl rfl ?_
    refine jg_aload_n dX2_leave_55 rfl ?_
    refine jg_iconst (v := nI 4) dX2_leave_56 (by decide) ?_
    refine cs_put (s := (cp x6.2 a1 15 x6.1)) (k := 10) (x := (nI 4)) fl_X2_163 dX2_leave_57 h1 (ltb rfl) (rfl) rfl rfl ?_
    refine jg_aload_n dX2_leave_60 rfl ?_
    refine jg_aload_n dX2_leave_61 rfl ?_
    refine cs_get (s := (cp (cp x6.2 a1 15 x6.1) a1 10 (nI 4))) (w := .int ((cp (cp x6.2 a1 15 x6.1) a1 10 (nI 4)).1 b 0)) fl_X2_9 dX2_leave_62 hB.ob0 rfl ?_
    refine cs_put (s := (cp (cp x6.2 a1 15 x6.1) a1 10 (nI 4))) (k := 14) (x := ((cp (cp x6.2 a1 15 x6.1) a1 10 (nI 4)).1 b 0)) fl_X2_209 dX2_leave_65 h1 (ltb rfl) (rfl) rfl rfl ?_
    obtain ⟨x7, e_x7, h⟩ := bd_some h
    refine cs_sub (Option.some.inj e_x7) ?_
    refine jg_aload_n dX2_leave_68 rfl ?_
    refine cs_get (s := x7) (w := .ref (b + 27)) fl_X2_45 dX2_leave_69 hB.ob0 rfl ?_
    refine jg_aload_n dX2_leave_72 rfl ?_
    refine cs_get (s := x7) (w := .int (x7.1 a1 11)) fl_X2_171 dX2_leave_73 h1 rfl ?_
    obtain ⟨x8, e_x8, h⟩ := bd_some h
    refine cs_call (q := (b + 27)) (As := [.int (x7.1 a1 11)]) kv_X2_212 dX2_leave_76 (hB.ob 27 (by decide) rfl) rfl rfl (by decide) (Nat.le_of_ble_eq_true rfl) rfl (by decide) (Nat.le_of_ble_eq_true rfl) (t_X5_freeBerth τ n b x7 (x7.1 a1 11) hB e_x8) ?_
    refine jg_aload_n dX2_leave_79 rfl ?_
    refine cs_get (s := x8) (w := .ref (b + 27)) fl_X2_45 dX2_leave_80 hB.ob0 rfl ?_
    refine jg_iload_n dX2_leave_83 rfl ?_
    refine jg_bipush (v := nI 6) dX2_leave_84 (by decide) ?_
    refine jg_idiv (x := a2) (y := (nI 6)) dX2_leave_86 (by decide) ?_
    refine jg_iconst (v := nI 1) dX2_leave_87 (by decide) ?_
    refine jg_iadd (x := (a2 / (nI 6))) (y := (nI 1)) dX2_leave_88  ?_
    obtain ⟨x9, e_x9, h⟩ := bd_some h
    refine cs_call (q := (b + 27)) (As := [.int ((a2 / (nI 6)) + (nI 1))]) kv_X2_215 dX2_leave_89 (hB.ob 27 (by decide) rfl) rfl rfl (by decide) (Nat.le_of_ble_eq_true rfl) rfl (by decide) (Nat.le_of_ble_eq_true rfl) (t_X5_takePilot F τ n b x8 ((a2 / (nI 6)) + (nI 1)) hB e_x9) ?_
    refine jg_aload_n dX2_leave_92 rfl ?_
    refine cs_get (s := x9) (w := .ref (b + 121)) fl_X2_52 dX2_leave_93 hB.ob0 rfl ?_
    refine jg_aload_n dX2_leave_96 rfl ?_
    refine cs_get (s := x9) (w := .int (x9.1 a1 6)) fl_X2_218 dX2_leave_97 h1 rfl ?_
    refine jg_aload_n dX2_leave_100 rfl ?_
    refine cs_get (s := x9) (w := .int (x9.1 a1 15)) fl_X2_206 dX2_leave_101 h1 rfl ?_
    obtain ⟨x10, e_x10, h⟩ := bd_some h
    refine cs_call (q := (b + 121)) (As := [.int (x9.1 a1 6), .int (x9.1 a1 15)]) kv_X2_221 dX2_leave_104 (hB.ob 121 (by decide) rfl) rfl rfl (by decide) (Nat.le_of_ble_eq_true rfl) rfl (by decide) (Nat.le_of_ble_eq_true rfl) (t_X6_takeDue τ n b x9 (x9.1 a1 6) (x9.1 a1 15) hB e_x10) ?_
    obtain rfl := Option.some.inj h
    exact jg_return dX2_leave_107 rfl ⟨rfl, rfl⟩
  · replace h := it_t c2 h
    refine jg_aload_n dX2_leave_27 rfl ?_
    refine jg_dup dX2_leave_28 rfl ?_
    refine cs_get (s := s) (w := .int (s.1 a1 18)) fl_X2_192 dX2_leave_29 h1 rfl ?_
    refine jg_iconst (v := nI 1) dX2_leave_32 (by decide) ?_
    refine jg_iadd (x := (s.1 a1 18)) (y := (nI 1)) dX2_leave_33  ?_
    refine cs_put (s := s) (k := 18) (x := ((s.1 a1 18) + (nI 1))) fl_X2_192 dX2_leave_34 h1 (ltb rfl) (rfl) rfl rfl ?_
    refine jg_aload_n dX2_leave_37 rfl ?_
    refine jg_aload_n dX2_leave_38 rfl ?_
    refine jg_aload_n dX2_leave_39 rfl ?_
    obtain ⟨x11, e_x11, h⟩ := bd_some h
    obtain ⟨q12, h⟩ := gd_some h
    refine cs_get (s := (cp s a1 18 ((s.1 a1 18) + (nI 1)))) (w := .ref x11) fl_X2_195 dX2_leave_40 h1 (by show some (vr ((cp s a1 18 ((s.1 a1 18) + (nI 1))).2 a1 8)) = _; rw [e_x11]; rfl) ?_
    refine jg_aload_n dX2_leave_43 rfl ?_
    refine jg_aload_n dX2_leave_44 rfl ?_
    refine jg_aload_n dX2_leave_45 rfl ?_
    obtain ⟨x13, e_x13, h⟩ := bd_some h
    refine cs_call (q := b) (As := [.ref a1]) kv_X2_198 dX2_leave_46 hB.ob0 rfl rfl (by decide) (Nat.le_of_ble_eq_true rfl) rfl (by decide) (Nat.le_of_ble_eq_true rfl) (t_X2_stayOf τ n b a1 (cp s a1 18 ((s.1 a1 18) + (nI 1))) hB h1 e_x13) ?_
    obtain ⟨x14, e_x14, h⟩ := bd_some h
    refine cs_call (q := b) (As := [.ref x11, .ref a1, .int x13]) kv_X2_202 dX2_leave_49 hB.ob0 rfl rfl (by decide) (Nat.le_of_ble_eq_true rfl) rfl (by decide) (Nat.le_of_ble_eq_true rfl) (t_X2_dueBy F τ n b x11 a1 (cp s a1 18 ((s.1 a1 18) + (nI 1))) x13 hB q12 h1 e_x14) ?_
    refine cs_put (s := x14.2) (k := 15) (x := x14.1) fl_X2_206 dX2_leave_52 h1 (ltb rfl) (rfl) rfl rfl ?_
    refine jg_aload_n dX2_leave_55 rfl ?_
    refine jg_iconst (v := nI 4) dX2_leave_56 (by decide) ?_
    refine cs_put (s := (cp x14.2 a1 15 x14.1)) (k := 10) (x := (nI 4)) fl_X2_163 dX2_leave_57 h1 (ltb rfl) (rfl) rfl rfl ?_
    refine jg_aload_n dX2_leave_60 rfl ?_
    refine jg_aload_n dX2_leave_61 rfl ?_
    refine cs_get (s := (cp (cp x14.2 a1 15 x14.1) a1 10 (nI 4))) (w := .int ((cp (cp x14.2 a1 15 x14.1) a1 10 (nI 4)).1 b 0)) fl_X2_9 dX2_leave_62 hB.ob0 rfl ?_
    refine cs_put (s := (cp (cp x14.2 a1 15 x14.1) a1 10 (nI 4))) (k := 14) (x := ((cp (cp x14.2 a1 15 x14.1) a1 10 (nI 4)).1 b 0)) fl_X2_209 dX2_leave_65 h1 (ltb rfl) (rfl) rfl rfl ?_
    obtain ⟨x15, e_x15, h⟩ := bd_some h
    refine cs_sub (Option.some.inj e_x15) ?_
    refine jg_aload_n dX2_leave_68 rfl ?_
    refine cs_get (s := x15) (w := .ref (b + 27)) fl_X2_45 dX2_leave_69 hB.ob0 rfl ?_
    refine jg_aload_n dX2_leave_72 rfl ?_
    refine cs_get (s := x15) (w := .int (x15.1 a1 11)) fl_X2_171 dX2_leave_73 h1 rfl ?_
    obtain ⟨x16, e_x16, h⟩ := bd_some h
    refine cs_call (q := (b + 27)) (As := [.int (x15.1 a1 11)]) kv_X2_212 dX2_leave_76 (hB.ob 27 (by decide) rfl) rfl rfl (by decide) (Nat.le_of_ble_eq_true rfl) rfl (by decide) (Nat.le_of_ble_eq_true rfl) (t_X5_freeBerth τ n b x15 (x15.1 a1 11) hB e_x16) ?_
    refine jg_aload_n dX2_leave_79 rfl ?_
    refine cs_get (s := x16) (w := .ref (b + 27)) fl_X2_45 dX2_leave_80 hB.ob0 rfl ?_
    refine jg_iload_n dX2_leave_83 rfl ?_
    refine jg_bipush (v := nI 6) dX2_leave_84 (by decide) ?_
    refine jg_idiv (x := a2) (y := (nI 6)) dX2_leave_86 (by decide) ?_
    refine jg_iconst (v := nI 1) dX2_leave_87 (by decide) ?_
    refine jg_iadd (x := (a2 / (nI 6))) (y := (nI 1)) dX2_leave_88  ?_
    obtain ⟨x17, e_x17, h⟩ := bd_some h
    refine cs_call (q := (b + 27)) (As := [.int ((a2 / (nI 6)) + (nI 1))]) kv_X2_215 dX2_leave_89 (hB.ob 27 (by decide) rfl) rfl rfl (by decide) (Nat.le_of_ble_eq_true rfl) rfl (by decide) (Nat.le_of_ble_eq_true rfl) (t_X5_takePilot F τ n b x16 ((a2 / (nI 6)) + (nI 1)) hB e_x17) ?_
    refine jg_aload_n dX2_leave_92 rfl ?_
    refine cs_get (s := x17) (w := .ref (b + 121)) fl_X2_52 dX2_leave_93 hB.ob0 rfl ?_
    refine jg_aload_n dX2_leave_96 rfl ?_
    refine cs_get (s := x17) (w := .int (x17.1 a1 6)) fl_X2_218 dX2_leave_97 h1 rfl ?_
    refine jg_aload_n dX2_leave_100 rfl ?_
    refine cs_get (s := x17) (w := .int (x17.1 a1 15)) fl_X2_206 dX2_leave_101 h1 rfl ?_
    obtain ⟨x18, e_x18, h⟩ := bd_some h
    refine cs_call (q := (b + 121)) (As := [.int (x17.1 a1 6), .int (x17.1 a1 15)]) kv_X2_221 dX2_leave_104 (hB.ob 121 (by decide) rfl) rfl rfl (by decide) (Nat.le_of_ble_eq_true rfl) rfl (by decide) (Nat.le_of_ble_eq_true rfl) (t_X6_takeDue τ n b x17 (x17.1 a1 6) (x17.1 a1 15) hB e_x18) ?_
    obtain rfl := Option.some.inj h
    exact jg_return dX2_leave_107 rfl ⟨rfl, rfl⟩
theorem dX2_shipsLeave_0 : decode cX2_shipsLeave 0 = .ok (.aload_n 0, 1) := by decide +kernel
theorem dX2_shipsLeave_1 : decode cX2_shipsLeave 1 = .ok (.invokevirtual 153, 3) := by decide +kernel
theorem dX2_shipsLeave_4 : decode cX2_shipsLeave 4 = .ok (.iconst 0, 1) := by decide +kernel
theorem dX2_shipsLeave_5 : decode cX2_shipsLeave 5 = .ok (.istore_n 2, 1) := by decide +kernel
theorem dX2_shipsLeave_6 : decode cX2_shipsLeave 6 = .ok (.iload_n 2, 1) := by decide +kernel
theorem dX2_shipsLeave_7 : decode cX2_shipsLeave 7 = .ok (.aload_n 0, 1) := by decide +kernel
theorem dX2_shipsLeave_8 : decode cX2_shipsLeave 8 = .ok (.getfield 45, 3) := by decide +kernel
theorem dX2_shipsLeave_11 : decode cX2_shipsLeave 11 = .ok (.getfield 156, 3) := by decide +kernel
theorem dX2_shipsLeave_14 : decode cX2_shipsLeave 14 = .ok (.if_icmp .ge 84, 3) := by decide +kernel
theorem dX2_shipsLeave_17 : decode cX2_shipsLeave 17 = .ok (.aload_n 0, 1) := by decide +kernel
theorem dX2_shipsLeave_18 : decode cX2_shipsLeave 18 = .ok (.getfield 45, 3) := by decide +kernel
theorem dX2_shipsLeave_21 : decode cX2_shipsLeave 21 = .ok (.getfield 159, 3) := by decide +kernel
theorem dX2_shipsLeave_24 : decode cX2_shipsLeave 24 = .ok (.iload_n 2, 1) := by decide +kernel
theorem dX2_shipsLeave_25 : decode cX2_shipsLeave 25 = .ok (.aaload, 1) := by decide +kernel
theorem dX2_shipsLeave_26 : decode cX2_shipsLeave 26 = .ok (.astore_n 3, 1) := by decide +kernel
theorem dX2_shipsLeave_27 : decode cX2_shipsLeave 27 = .ok (.aload_n 3, 1) := by decide +kernel
theorem dX2_shipsLeave_28 : decode cX2_shipsLeave 28 = .ok (.getfield 163, 3) := by decide +kernel
theorem dX2_shipsLeave_31 : decode cX2_shipsLeave 31 = .ok (.iconst 3, 1) := by decide +kernel
theorem dX2_shipsLeave_32 : decode cX2_shipsLeave 32 = .ok (.if_icmp .ne 60, 3) := by decide +kernel
theorem dX2_shipsLeave_35 : decode cX2_shipsLeave 35 = .ok (.aload_n 0, 1) := by decide +kernel
theorem dX2_shipsLeave_36 : decode cX2_shipsLeave 36 = .ok (.getfield 45, 3) := by decide +kernel
theorem dX2_shipsLeave_39 : decode cX2_shipsLeave 39 = .ok (.invokevirtual 168, 3) := by decide +kernel
theorem dX2_shipsLeave_42 : decode cX2_shipsLeave 42 = .ok (.ifCond .le 50, 3) := by decide +kernel
theorem dX2_shipsLeave_45 : decode cX2_shipsLeave 45 = .ok (.aload_n 0, 1) := by decide +kernel
theorem dX2_shipsLeave_46 : decode cX2_shipsLeave 46 = .ok (.getfield 45, 3) := by decide +kernel
theorem dX2_shipsLeave_49 : decode cX2_shipsLeave 49 = .ok (.aload_n 3, 1) := by decide +kernel
theorem dX2_shipsLeave_50 : decode cX2_shipsLeave 50 = .ok (.getfield 171, 3) := by decide +kernel
theorem dX2_shipsLeave_53 : decode cX2_shipsLeave 53 = .ok (.invokevirtual 174, 3) := by decide +kernel
theorem dX2_shipsLeave_56 : decode cX2_shipsLeave 56 = .ok (.istore 4, 2) := by decide +kernel
theorem dX2_shipsLeave_58 : decode cX2_shipsLeave 58 = .ok (.aload_n 0, 1) := by decide +kernel
theorem dX2_shipsLeave_59 : decode cX2_shipsLeave 59 = .ok (.getfield 18, 3) := by decide +kernel
theorem dX2_shipsLeave_62 : decode cX2_shipsLeave 62 = .ok (.aload_n 3, 1) := by decide +kernel
theorem dX2_shipsLeave_63 : decode cX2_shipsLeave 63 = .ok (.getfield 178, 3) := by decide +kernel
theorem dX2_shipsLeave_66 : decode cX2_shipsLeave 66 = .ok (.iload_n 1, 1) := by decide +kernel
theorem dX2_shipsLeave_67 : decode cX2_shipsLeave 67 = .ok (.iadd, 1) := by decide +kernel
theorem dX2_shipsLeave_68 : decode cX2_shipsLeave 68 = .ok (.aload_n 0, 1) := by decide +kernel
theorem dX2_shipsLeave_69 : decode cX2_shipsLeave 69 = .ok (.getfield 67, 3) := by decide +kernel
theorem dX2_shipsLeave_72 : decode cX2_shipsLeave 72 = .ok (.iload 4, 2) := by decide +kernel
theorem dX2_shipsLeave_74 : decode cX2_shipsLeave 74 = .ok (.aload_n 0, 1) := by decide +kernel
theorem dX2_shipsLeave_75 : decode cX2_shipsLeave 75 = .ok (.getfield 9, 3) := by decide +kernel
theorem dX2_shipsLeave_78 : decode cX2_shipsLeave 78 = .ok (.iconst 1, 1) := by decide +kernel
theorem dX2_shipsLeave_79 : decode cX2_shipsLeave 79 = .ok (.invokevirtual 181, 3) := by decide +kernel
theorem dX2_shipsLeave_82 : decode cX2_shipsLeave 82 = .ok (.ifCond .eq 10, 3) := by decide +kernel
theorem dX2_shipsLeave_85 : decode cX2_shipsLeave 85 = .ok (.aload_n 0, 1) := by decide +kernel
theorem dX2_shipsLeave_86 : decode cX2_shipsLeave 86 = .ok (.aload_n 3, 1) := by decide +kernel
theorem dX2_shipsLeave_87 : decode cX2_shipsLeave 87 = .ok (.iload 4, 2) := by decide +kernel
theorem dX2_shipsLeave_89 : decode cX2_shipsLeave 89 = .ok (.invokevirtual 185, 3) := by decide +kernel
theorem dX2_shipsLeave_92 : decode cX2_shipsLeave 92 = .ok (.iinc 2 1, 3) := by decide +kernel
theorem dX2_shipsLeave_95 : decode cX2_shipsLeave 95 = .ok (.goto (-89), 3) := by decide +kernel
theorem dX2_shipsLeave_98 : decode cX2_shipsLeave 98 = .ok (.return_, 1) := by decide +kernel
noncomputable def o_X2_shipsLeave_6 (F : Nat) (τ : cT) (n : Nat) (b : Nat) (l1 : Int32)  : Nat → Int32 → cS → Option (cS)
  | 0, _, _ => none
  | f + 1, l2, s => if (s.1 (b + 27) 3) ≤ l2 then (some s) else (if iL l2 80 then (if (s.1 (b + 39 + 1 + l2.toNatClampNeg) 10) = (nI 3) then ((o_X5_freePilots τ n b s).bind fun x5 => (if x5 ≤ 0 then (o_X2_shipsLeave_6 F τ n b l1 f (l2 + nI 1) s) else ((o_X5_cellOf τ n b s (s.1 (b + 39 + 1 + l2.toNatClampNeg) 11)).bind fun x7 => ((o_X8_bears F τ n b (b + 168) s ((s.1 (b + 39 + 1 + l2.toNatClampNeg) 5) + l1) x7 (s.1 b 0) (nI 1)).bind fun x8 => (if x8 = 0 then (o_X2_shipsLeave_6 F τ n b l1 f (l2 + nI 1) s) else ((o_X2_leave F τ n b (b + 39 + 1 + l2.toNatClampNeg) s x7).bind fun x10 => (o_X2_shipsLeave_6 F τ n b l1 f (l2 + nI 1) x10))))))) else (o_X2_shipsLeave_6 F τ n b l1 f (l2 + nI 1) s)) else none)
set_option maxHeartbeats 4000000 in
theorem t_X2_shipsLeave_6 {Γ : jg_G} {g : Nat → jg_C} (F : Nat) (τ : cT) (n : Nat) (b : Nat) (l1 : Int32)  (hB : Bd τ n b) (Q : jg_Q) {x : cS} (K1 : jg Γ mX2_shipsLeave 4 0 0 98 [none, none, none, none, none] [] (ct_h g τ x, n) Q)  : ∀ (f : Nat) (l2 : Int32) (s : cS), o_X2_shipsLeave_6 F τ n b l1 f l2 s = some x → jg Γ mX2_shipsLeave 4 0 0 6 [some (.ref b), some (.int l1), some (.int l2), none, none] [] (ct_h g τ s, n) Q := by
  intro f
  induction f with
  | zero => intro l2 s h; rw [o_X2_shipsLeave_6] at h; cases h
  | succ f ih =>
   intro l2 s h
   rw [o_X2_shipsLeave_6] at h
   refine jg_iload_n dX2_shipsLeave_6 rfl ?_
   refine jg_aload_n dX2_shipsLeave_7 rfl ?_
   refine cs_get (s := s) (w := .ref (b + 27)) fl_X2_45 dX2_shipsLeave_8 hB.ob0 rfl ?_
   refine cs_get (s := s) (w := .int (s.1 (b + 27) 3)) fl_X2_156 dX2_shipsLeave_11 (hB.ob 27 (by decide) rfl) rfl ?_
   refine jg_icmp_ge (x := l2) (y := (s.1 (b + 27) 3)) (tgt := 98) dX2_shipsLeave_14 (by decide) (fun c2 => ?_) (fun c2 => ?_)
   · replace h := it_t c2 h
     refine jg_fg (L' := [none, none, none, none, none]) (by repeat (first | exact trivial | refine ⟨rfl, ?_⟩ | show jg_le _ _)) ?_
     obtain rfl := Option.some.inj h
     exact K1
   · replace h := it_f c2 h
     refine jg_aload_n dX2_shipsLeave_17 rfl ?_
     refine cs_get (s := s) (w := .ref (b + 27)) fl_X2_45 dX2_shipsLeave_18 hB.ob0 rfl ?_
     refine cs_get (s := s) (w := .ref (b + 39)) fl_X2_159 dX2_shipsLeave_21 (hB.ob 27 (by decide) rfl) rfl ?_
     refine jg_iload_n dX2_shipsLeave_24 rfl ?_
     obtain ⟨q3, h⟩ := gd_some h
     refine cs_ldr (s := s) (q := (b + 39)) (i := l2) (kd := 6) (by decide) dX2_shipsLeave_25 (hB.ar 39 (by decide) rfl) q3 ?_
     refine jg_astore_n (L' := [some (.ref b), some (.int l1), some (.int l2), some (.ref (b + 39 + 1 + l2.toNatClampNeg)), none]) dX2_shipsLeave_26 (by decide) rfl ?_
     refine jg_aload_n dX2_shipsLeave_27 rfl ?_
     refine cs_get (s := s) (w := .int (s.1 (b + 39 + 1 + l2.toNatClampNeg) 10)) fl_X2_163 dX2_shipsLeave_28 (hB.ship q3.2) rfl ?_
     refine jg_iconst (v := nI 3) dX2_shipsLeave_31 (by decide) ?_
     refine jg_icmp_ne (x := (s.1 (b + 39 + 1 + l2.toNatClampNeg) 10)) (y := (nI 3)) (tgt := 92) dX2_shipsLeave_32 (by decide) (fun c4 => ?_) (fun c4 => ?_)
     · replace h := it_f c4 h
       refine jg_iinc (x := l2) (v := l2 + nI 1) (L' := [some (.ref b), some (.int l1), some (.int (l2 + nI 1)), some (.ref (b + 39 + 1 + l2.toNatClampNeg)), none]) dX2_shipsLeave_92 rfl (ic_k _ (by decide)) (by decide) rfl ?_
       refine jg_goto (tgt := 6) dX2_shipsLeave_95 (by decide) ?_
       refine jg_fg (L' := [some (.ref b), some (.int l1), some (.int (l2 + nI 1)), none, none]) (by repeat (first | exact trivial | refine ⟨rfl, ?_⟩ | show jg_le _ _)) ?_
       exact ih (l2 + nI 1) s h
     · replace h := it_t c4 h
       refine jg_aload_n dX2_shipsLeave_35 rfl ?_
       refine cs_get (s := s) (w := .ref (b + 27)) fl_X2_45 dX2_shipsLeave_36 hB.ob0 rfl ?_
       obtain ⟨x5, e_x5, h⟩ := bd_some h
       refine cs_call (q := (b + 27)) (As := []) kv_X2_168 dX2_shipsLeave_39 (hB.ob 27 (by decide) rfl) rfl rfl (by decide) (Nat.le_of_ble_eq_true rfl) rfl (by decide) (Nat.le_of_ble_eq_true rfl) (t_X5_freePilots τ n b s hB e_x5) ?_
       refine jg_if_le (x := x5) (tgt := 92) dX2_shipsLeave_42 (by decide) (fun c6 => ?_) (fun c6 => ?_)
       · replace h := it_t c6 h
         refine jg_iinc (x := l2) (v := l2 + nI 1) (L' := [some (.ref b), some (.int l1), some (.int (l2 + nI 1)), some (.ref (b + 39 + 1 + l2.toNatClampNeg)), none]) dX2_shipsLeave_92 rfl (ic_k _ (by decide)) (by decide) rfl ?_
         refine jg_goto (tgt := 6) dX2_shipsLeave_95 (by decide) ?_
         refine jg_fg (L' := [some (.ref b), some (.int l1), some (.int (l2 + nI 1)), none, none]) (by repeat (first | exact trivial | refine ⟨rfl, ?_⟩ | show jg_le _ _)) ?_
         exact ih (l2 + nI 1) s h
       · replace h := it_f c6 h
         refine jg_aload_n dX2_shipsLeave_45 rfl ?_
         refine cs_get (s := s) (w := .ref (b + 27)) fl_X2_45 dX2_shipsLeave_46 hB.ob0 rfl ?_
         refine jg_aload_n dX2_shipsLeave_49 rfl ?_
         refine cs_get (s := s) (w := .int (s.1 (b + 39 + 1 + l2.toNatClampNeg) 11)) fl_X2_171 dX2_shipsLeave_50 (hB.ship q3.2) rfl ?_
         obtain ⟨x7, e_x7, h⟩ := bd_some h
         refine cs_call (q := (b + 27)) (As := [.int (s.1 (b + 39 + 1 + l2.toNatClampNeg) 11)]) kv_X2_174 dX2_shipsLeave_53 (hB.ob 27 (by decide) rfl) rfl rfl (by decide) (Nat.le_of_ble_eq_true rfl) rfl (by decide) (Nat.le_of_ble_eq_true rfl) (t_X5_cellOf τ n b s (s.1 (b + 39 + 1 + l2.toNatClampNeg) 11) hB e_x7) ?_
         refine jg_istore (L' := [some (.ref b), some (.int l1), some (.int l2), some (.ref (b + 39 + 1 + l2.toNatClampNeg)), some (.int x7)]) dX2_shipsLeave_56 (by decide) rfl ?_
         refine jg_aload_n dX2_shipsLeave_58 rfl ?_
         refine cs_get (s := s) (w := .ref (b + 1)) fl_X2_18 dX2_shipsLeave_59 hB.ob0 rfl ?_
         refine jg_aload_n dX2_shipsLeave_62 rfl ?_
         refine cs_get (s := s) (w := .int (s.1 (b + 39 + 1 + l2.toNatClampNeg) 5)) fl_X2_178 dX2_shipsLeave_63 (hB.ship q3.2) rfl ?_
         refine jg_iload_n dX2_shipsLeave_66 rfl ?_
         refine jg_iadd (x := (s.1 (b + 39 + 1 + l2.toNatClampNeg) 5)) (y := l1) dX2_shipsLeave_67  ?_
         refine jg_aload_n dX2_shipsLeave_68 rfl ?_
         refine cs_get (s := s) (w := .ref (b + 168)) fl_X2_67 dX2_shipsLeave_69 hB.ob0 rfl ?_
         refine jg_iload dX2_shipsLeave_72 rfl ?_
         refine jg_aload_n dX2_shipsLeave_74 rfl ?_
         refine cs_get (s := s) (w := .int (s.1 b 0)) fl_X2_9 dX2_shipsLeave_75 hB.ob0 rfl ?_
         refine jg_iconst (v := nI 1) dX2_shipsLeave_78 (by decide) ?_
         obtain ⟨x8, e_x8, h⟩ := bd_some h
         refine cs_call (q := (b + 1)) (As := [.int ((s.1 (b + 39 + 1 + l2.toNatClampNeg) 5) + l1), .ref (b + 168), .int x7, .int (s.1 b 0), .int (nI 1)]) kv_X2_181 dX2_shipsLeave_79 (hB.ob 1 (by decide) rfl) rfl rfl (by decide) (Nat.le_of_ble_eq_true rfl) rfl (by decide) (Nat.le_of_ble_eq_true rfl) (t_X8_bears F τ n b (b + 168) s ((s.1 (b + 39 + 1 + l2.toNatClampNeg) 5) + l1) x7 (s.1 b 0) (nI 1) hB (hB.ar 168 (by decide) rfl) e_x8) ?_
         refine jg_if_eq (x := x8) (tgt := 92) dX2_shipsLeave_82 (by decide) (fun c9 => ?_) (fun c9 => ?_)
         · replace h := it_t c9 h
           refine jg_iinc (x := l2) (v := l2 + nI 1) (L' := [some (.ref b), some (.int l1), some (.int (l2 + nI 1)), some (.ref (b + 39 + 1 + l2.toNatClampNeg)), some (.int x7)]) dX2_shipsLeave_92 rfl (ic_k _ (by decide)) (by decide) rfl ?_
           refine jg_goto (tgt := 6) dX2_shipsLeave_95 (by decide) ?_
           refine jg_fg (L' := [some (.ref b), some (.int l1), some (.int (l2 + nI 1)), none, none]) (by repeat (first | exact trivial | refine ⟨rfl, ?_⟩ | show jg_le _ _)) ?_
           exact ih (l2 + nI 1) s h
         · replace h := it_f c9 h
           refine jg_aload_n dX2_shipsLeave_85 rfl ?_
           refine jg_aload_n dX2_shipsLeave_86 rfl ?_
           refine jg_iload dX2_shipsLeave_87 rfl ?_
           obtain ⟨x10, e_x10, h⟩ := bd_some h
           refine cs_call (q := b) (As := [.ref (b + 39 + 1 + l2.toNatClampNeg), .int x7]) kv_X2_185 dX2_shipsLeave_89 hB.ob0 rfl rfl (by decide) (Nat.le_of_ble_eq_true rfl) rfl (by decide) (Nat.le_of_ble_eq_true rfl) (t_X2_leave F τ n b (b + 39 + 1 + l2.toNatClampNeg) s x7 hB (hB.ship q3.2) e_x10) ?_
           refine jg_iinc (x := l2) (v := l2 + nI 1) (L' := [some (.ref b), some (.int l1), some (.int (l2 + nI 1)), some (.ref (b + 39 + 1 + l2.toNatClampNeg)), some (.int x7)]) dX2_shipsLeave_92 rfl (ic_k _ (by decide)) (by decide) rfl ?_
           refine jg_goto (tgt := 6) dX2_shipsLeave_95 (by decide) ?_
           refine jg_fg (L' := [some (.ref b), some (.int l1), some (.int (l2 + nI 1)), none, none]) (by repeat (first | exact trivial | refine ⟨rfl, ?_⟩ | show jg_le _ _)) ?_
           exact ih (l2 + nI 1) x10 h
noncomputable def o_X2_shipsLeave (F : Nat) (τ : cT) (n : Nat) (b : Nat) (s : cS) (a1 : Int32) : Option (cS) := (o_X2_fillDepths F τ n b s).bind fun x1 => ((o_X2_shipsLeave_6 F τ n b a1 F (nI 0) x1).bind fun x11 => (some x11))
set_option maxHeartbeats 4000000 in
theorem t_X2_shipsLeave {Γ : jg_G} {g : Nat → jg_C} (F : Nat) (τ : cT) (n : Nat) (b : Nat) (s : cS) (a1 : Int32) (hB : Bd τ n b) {x : cS} (h : o_X2_shipsLeave F τ n b s a1 = some x) : jc Γ mX2_shipsLeave 4 0 0 [some (.ref b), some (.int a1), none, none, none] (ct_h g τ s, n) (.inl none) (ct_h g τ x, n) := by
  refine jc_of ?_
  rw [o_X2_shipsLeave] at h
  refine jg_aload_n dX2_shipsLeave_0 rfl ?_
  obtain ⟨x1, e_x1, h⟩ := bd_some h
  refine cs_call (q := b) (As := []) kv_X2_153 dX2_shipsLeave_1 hB.ob0 rfl rfl (by decide) (Nat.le_of_ble_eq_true rfl) rfl (by decide) (Nat.le_of_ble_eq_true rfl) (t_X2_fillDepths F τ n b s hB e_x1) ?_
  refine jg_iconst (v := nI 0) dX2_shipsLeave_4 (by decide) ?_
  refine jg_istore_n (L' := [some (.ref b), some (.int a1), some (.int (nI 0)), none, none]) dX2_shipsLeave_5 (by decide) rfl ?_
  obtain ⟨x11, e_x11, h⟩ := bd_some h
  refine jg_fg (L' := [some (.ref b), some (.int a1), some (.int (nI 0)), none, none]) (by repeat (first | exact trivial | refine ⟨rfl, ?_⟩ | show jg_le _ _)) ?_
  refine t_X2_shipsLeave_6  F τ n b a1 hB _ (x := x11) ?_ F (nI 0) x1 e_x11
  obtain rfl := Option.some.inj h
  exact jg_return dX2_shipsLeave_98 rfl ⟨rfl, rfl⟩
theorem dX2_deepestWayIn_0 : decode cX2_deepestWayIn 0 = .ok (.aload_n 0, 1) := by decide +kernel
theorem dX2_deepestWayIn_1 : decode cX2_deepestWayIn 1 = .ok (.invokevirtual 153, 3) := by decide +kernel
theorem dX2_deepestWayIn_4 : decode cX2_deepestWayIn 4 = .ok (.aload_n 0, 1) := by decide +kernel
theorem dX2_deepestWayIn_5 : decode cX2_deepestWayIn 5 = .ok (.getfield 18, 3) := by decide +kernel
theorem dX2_deepestWayIn_8 : decode cX2_deepestWayIn 8 = .ok (.aload_n 0, 1) := by decide +kernel
theorem dX2_deepestWayIn_9 : decode cX2_deepestWayIn 9 = .ok (.getfield 70, 3) := by decide +kernel
theorem dX2_deepestWayIn_12 : decode cX2_deepestWayIn 12 = .ok (.aload_n 0, 1) := by decide +kernel
theorem dX2_deepestWayIn_13 : decode cX2_deepestWayIn 13 = .ok (.getfield 67, 3) := by decide +kernel
theorem dX2_deepestWayIn_16 : decode cX2_deepestWayIn 16 = .ok (.aload_n 0, 1) := by decide +kernel
theorem dX2_deepestWayIn_17 : decode cX2_deepestWayIn 17 = .ok (.getfield 9, 3) := by decide +kernel
theorem dX2_deepestWayIn_20 : decode cX2_deepestWayIn 20 = .ok (.invokevirtual 238, 3) := by decide +kernel
theorem dX2_deepestWayIn_23 : decode cX2_deepestWayIn 23 = .ok (.sipush (-1000), 3) := by decide +kernel
theorem dX2_deepestWayIn_26 : decode cX2_deepestWayIn 26 = .ok (.istore_n 1, 1) := by decide +kernel
theorem dX2_deepestWayIn_27 : decode cX2_deepestWayIn 27 = .ok (.iconst 0, 1) := by decide +kernel
theorem dX2_deepestWayIn_28 : decode cX2_deepestWayIn 28 = .ok (.istore_n 2, 1) := by decide +kernel
theorem dX2_deepestWayIn_29 : decode cX2_deepestWayIn 29 = .ok (.iload_n 2, 1) := by decide +kernel
theorem dX2_deepestWayIn_30 : decode cX2_deepestWayIn 30 = .ok (.aload_n 0, 1) := by decide +kernel
theorem dX2_deepestWayIn_31 : decode cX2_deepestWayIn 31 = .ok (.getfield 45, 3) := by decide +kernel
theorem dX2_deepestWayIn_34 : decode cX2_deepestWayIn 34 = .ok (.getfield 244, 3) := by decide +kernel
theorem dX2_deepestWayIn_37 : decode cX2_deepestWayIn 37 = .ok (.if_icmp .ge 74, 3) := by decide +kernel
theorem dX2_deepestWayIn_40 : decode cX2_deepestWayIn 40 = .ok (.aload_n 0, 1) := by decide +kernel
theorem dX2_deepestWayIn_41 : decode cX2_deepestWayIn 41 = .ok (.getfield 45, 3) := by decide +kernel
theorem dX2_deepestWayIn_44 : decode cX2_deepestWayIn 44 = .ok (.getfield 247, 3) := by decide +kernel
theorem dX2_deepestWayIn_47 : decode cX2_deepestWayIn 47 = .ok (.iload_n 2, 1) := by decide +kernel
theorem dX2_deepestWayIn_48 : decode cX2_deepestWayIn 48 = .ok (.aaload, 1) := by decide +kernel
theorem dX2_deepestWayIn_49 : decode cX2_deepestWayIn 49 = .ok (.astore_n 3, 1) := by decide +kernel
theorem dX2_deepestWayIn_50 : decode cX2_deepestWayIn 50 = .ok (.aload_n 3, 1) := by decide +kernel
theorem dX2_deepestWayIn_51 : decode cX2_deepestWayIn 51 = .ok (.getfield 251, 3) := by decide +kernel
theorem dX2_deepestWayIn_54 : decode cX2_deepestWayIn 54 = .ok (.iconst (-1), 1) := by decide +kernel
theorem dX2_deepestWayIn_55 : decode cX2_deepestWayIn 55 = .ok (.if_icmp .ne 14, 3) := by decide +kernel
theorem dX2_deepestWayIn_58 : decode cX2_deepestWayIn 58 = .ok (.aload_n 3, 1) := by decide +kernel
theorem dX2_deepestWayIn_59 : decode cX2_deepestWayIn 59 = .ok (.invokevirtual 254, 3) := by decide +kernel
theorem dX2_deepestWayIn_62 : decode cX2_deepestWayIn 62 = .ok (.ifCond .ne 7, 3) := by decide +kernel
theorem dX2_deepestWayIn_65 : decode cX2_deepestWayIn 65 = .ok (.iconst 1, 1) := by decide +kernel
theorem dX2_deepestWayIn_66 : decode cX2_deepestWayIn 66 = .ok (.goto 4, 3) := by decide +kernel
theorem dX2_deepestWayIn_69 : decode cX2_deepestWayIn 69 = .ok (.iconst 0, 1) := by decide +kernel
theorem dX2_deepestWayIn_70 : decode cX2_deepestWayIn 70 = .ok (.istore 4, 2) := by decide +kernel
theorem dX2_deepestWayIn_72 : decode cX2_deepestWayIn 72 = .ok (.aload_n 3, 1) := by decide +kernel
theorem dX2_deepestWayIn_73 : decode cX2_deepestWayIn 73 = .ok (.iload 4, 2) := by decide +kernel
theorem dX2_deepestWayIn_75 : decode cX2_deepestWayIn 75 = .ok (.ifCond .eq 15, 3) := by decide +kernel
theorem dX2_deepestWayIn_78 : decode cX2_deepestWayIn 78 = .ok (.aload_n 0, 1) := by decide +kernel
theorem dX2_deepestWayIn_79 : decode cX2_deepestWayIn 79 = .ok (.getfield 70, 3) := by decide +kernel
theorem dX2_deepestWayIn_82 : decode cX2_deepestWayIn 82 = .ok (.aload_n 3, 1) := by decide +kernel
theorem dX2_deepestWayIn_83 : decode cX2_deepestWayIn 83 = .ok (.getfield 258, 3) := by decide +kernel
theorem dX2_deepestWayIn_86 : decode cX2_deepestWayIn 86 = .ok (.iaload, 1) := by decide +kernel
theorem dX2_deepestWayIn_87 : decode cX2_deepestWayIn 87 = .ok (.goto 6, 3) := by decide +kernel
theorem dX2_deepestWayIn_90 : decode cX2_deepestWayIn 90 = .ok (.sipush (-1000), 3) := by decide +kernel
theorem dX2_deepestWayIn_93 : decode cX2_deepestWayIn 93 = .ok (.putfield 261, 3) := by decide +kernel
theorem dX2_deepestWayIn_96 : decode cX2_deepestWayIn 96 = .ok (.iload_n 1, 1) := by decide +kernel
theorem dX2_deepestWayIn_97 : decode cX2_deepestWayIn 97 = .ok (.aload_n 3, 1) := by decide +kernel
theorem dX2_deepestWayIn_98 : decode cX2_deepestWayIn 98 = .ok (.getfield 261, 3) := by decide +kernel
theorem dX2_deepestWayIn_101 : decode cX2_deepestWayIn 101 = .ok (.invokestatic 264, 3) := by decide +kernel
theorem dX2_deepestWayIn_104 : decode cX2_deepestWayIn 104 = .ok (.istore_n 1, 1) := by decide +kernel
theorem dX2_deepestWayIn_105 : decode cX2_deepestWayIn 105 = .ok (.iinc 2 1, 3) := by decide +kernel
theorem dX2_deepestWayIn_108 : decode cX2_deepestWayIn 108 = .ok (.goto (-79), 3) := by decide +kernel
theorem dX2_deepestWayIn_111 : decode cX2_deepestWayIn 111 = .ok (.iload_n 1, 1) := by decide +kernel
theorem dX2_deepestWayIn_112 : decode cX2_deepestWayIn 112 = .ok (.ireturn, 1) := by decide +kernel
noncomputable def o_X2_deepestWayIn_29 (F : Nat) (τ : cT) (n : Nat) (b : Nat)  : Nat → Int32 → Int32 → cS → Option (Int32 × cS)
  | 0, _, _, _ => none
  | f + 1, l1, l2, s => if (s.1 (b + 27) 1) ≤ l2 then (some (l1, s)) else (if iL l2 10 then (if (s.1 (b + 28 + 1 + l2.toNatClampNeg) 7) = (-1) then ((o_X1_isClosed τ n (b + 28 + 1 + l2.toNatClampNeg) s).bind fun x6 => (if x6 = 0 then (if iL (s.1 (b + 28 + 1 + l2.toNatClampNeg) 0) 24 then ((some (cp s (b + 28 + 1 + l2.toNatClampNeg) 8 (cg s (b + 169) (s.1 (b + 28 + 1 + l2.toNatClampNeg) 0)))).bind fun x9 => (o_X2_deepestWayIn_29 F τ n b f (mxi l1 (x9.1 (b + 28 + 1 + l2.toNatClampNeg) 8)) (l2 + nI 1) x9)) else none) else (o_X2_deepestWayIn_29 F τ n b f (mxi l1 ((cp s (b + 28 + 1 + l2.toNatClampNeg) 8 (-1000)).1 (b + 28 + 1 + l2.toNatClampNeg) 8)) (l2 + nI 1) (cp s (b + 28 + 1 + l2.toNatClampNeg) 8 (-1000))))) else (o_X2_deepestWayIn_29 F τ n b f (mxi l1 ((cp s (b + 28 + 1 + l2.toNatClampNeg) 8 (-1000)).1 (b + 28 + 1 + l2.toNatClampNeg) 8)) (l2 + nI 1) (cp s (b + 28 + 1 + l2.toNatClampNeg) 8 (-1000)))) else none)
set_option maxHeartbeats 4000000 in
theorem t_X2_deepestWayIn_29 {Γ : jg_G} {g : Nat → jg_C} (F : Nat) (τ : cT) (n : Nat) (b : Nat)  (hB : Bd τ n b) (Q : jg_Q) {x : Int32 × cS} (K1 : jg Γ mX2_deepestWayIn 2 0 0 111 [none, some (.int x.1), none, none, none] [] (ct_h g τ x.2, n) Q)  : ∀ (f : Nat) (l1 : Int32) (l2 : Int32) (s : cS), o_X2_deepestWayIn_29 F τ n b f l1 l2 s = some x → jg Γ mX2_deepestWayIn 2 0 0 29 [some (.ref b), some (.int l1), some (.int l2), none, none] [] (ct_h g τ s, n) Q := by
  intro f
  induction f with
  | zero => intro l1 l2 s h; rw [o_X2_deepestWayIn_29] at h; cases h
  | succ f ih =>
   intro l1 l2 s h
   rw [o_X2_deepestWayIn_29] at h
   refine jg_iload_n dX2_deepestWayIn_29 rfl ?_
   refine jg_aload_n dX2_deepestWayIn_30 rfl ?_
   refine cs_get (s := s) (w := .ref (b + 27)) fl_X2_45 dX2_deepestWayIn_31 hB.ob0 rfl ?_
   refine cs_get (s := s) (w := .int (s.1 (b + 27) 1)) fl_X2_244 dX2_deepestWayIn_34 (hB.ob 27 (by decide) rfl) rfl ?_
   refine jg_icmp_ge (x := l2) (y := (s.1 (b + 27) 1)) (tgt := 111) dX2_deepestWayIn_37 (by decide) (fun c3 => ?_) (fun c3 => ?_)
   · replace h := it_t c3 h
     refine jg_fg (L' := [none, some (.int l1), none, none, none]) (by repeat (first | exact trivial | refine ⟨rfl, ?_⟩ | show jg_le _ _)) ?_
     obtain rfl := Option.some.inj h
     exact K1
   · replace h := it_f c3 h
     refine jg_aload_n dX2_deepestWayIn_40 rfl ?_
     refine cs_get (s := s) (w := .ref (b + 27)) fl_X2_45 dX2_deepestWayIn_41 hB.ob0 rfl ?_
     refine cs_get (s := s) (w := .ref (b + 28)) fl_X2_247 dX2_deepestWayIn_44 (hB.ob 27 (by decide) rfl) rfl ?_
     refine jg_iload_n dX2_deepestWayIn_47 rfl ?_
     obtain ⟨q4, h⟩ := gd_some h
     refine cs_ldr (s := s) (q := (b + 28)) (i := l2) (kd := 5) (by decide) dX2_deepestWayIn_48 (hB.ar 28 (by decide) rfl) q4 ?_
     refine jg_astore_n (L' := [some (.ref b), some (.int l1), some (.int l2), some (.ref (b + 28 + 1 + l2.toNatClampNeg)), none]) dX2_deepestWayIn_49 (by decide) rfl ?_
     refine jg_aload_n dX2_deepestWayIn_50 rfl ?_
     refine cs_get (s := s) (w := .int (s.1 (b + 28 + 1 + l2.toNatClampNeg) 7)) fl_X2_251 dX2_deepestWayIn_51 (hB.berth q4.2) rfl ?_
     refine jg_iconst (v := (-1)) dX2_deepestWayIn_54 (by decide) ?_
     refine jg_icmp_ne (x := (s.1 (b + 28 + 1 + l2.toNatClampNeg) 7)) (y := (-1)) (tgt := 69) dX2_deepestWayIn_55 (by decide) (fun c5 => ?_) (fun c5 => ?_)
     · replace h := it_f c5 h
       refine jg_iconst (v := nI 0) dX2_deepestWayIn_69 (by decide) ?_
       refine jg_istore (L' := [some (.ref b), some (.int l1), some (.int l2), some (.ref (b + 28 + 1 + l2.toNatClampNeg)), some (.int (nI 0))]) dX2_deepestWayIn_70 (by decide) rfl ?_
       refine jg_aload_n dX2_deepestWayIn_72 rfl ?_
       refine jg_iload dX2_deepestWayIn_73 rfl ?_
       refine jg_if_eq (x := (nI 0)) (tgt := 90) dX2_deepestWayIn_75 (by decide) (fun _ => ?_) (fun q9 => absurd q9 (by decide))
       refine jg_sipush (v := (-1000)) dX2_deepestWayIn_90 (by decide) ?_
       refine cs_put (s := s) (k := 8) (x := (-1000)) fl_X2_261 dX2_deepestWayIn_93 (hB.berth q4.2) (ltb rfl) (rfl) rfl rfl ?_
       refine jg_iload_n dX2_deepestWayIn_96 rfl ?_
       refine jg_aload_n dX2_deepestWayIn_97 rfl ?_
       refine cs_get (s := (cp s (b + 28 + 1 + l2.toNatClampNeg) 8 (-1000))) (w := .int ((cp s (b + 28 + 1 + l2.toNatClampNeg) 8 (-1000)).1 (b + 28 + 1 + l2.toNatClampNeg) 8)) fl_X2_261 dX2_deepestWayIn_98 (hB.berth q4.2) rfl ?_
       refine jg_mmax (x := l1) (y := ((cp s (b + 28 + 1 + l2.toNatClampNeg) 8 (-1000)).1 (b + 28 + 1 + l2.toNatClampNeg) 8)) km_X2_264 jw_max.1 jw_max.2 dX2_deepestWayIn_101 (by decide) (Nat.le_of_ble_eq_true rfl) ?_
       refine jg_istore_n (L' := [some (.ref b), some (.int (mxi l1 ((cp s (b + 28 + 1 + l2.toNatClampNeg) 8 (-1000)).1 (b + 28 + 1 + l2.toNatClampNeg) 8))), some (.int l2), some (.ref (b + 28 + 1 + l2.toNatClampNeg)), some (.int (nI 0))]) dX2_deepestWayIn_104 (by decide) rfl ?_
       refine jg_iinc (x := l2) (v := l2 + nI 1) (L' := [some (.ref b), some (.int (mxi l1 ((cp s (b + 28 + 1 + l2.toNatClampNeg) 8 (-1000)).1 (b + 28 + 1 + l2.toNatClampNeg) 8))), some (.int (l2 + nI 1)), some (.ref (b + 28 + 1 + l2.toNatClampNeg)), some (.int (nI 0))]) dX2_deepestWayIn_105 rfl (ic_k _ (by decide)) (by decide) rfl ?_
       refine jg_goto (tgt := 29) dX2_deepestWayIn_108 (by decide) ?_
       refine jg_fg (L' := [some (.ref b), some (.int (mxi l1 ((cp s (b + 28 + 1 + l2.toNatClampNeg) 8 (-1000)).1 (b + 28 + 1 + l2.toNatClampNeg) 8))), some (.int (l2 + nI 1)), none, none]) (by repeat (first | exact trivial | refine ⟨rfl, ?_⟩ | show jg_le _ _)) ?_
       exact ih (mxi l1 ((cp s (b + 28 + 1 + l2.toNatClampNeg) 8 (-1000)).1 (b + 28 + 1 + l2.toNatClampNeg) 8)) (l2 + nI 1) (cp s (b + 28 + 1 + l2.toNatClampNeg) 8 (-1000)) h
     · replace h := it_t c5 h
       refine jg_aload_n dX2_deepestWayIn_58 rfl ?_
       obtain ⟨x6, e_x6, h⟩ := bd_some h
       refine cs_call (q := (b + 28 + 1 + l2.toNatClampNeg)) (As := []) kv_X2_254 dX2_deepestWayIn_59 (hB.berth q4.2) rfl rfl (by decide) (Nat.le_of_ble_eq_true rfl) rfl (by decide) (Nat.le_of_ble_eq_true rfl) (t_X1_isClosed τ n (b + 28 + 1 + l2.toNatClampNeg) s (hB.berth q4.2) e_x6) ?_
       refine jg_if_ne (x := x6) (tgt := 69) dX2_deepestWayIn_62 (by decide) (fun c7 => ?_) (fun c7 => ?_)
       · replace h := it_f c7 h
         refine jg_iconst (v := nI 0) dX2_deepestWayIn_69 (by decide) ?_
         refine jg_istore (L' := [some (.ref b), some (.int l1), some (.int l2), some (.ref (b + 28 + 1 + l2.toNatClampNeg)), some (.int (nI 0))]) dX2_deepestWayIn_70 (by decide) rfl ?_
         refine jg_aload_n dX2_deepestWayIn_72 rfl ?_
         refine jg_iload dX2_deepestWayIn_73 rfl ?_
         refine jg_if_eq (x := (nI 0)) (tgt := 90) dX2_deepestWayIn_75 (by decide) (fun _ => ?_) (fun q9 => absurd q9 (by decide))
         refine jg_sipush (v := (-1000)) dX2_deepestWayIn_90 (by decide) ?_
         refine cs_put (s := s) (k := 8) (x := (-1000)) fl_X2_261 dX2_deepestWayIn_93 (hB.berth q4.2) (ltb rfl) (rfl) rfl rfl ?_
         refine jg_iload_n dX2_deepestWayIn_96 rfl ?_
         refine jg_aload_n dX2_deepestWayIn_97 rfl ?_
         refine cs_get (s := (cp s (b + 28 + 1 + l2.toNatClampNeg) 8 (-1000))) (w := .int ((cp s (b + 28 + 1 + l2.toNatClampNeg) 8 (-1000)).1 (b + 28 + 1 + l2.toNatClampNeg) 8)) fl_X2_261 dX2_deepestWayIn_98 (hB.berth q4.2) rfl ?_
         refine jg_mmax (x := l1) (y := ((cp s (b + 28 + 1 + l2.toNatClampNeg) 8 (-1000)).1 (b + 28 + 1 + l2.toNatClampNeg) 8)) km_X2_264 jw_max.1 jw_max.2 dX2_deepestWayIn_101 (by decide) (Nat.le_of_ble_eq_true rfl) ?_
         refine jg_istore_n (L' := [some (.ref b), some (.int (mxi l1 ((cp s (b + 28 + 1 + l2.toNatClampNeg) 8 (-1000)).1 (b + 28 + 1 + l2.toNatClampNeg) 8))), some (.int l2), some (.ref (b + 28 + 1 + l2.toNatClampNeg)), some (.int (nI 0))]) dX2_deepestWayIn_104 (by decide) rfl ?_
         refine jg_iinc (x := l2) (v := l2 + nI 1) (L' := [some (.ref b), some (.int (mxi l1 ((cp s (b + 28 + 1 + l2.toNatClampNeg) 8 (-1000)).1 (b + 28 + 1 + l2.toNatClampNeg) 8))), some (.int (l2 + nI 1)), some (.ref (b + 28 + 1 + l2.toNatClampNeg)), some (.int (nI 0))]) dX2_deepestWayIn_105 rfl (ic_k _ (by decide)) (by decide) rfl ?_
         refine jg_goto (tgt := 29) dX2_deepestWayIn_108 (by decide) ?_
         refine jg_fg (L' := [some (.ref b), some (.int (mxi l1 ((cp s (b + 28 + 1 + l2.toNatClampNeg) 8 (-1000)).1 (b + 28 + 1 + l2.toNatClampNeg) 8))), some (.int (l2 + nI 1)), none, none]) (by repeat (first | exact trivial | refine ⟨rfl, ?_⟩ | show jg_le _ _)) ?_
         exact ih (mxi l1 ((cp s (b + 28 + 1 + l2.toNatClampNeg) 8 (-1000)).1 (b + 28 + 1 + l2.toNatClampNeg) 8)) (l2 + nI 1) (cp s (b + 28 + 1 + l2.toNatClampNeg) 8 (-1000)) h
       · replace h := it_t c7 h
         refine jg_iconst (v := nI 1) dX2_deepestWayIn_65 (by decide) ?_
         refine jg_goto (tgt := 70) dX2_deepestWayIn_66 (by decide) ?_
         refine jg_istore (L' := [some (.ref b), some (.int l1), some (.int l2), some (.ref (b + 28 + 1 + l2.toNatClampNeg)), some (.int (nI 1))]) dX2_deepestWayIn_70 (by decide) rfl ?_
         refine jg_aload_n dX2_deepestWayIn_72 rfl ?_
         refine jg_iload dX2_deepestWayIn_73 rfl ?_
         refine jg_if_eq (x := (nI 1)) (tgt := 90) dX2_deepestWayIn_75 (by decide) (fun q9 => absurd q9 (by decide)) (fun _ => ?_)
         refine jg_aload_n dX2_deepestWayIn_78 rfl ?_
         refine cs_get (s := s) (w := .ref (b + 169)) fl_X2_70 dX2_deepestWayIn_79 hB.ob0 rfl ?_
         refine jg_aload_n dX2_deepestWayIn_82 rfl ?_
         refine cs_get (s := s) (w := .int (s.1 (b + 28 + 1 + l2.toNatClampNeg) 0)) fl_X2_258 dX2_deepestWayIn_83 (hB.berth q4.2) rfl ?_
         obtain ⟨q8, h⟩ := gd_some h
         refine cs_lda (s := s) (q := (b + 169)) (i := (s.1 (b + 28 + 1 + l2.toNatClampNeg) 0)) dX2_deepestWayIn_86 (hB.ar 169 (by decide) rfl) q8 ?_
         refine jg_goto (tgt := 93) dX2_deepestWayIn_87 (by decide) ?_
         refine cs_put (s := s) (k := 8) (x := (cg s (b + 169) (s.1 (b + 28 + 1 + l2.toNatClampNeg) 0))) fl_X2_261 dX2_deepestWayIn_93 (hB.berth q4.2) (ltb rfl) (rfl) rfl rfl ?_
         obtain ⟨x9, e_x9, h⟩ := bd_some h
         refine cs_sub (Option.some.inj e_x9) ?_
         refine jg_iload_n dX2_deepestWayIn_96 rfl ?_
         refine jg_aload_n dX2_deepestWayIn_97 rfl ?_
         refine cs_get (s := x9) (w := .int (x9.1 (b + 28 + 1 + l2.toNatClampNeg) 8)) fl_X2_261 dX2_deepestWayIn_98 (hB.berth q4.2) rfl ?_
         refine jg_mmax (x := l1) (y := (x9.1 (b + 28 + 1 + l2.toNatClampNeg) 8)) km_X2_264 jw_max.1 jw_max.2 dX2_deepestWayIn_101 (by decide) (Nat.le_of_ble_eq_true rfl) ?_
         refine jg_istore_n (L' := [some (.ref b), some (.int (mxi l1 (x9.1 (b + 28 + 1 + l2.toNatClampNeg) 8))), some (.int l2), some (.ref (b + 28 + 1 + l2.toNatClampNeg)), some (.int (nI 1))]) dX2_deepestWayIn_104 (by decide) rfl ?_
         refine jg_iinc (x := l2) (v := l2 + nI 1) (L' := [some (.ref b), some (.int (mxi l1 (x9.1 (b + 28 + 1 + l2.toNatClampNeg) 8))), some (.int (l2 + nI 1)), some (.ref (b + 28 + 1 + l2.toNatClampNeg)), some (.int (nI 1))]) dX2_deepestWayIn_105 rfl (ic_k _ (by decide)) (by decide) rfl ?_
         refine jg_goto (tgt := 29) dX2_deepestWayIn_108 (by decide) ?_
         refine jg_fg (L' := [some (.ref b), some (.int (mxi l1 (x9.1 (b + 28 + 1 + l2.toNatClampNeg) 8))), some (.int (l2 + nI 1)), none, none]) (by repeat (first | exact trivial | refine ⟨rfl, ?_⟩ | show jg_le _ _)) ?_
         exact ih (mxi l1 (x9.1 (b + 28 + 1 + l2.toNatClampNeg) 8)) (l2 + nI 1) x9 h
noncomputable def o_X2_deepestWayIn (F : Nat) (τ : cT) (n : Nat) (b : Nat) (s : cS) : Option (Int32 × cS) := (o_X2_fillDepths F τ n b s).bind fun x1 => ((o_X8_fillWaysIn F τ n b (b + 169) (b + 168) x1 (x1.1 b 0)).bind fun x2 => ((o_X2_deepestWayIn_29 F τ n b F (-1000) (nI 0) x2).bind fun x10 => (some (x10.1, x10.2))))
set_option maxHeartbeats 4000000 in
theorem t_X2_deepestWayIn {Γ : jg_G} {g : Nat → jg_C} (F : Nat) (τ : cT) (n : Nat) (b : Nat) (s : cS) (hB : Bd τ n b) {x : Int32 × cS} (h : o_X2_deepestWayIn F τ n b s = some x) : jc Γ mX2_deepestWayIn 2 0 0 [some (.ref b), none, none, none, none] (ct_h g τ s, n) (.inl (some (.int x.1))) (ct_h g τ x.2, n) := by
  refine jc_of ?_
  rw [o_X2_deepestWayIn] at h
  refine jg_aload_n dX2_deepestWayIn_0 rfl ?_
  obtain ⟨x1, e_x1, h⟩ := bd_some h
  refine cs_call (q := b) (As := []) kv_X2_153 dX2_deepestWayIn_1 hB.ob0 rfl rfl (by decide) (Nat.le_of_ble_eq_true rfl) rfl (by decide) (Nat.le_of_ble_eq_true rfl) (t_X2_fillDepths F τ n b s hB e_x1) ?_
  refine jg_aload_n dX2_deepestWayIn_4 rfl ?_
  refine cs_get (s := x1) (w := .ref (b + 1)) fl_X2_18 dX2_deepestWayIn_5 hB.ob0 rfl ?_
  refine jg_aload_n dX2_deepestWayIn_8 rfl ?_
  refine cs_get (s := x1) (w := .ref (b + 169)) fl_X2_70 dX2_deepestWayIn_9 hB.ob0 rfl ?_
  refine jg_aload_n dX2_deepestWayIn_12 rfl ?_
  refine cs_get (s := x1) (w := .ref (b + 168)) fl_X2_67 dX2_deepestWayIn_13 hB.ob0 rfl ?_
  refine jg_aload_n dX2_deepestWayIn_16 rfl ?_
  refine cs_get (s := x1) (w := .int (x1.1 b 0)) fl_X2_9 dX2_deepestWayIn_17 hB.ob0 rfl ?_
  obtain ⟨x2, e_x2, h⟩ := bd_some h
  refine cs_call (q := (b + 1)) (As := [.ref (b + 169), .ref (b + 168), .int (x1.1 b 0)]) kv_X2_238 dX2_deepestWayIn_20 (hB.ob 1 (by decide) rfl) rfl rfl (by decide) (Nat.le_of_ble_eq_true rfl) rfl (by decide) (Nat.le_of_ble_eq_true rfl) (t_X8_fillWaysIn F τ n b (b + 169) (b + 168) x1 (x1.1 b 0) hB (hB.ar 169 (by decide) rfl) (hB.ar 168 (by decide) rfl) e_x2) ?_
  refine jg_sipush (v := (-1000)) dX2_deepestWayIn_23 (by decide) ?_
  refine jg_istore_n (L' := [some (.ref b), some (.int (-1000)), none, none, none]) dX2_deepestWayIn_26 (by decide) rfl ?_
  refine jg_iconst (v := nI 0) dX2_deepestWayIn_27 (by decide) ?_
  refine jg_istore_n (L' := [some (.ref b), some (.int (-1000)), some (.int (nI 0)), none, none]) dX2_deepestWayIn_28 (by decide) rfl ?_
  obtain ⟨x10, e_x10, h⟩ := bd_some h
  refine jg_fg (L' := [some (.ref b), some (.int (-1000)), some (.int (nI 0)), none, none]) (by repeat (first | exact trivial | refine ⟨rfl, ?_⟩ | show jg_le _ _)) ?_
  refine t_X2_deepestWayIn_29  F τ n b hB _ (x := x10) ?_ F (-1000) (nI 0) x2 e_x10
  refine jg_iload_n dX2_deepestWayIn_111 rfl ?_
  obtain rfl := Option.some.inj h
  exact jg_ireturn dX2_deepestWayIn_112 rfl ⟨rfl, rfl⟩
theorem dX5_firstBerthFor_0 : decode cX5_firstBerthFor 0 = .ok (.iconst 0, 1) := by decide +kernel
theorem dX5_firstBerthFor_1 : decode cX5_firstBerthFor 1 = .ok (.istore_n 3, 1) := by decide +kernel
theorem dX5_firstBerthFor_2 : decode cX5_firstBerthFor 2 = .ok (.iload_n 3, 1) := by decide +kernel
theorem dX5_firstBerthFor_3 : decode cX5_firstBerthFor 3 = .ok (.aload_n 0, 1) := by decide +kernel
theorem dX5_firstBerthFor_4 : decode cX5_firstBerthFor 4 = .ok (.getfield 38, 3) := by decide +kernel
theorem dX5_firstBerthFor_7 : decode cX5_firstBerthFor 7 = .ok (.if_icmp .ge 45, 3) := by decide +kernel
theorem dX5_firstBerthFor_10 : decode cX5_firstBerthFor 10 = .ok (.aload_n 0, 1) := by decide +kernel
theorem dX5_firstBerthFor_11 : decode cX5_firstBerthFor 11 = .ok (.getfield 11, 3) := by decide +kernel
theorem dX5_firstBerthFor_14 : decode cX5_firstBerthFor 14 = .ok (.iload_n 3, 1) := by decide +kernel
theorem dX5_firstBerthFor_15 : decode cX5_firstBerthFor 15 = .ok (.aaload, 1) := by decide +kernel
theorem dX5_firstBerthFor_16 : decode cX5_firstBerthFor 16 = .ok (.astore 4, 2) := by decide +kernel
theorem dX5_firstBerthFor_18 : decode cX5_firstBerthFor 18 = .ok (.aload 4, 2) := by decide +kernel
theorem dX5_firstBerthFor_20 : decode cX5_firstBerthFor 20 = .ok (.getfield 77, 3) := by decide +kernel
theorem dX5_firstBerthFor_23 : decode cX5_firstBerthFor 23 = .ok (.aload_n 1, 1) := by decide +kernel
theorem dX5_firstBerthFor_24 : decode cX5_firstBerthFor 24 = .ok (.getfield 80, 3) := by decide +kernel
theorem dX5_firstBerthFor_27 : decode cX5_firstBerthFor 27 = .ok (.if_icmp .lt 19, 3) := by decide +kernel
theorem dX5_firstBerthFor_30 : decode cX5_firstBerthFor 30 = .ok (.aload 4, 2) := by decide +kernel
theorem dX5_firstBerthFor_32 : decode cX5_firstBerthFor 32 = .ok (.getfield 81, 3) := by decide +kernel
theorem dX5_firstBerthFor_35 : decode cX5_firstBerthFor 35 = .ok (.aload_n 1, 1) := by decide +kernel
theorem dX5_firstBerthFor_36 : decode cX5_firstBerthFor 36 = .ok (.getfield 84, 3) := by decide +kernel
theorem dX5_firstBerthFor_39 : decode cX5_firstBerthFor 39 = .ok (.iload_n 2, 1) := by decide +kernel
theorem dX5_firstBerthFor_40 : decode cX5_firstBerthFor 40 = .ok (.iadd, 1) := by decide +kernel
theorem dX5_firstBerthFor_41 : decode cX5_firstBerthFor 41 = .ok (.if_icmp .lt 5, 3) := by decide +kernel
theorem dX5_firstBerthFor_44 : decode cX5_firstBerthFor 44 = .ok (.iload_n 3, 1) := by decide +kernel
theorem dX5_firstBerthFor_45 : decode cX5_firstBerthFor 45 = .ok (.ireturn, 1) := by decide +kernel
theorem dX5_firstBerthFor_46 : decode cX5_firstBerthFor 46 = .ok (.iinc 3 1, 3) := by decide +kernel
theorem dX5_firstBerthFor_49 : decode cX5_firstBerthFor 49 = .ok (.goto (-47), 3) := by decide +kernel
theorem dX5_firstBerthFor_52 : decode cX5_firstBerthFor 52 = .ok (.iconst (-1), 1) := by decide +kernel
theorem dX5_firstBerthFor_53 : decode cX5_firstBerthFor 53 = .ok (.ireturn, 1) := by decide +kernel
noncomputable def o_X5_firstBerthFor_2 (F : Nat) (τ : cT) (n : Nat) (b : Nat) (a1 : Nat) (l2 : Int32) (s : cS) : Nat → Int32 → Option ((Unit) ⊕ (Int32))
  | 0, _ => none
  | f + 1, l3 => if (s.1 (b + 27) 1) ≤ l3 then (some (.inl ())) else (if iL l3 10 then (if (s.1 (b + 28 + 1 + l3.toNatClampNeg) 1) < (s.1 a1 2) then (o_X5_firstBerthFor_2 F τ n b a1 l2 s f (l3 + nI 1)) else (if (s.1 (b + 28 + 1 + l3.toNatClampNeg) 8) < ((s.1 a1 4) + l2) then (o_X5_firstBerthFor_2 F τ n b a1 l2 s f (l3 + nI 1)) else (some (.inr l3)))) else none)
set_option maxHeartbeats 4000000 in
theorem t_X5_firstBerthFor_2 {Γ : jg_G} {g : Nat → jg_C} (F : Nat) (τ : cT) (n : Nat) (b : Nat) (a1 : Nat) (l2 : Int32) (s : cS) (hB : Bd τ n b) (h1 : Ob τ n a1 9) (Q : jg_Q) {x : (Unit) ⊕ (Int32)} (K1 : ∀ y, x = .inl y → jg Γ mX5_firstBerthFor 0 0 0 52 [none, none, none, none, none] [] (ct_h g τ s, n) Q) (K2 : ∀ z, x = .inr z → Q (.inl (some (.int z))) (ct_h g τ s, n)) : ∀ (f : Nat) (l3 : Int32), o_X5_firstBerthFor_2 F τ n b a1 l2 s f l3 = some x → jg Γ mX5_firstBerthFor 0 0 0 2 [some (.ref (b + 27)), some (.ref a1), some (.int l2), some (.int l3), none] [] (ct_h g τ s, n) Q := by
  intro f
  induction f with
  | zero => intro l3 h; rw [o_X5_firstBerthFor_2] at h; cases h
  | succ f ih =>
   intro l3 h
   rw [o_X5_firstBerthFor_2] at h
   refine jg_iload_n dX5_firstBerthFor_2 rfl ?_
   refine jg_aload_n dX5_firstBerthFor_3 rfl ?_
   refine cs_get (s := s) (w := .int (s.1 (b + 27) 1)) fl_X5_38 dX5_firstBerthFor_4 (hB.ob 27 (by decide) rfl) rfl ?_
   refine jg_icmp_ge (x := l3) (y := (s.1 (b + 27) 1)) (tgt := 52) dX5_firstBerthFor_7 (by decide) (fun c1 => ?_) (fun c1 => ?_)
   · replace h := it_t c1 h
     refine jg_fg (L' := [none, none, none, none, none]) (by repeat (first | exact trivial | refine ⟨rfl, ?_⟩ | show jg_le _ _)) ?_
     obtain rfl := Option.some.inj h
     exact K1 _ rfl
   · replace h := it_f c1 h
     refine jg_aload_n dX5_firstBerthFor_10 rfl ?_
     refine cs_get (s := s) (w := .ref (b + 28)) fl_X5_11 dX5_firstBerthFor_11 (hB.ob 27 (by decide) rfl) rfl ?_
     refine jg_iload_n dX5_firstBerthFor_14 rfl ?_
     obtain ⟨q2, h⟩ := gd_some h
     refine cs_ldr (s := s) (q := (b + 28)) (i := l3) (kd := 5) (by decide) dX5_firstBerthFor_15 (hB.ar 28 (by decide) rfl) q2 ?_
     refine jg_astore (L' := [some (.ref (b + 27)), some (.ref a1), some (.int l2), some (.int l3), some (.ref (b + 28 + 1 + l3.toNatClampNeg))]) dX5_firstBerthFor_16 (by decide) rfl ?_
     refine jg_aload dX5_firstBerthFor_18 rfl ?_
     refine cs_get (s := s) (w := .int (s.1 (b + 28 + 1 + l3.toNatClampNeg) 1)) fl_X5_77 dX5_firstBerthFor_20 (hB.berth q2.2) rfl ?_
     refine jg_aload_n dX5_firstBerthFor_23 rfl ?_
     refine cs_get (s := s) (w := .int (s.1 a1 2)) fl_X5_80 dX5_firstBerthFor_24 h1 rfl ?_
     refine jg_icmp_lt (x := (s.1 (b + 28 + 1 + l3.toNatClampNeg) 1)) (y := (s.1 a1 2)) (tgt := 46) dX5_firstBerthFor_27 (by decide) (fun c3 => ?_) (fun c3 => ?_)
     · replace h := it_t c3 h
       refine jg_iinc (x := l3) (v := l3 + nI 1) (L' := [some (.ref (b + 27)), some (.ref a1), some (.int l2), some (.int (l3 + nI 1)), some (.ref (b + 28 + 1 + l3.toNatClampNeg))]) dX5_firstBerthFor_46 rfl (ic_k _ (by decide)) (by decide) rfl ?_
       refine jg_goto (tgt := 2) dX5_firstBerthFor_49 (by decide) ?_
       refine jg_fg (L' := [some (.ref (b + 27)), some (.ref a1), some (.int l2), some (.int (l3 + nI 1)), none]) (by repeat (first | exact trivial | refine ⟨rfl, ?_⟩ | show jg_le _ _)) ?_
       exact ih (l3 + nI 1) h
     · replace h := it_f c3 h
       refine jg_aload dX5_firstBerthFor_30 rfl ?_
       refine cs_get (s := s) (w := .int (s.1 (b + 28 + 1 + l3.toNatClampNeg) 8)) fl_X5_81 dX5_firstBerthFor_32 (hB.berth q2.2) rfl ?_
       refine jg_aload_n dX5_firstBerthFor_35 rfl ?_
       refine cs_get (s := s) (w := .int (s.1 a1 4)) fl_X5_84 dX5_firstBerthFor_36 h1 rfl ?_
       refine jg_iload_n dX5_firstBerthFor_39 rfl ?_
       refine jg_iadd (x := (s.1 a1 4)) (y := l2) dX5_firstBerthFor_40  ?_
       refine jg_icmp_lt (x := (s.1 (b + 28 + 1 + l3.toNatClampNeg) 8)) (y := ((s.1 a1 4) + l2)) (tgt := 46) dX5_firstBerthFor_41 (by decide) (fun c4 => ?_) (fun c4 => ?_)
       · replace h := it_t c4 h
         refine jg_iinc (x := l3) (v := l3 + nI 1) (L' := [some (.ref (b + 27)), some (.ref a1), some (.int l2), some (.int (l3 + nI 1)), some (.ref (b + 28 + 1 + l3.toNatClampNeg))]) dX5_firstBerthFor_46 rfl (ic_k _ (by decide)) (by decide) rfl ?_
         refine jg_goto (tgt := 2) dX5_firstBerthFor_49 (by decide) ?_
         refine jg_fg (L' := [some (.ref (b + 27)), some (.ref a1), some (.int l2), some (.int (l3 + nI 1)), none]) (by repeat (first | exact trivial | refine ⟨rfl, ?_⟩ | show jg_le _ _)) ?_
         exact ih (l3 + nI 1) h
       · replace h := it_f c4 h
         refine jg_iload_n dX5_firstBerthFor_44 rfl ?_
         obtain rfl := Option.some.inj h
         exact jg_ireturn dX5_firstBerthFor_45 rfl (K2 _ rfl)
noncomputable def o_X5_firstBerthFor (F : Nat) (τ : cT) (n : Nat) (b : Nat) (a1 : Nat) (s : cS) (a2 : Int32) : Option (Int32) := (o_X5_firstBerthFor_2 F τ n b a1 a2 s F (nI 0)).bind fun x5 => (Sum.elim (fun y6 => some (-1)) (fun z7 => some z7) x5)
set_option maxHeartbeats 4000000 in
theorem t_X5_firstBerthFor {Γ : jg_G} {g : Nat → jg_C} (F : Nat) (τ : cT) (n : Nat) (b : Nat) (a1 : Nat) (s : cS) (a2 : Int32) (hB : Bd τ n b) (h1 : Ob τ n a1 9) {x : Int32} (h : o_X5_firstBerthFor F τ n b a1 s a2 = some x) : jc Γ mX5_firstBerthFor 0 0 0 [some (.ref (b + 27)), some (.ref a1), some (.int a2), none, none] (ct_h g τ s, n) (.inl (some (.int x))) (ct_h g τ s, n) := by
  refine jc_of ?_
  rw [o_X5_firstBerthFor] at h
  refine jg_iconst (v := nI 0) dX5_firstBerthFor_0 (by decide) ?_
  refine jg_istore_n (L' := [some (.ref (b + 27)), some (.ref a1), some (.int a2), some (.int (nI 0)), none]) dX5_firstBerthFor_1 (by decide) rfl ?_
  obtain ⟨x5, e_x5, h⟩ := bd_some h
  refine jg_fg (L' := [some (.ref (b + 27)), some (.ref a1), some (.int a2), some (.int (nI 0)), none]) (by repeat (first | exact trivial | refine ⟨rfl, ?_⟩ | show jg_le _ _)) ?_
  refine t_X5_firstBerthFor_2  F τ n b a1 a2 s hB h1 _ (x := x5) ?_ ?_ F (nI 0) e_x5
  · intro y6 ey; subst ey; replace h := se_l h
    refine jg_iconst (v := (-1)) dX5_firstBerthFor_52 (by decide) ?_
    obtain rfl := Option.some.inj h
    exact jg_ireturn dX5_firstBerthFor_53 rfl ⟨rfl, rfl⟩
  · intro z7 ez; subst ez; replace h := se_r h
    obtain rfl := Option.some.inj h
    exact ⟨rfl, rfl⟩
theorem dX2_firstThatCanComeIn_0 : decode cX2_firstThatCanComeIn 0 = .ok (.iconst (-1), 1) := by decide +kernel
theorem dX2_firstThatCanComeIn_1 : decode cX2_firstThatCanComeIn 1 = .ok (.istore 4, 2) := by decide +kernel
theorem dX2_firstThatCanComeIn_3 : decode cX2_firstThatCanComeIn 3 = .ok (.iconst 0, 1) := by decide +kernel
theorem dX2_firstThatCanComeIn_4 : decode cX2_firstThatCanComeIn 4 = .ok (.istore 5, 2) := by decide +kernel
theorem dX2_firstThatCanComeIn_6 : decode cX2_firstThatCanComeIn 6 = .ok (.iload 5, 2) := by decide +kernel
theorem dX2_firstThatCanComeIn_8 : decode cX2_firstThatCanComeIn 8 = .ok (.aload_n 0, 1) := by decide +kernel
theorem dX2_firstThatCanComeIn_9 : decode cX2_firstThatCanComeIn 9 = .ok (.getfield 45, 3) := by decide +kernel
theorem dX2_firstThatCanComeIn_12 : decode cX2_firstThatCanComeIn 12 = .ok (.getfield 156, 3) := by decide +kernel
theorem dX2_firstThatCanComeIn_15 : decode cX2_firstThatCanComeIn 15 = .ok (.if_icmp .ge 77, 3) := by decide +kernel
theorem dX2_firstThatCanComeIn_18 : decode cX2_firstThatCanComeIn 18 = .ok (.aload_n 0, 1) := by decide +kernel
theorem dX2_firstThatCanComeIn_19 : decode cX2_firstThatCanComeIn 19 = .ok (.getfield 45, 3) := by decide +kernel
theorem dX2_firstThatCanComeIn_22 : decode cX2_firstThatCanComeIn 22 = .ok (.getfield 159, 3) := by decide +kernel
theorem dX2_firstThatCanComeIn_25 : decode cX2_firstThatCanComeIn 25 = .ok (.iload 5, 2) := by decide +kernel
theorem dX2_firstThatCanComeIn_27 : decode cX2_firstThatCanComeIn 27 = .ok (.aaload, 1) := by decide +kernel
theorem dX2_firstThatCanComeIn_28 : decode cX2_firstThatCanComeIn 28 = .ok (.astore 6, 2) := by decide +kernel
theorem dX2_firstThatCanComeIn_30 : decode cX2_firstThatCanComeIn 30 = .ok (.aload 6, 2) := by decide +kernel
theorem dX2_firstThatCanComeIn_32 : decode cX2_firstThatCanComeIn 32 = .ok (.getfield 163, 3) := by decide +kernel
theorem dX2_firstThatCanComeIn_35 : decode cX2_firstThatCanComeIn 35 = .ok (.ifCond .ne 51, 3) := by decide +kernel
theorem dX2_firstThatCanComeIn_38 : decode cX2_firstThatCanComeIn 38 = .ok (.aload 6, 2) := by decide +kernel
theorem dX2_firstThatCanComeIn_40 : decode cX2_firstThatCanComeIn 40 = .ok (.getfield 269, 3) := by decide +kernel
theorem dX2_firstThatCanComeIn_43 : decode cX2_firstThatCanComeIn 43 = .ok (.iload_n 1, 1) := by decide +kernel
theorem dX2_firstThatCanComeIn_44 : decode cX2_firstThatCanComeIn 44 = .ok (.if_icmp .gt 42, 3) := by decide +kernel
theorem dX2_firstThatCanComeIn_47 : decode cX2_firstThatCanComeIn 47 = .ok (.iload 4, 2) := by decide +kernel
theorem dX2_firstThatCanComeIn_49 : decode cX2_firstThatCanComeIn 49 = .ok (.iconst (-1), 1) := by decide +kernel
theorem dX2_firstThatCanComeIn_50 : decode cX2_firstThatCanComeIn 50 = .ok (.if_icmp .eq 18, 3) := by decide +kernel
theorem dX2_firstThatCanComeIn_53 : decode cX2_firstThatCanComeIn 53 = .ok (.aload_n 0, 1) := by decide +kernel
theorem dX2_firstThatCanComeIn_54 : decode cX2_firstThatCanComeIn 54 = .ok (.getfield 45, 3) := by decide +kernel
theorem dX2_firstThatCanComeIn_57 : decode cX2_firstThatCanComeIn 57 = .ok (.iload 5, 2) := by decide +kernel
theorem dX2_firstThatCanComeIn_59 : decode cX2_firstThatCanComeIn 59 = .ok (.iload 4, 2) := by decide +kernel
theorem dX2_firstThatCanComeIn_61 : decode cX2_firstThatCanComeIn 61 = .ok (.iload_n 3, 1) := by decide +kernel
theorem dX2_firstThatCanComeIn_62 : decode cX2_firstThatCanComeIn 62 = .ok (.invokevirtual 272, 3) := by decide +kernel
theorem dX2_firstThatCanComeIn_65 : decode cX2_firstThatCanComeIn 65 = .ok (.ifCond .eq 21, 3) := by decide +kernel
theorem dX2_firstThatCanComeIn_68 : decode cX2_firstThatCanComeIn 68 = .ok (.aload_n 0, 1) := by decide +kernel
theorem dX2_firstThatCanComeIn_69 : decode cX2_firstThatCanComeIn 69 = .ok (.getfield 45, 3) := by decide +kernel
theorem dX2_firstThatCanComeIn_72 : decode cX2_firstThatCanComeIn 72 = .ok (.aload 6, 2) := by decide +kernel
theorem dX2_firstThatCanComeIn_74 : decode cX2_firstThatCanComeIn 74 = .ok (.iload_n 2, 1) := by decide +kernel
theorem dX2_firstThatCanComeIn_75 : decode cX2_firstThatCanComeIn 75 = .ok (.invokevirtual 231, 3) := by decide +kernel
theorem dX2_firstThatCanComeIn_78 : decode cX2_firstThatCanComeIn 78 = .ok (.iconst (-1), 1) := by decide +kernel
theorem dX2_firstThatCanComeIn_79 : decode cX2_firstThatCanComeIn 79 = .ok (.if_icmp .eq 7, 3) := by decide +kernel
theorem dX2_firstThatCanComeIn_82 : decode cX2_firstThatCanComeIn 82 = .ok (.iload 5, 2) := by decide +kernel
theorem dX2_firstThatCanComeIn_84 : decode cX2_firstThatCanComeIn 84 = .ok (.istore 4, 2) := by decide +kernel
theorem dX2_firstThatCanComeIn_86 : decode cX2_firstThatCanComeIn 86 = .ok (.iinc 5 1, 3) := by decide +kernel
theorem dX2_firstThatCanComeIn_89 : decode cX2_firstThatCanComeIn 89 = .ok (.goto (-83), 3) := by decide +kernel
theorem dX2_firstThatCanComeIn_92 : decode cX2_firstThatCanComeIn 92 = .ok (.iload 4, 2) := by decide +kernel
theorem dX2_firstThatCanComeIn_94 : decode cX2_firstThatCanComeIn 94 = .ok (.ireturn, 1) := by decide +kernel
noncomputable def o_X2_firstThatCanComeIn_6 (F : Nat) (τ : cT) (n : Nat) (b : Nat) (l1 : Int32) (l2 : Int32) (l3 : Int32) (s : cS) : Nat → Int32 → Int32 → Option (Int32)
  | 0, _, _ => none
  | f + 1, l4, l5 => if (s.1 (b + 27) 3) ≤ l5 then (some l4) else (if iL l5 80 then (if (s.1 (b + 39 + 1 + l5.toNatClampNeg) 10) = 0 then (if l1 < (s.1 (b + 39 + 1 + l5.toNatClampNeg) 4) then (o_X2_firstThatCanComeIn_6 F τ n b l1 l2 l3 s f l4 (l5 + nI 1)) else (if l4 = (-1) then ((o_X5_firstBerthFor F τ n b (b + 39 + 1 + l5.toNatClampNeg) s l2).bind fun x6 => (if x6 = (-1) then (o_X2_firstThatCanComeIn_6 F τ n b l1 l2 l3 s f l4 (l5 + nI 1)) else (o_X2_firstThatCanComeIn_6 F τ n b l1 l2 l3 s f l5 (l5 + nI 1)))) else ((o_X5_isAhead τ n b s l5 l4 l3).bind fun x8 => (if x8 = 0 then (o_X2_firstThatCanComeIn_6 F τ n b l1 l2 l3 s f l4 (l5 + nI 1)) else ((o_X5_firstBerthFor F τ n b (b + 39 + 1 + l5.toNatClampNeg) s l2).bind fun x10 => (if x10 = (-1) then (o_X2_firstThatCanComeIn_6 F τ n b l1 l2 l3 s f l4 (l5 + nI 1)) else (o_X2_firstThatCanComeIn_6 F τ n b l1 l2 l3 s f l5 (l5 + nI 1)))))))) else (o_X2_firstThatCanComeIn_6 F τ n b l1 l2 l3 s f l4 (l5 + nI 1))) else none)
set_option maxHeartbeats 4000000 in
theorem t_X2_firstThatCanComeIn_6 {Γ : jg_G} {g : Nat → jg_C} (F : Nat) (τ : cT) (n : Nat) (b : Nat) (l1 : Int32) (l2 : Int32) (l3 : Int32) (s : cS) (hB : Bd τ n b) (Q : jg_Q) {x : Int32} (K1 : jg Γ mX2_firstThatCanComeIn 3 0 0 92 [none, none, none, none, some (.int x), none, none] [] (ct_h g τ s, n) Q)  : ∀ (f : Nat) (l4 : Int32) (l5 : Int32), o_X2_firstThatCanComeIn_6 F τ n b l1 l2 l3 s f l4 l5 = some x → jg Γ mX2_firstThatCanComeIn 3 0 0 6 [some (.ref b), some (.int l1), some (.int l2), some (.int l3), some (.int l4), some (.int l5), none] [] (ct_h g τ s, n) Q := by
  intro f
  induction f with
  | zero => intro l4 l5 h; rw [o_X2_firstThatCanComeIn_6] at h; cases h
  | succ f ih =>
   intro l4 l5 h
   rw [o_X2_firstThatCanComeIn_6] at h
   refine jg_iload dX2_firstThatCanComeIn_6 rfl ?_
   refine jg_aload_n dX2_firstThatCanComeIn_8 rfl ?_
   refine cs_get (s := s) (w := .ref (b + 27)) fl_X2_45 dX2_firstThatCanComeIn_9 hB.ob0 rfl ?_
   refine cs_get (s := s) (w := .int (s.1 (b + 27) 3)) fl_X2_156 dX2_firstThatCanComeIn_12 (hB.ob 27 (by decide) rfl) rfl ?_
   refine jg_icmp_ge (x := l5) (y := (s.1 (b + 27) 3)) (tgt := 92) dX2_firstThatCanComeIn_15 (by decide) (fun c1 => ?_) (fun c1 => ?_)
   · replace h := it_t c1 h
     refine jg_fg (L' := [none, none, none, none, some (.int l4), none, none]) (by repeat (first | exact trivial | refine ⟨rfl, ?_⟩ | show jg_le _ _)) ?_
     obtain rfl := Option.some.inj h
     exact K1
   · replace h := it_f c1 h
     refine jg_aload_n dX2_firstThatCanComeIn_18 rfl ?_
     refine cs_get (s := s) (w := .ref (b + 27)) fl_X2_45 dX2_firstThatCanComeIn_19 hB.ob0 rfl ?_
     refine cs_get (s := s) (w := .ref (b + 39)) fl_X2_159 dX2_firstThatCanComeIn_22 (hB.ob 27 (by decide) rfl) rfl ?_
     refine jg_iload dX2_firstThatCanComeIn_25 rfl ?_
     obtain ⟨q2, h⟩ := gd_some h
     refine cs_ldr (s := s) (q := (b + 39)) (i := l5) (kd := 6) (by decide) dX2_firstThatCanComeIn_27 (hB.ar 39 (by decide) rfl) q2 ?_
     refine jg_astore (L' := [some (.ref b), some (.int l1), some (.int l2), some (.int l3), some (.int l4), some (.int l5), some (.ref (b + 39 + 1 + l5.toNatClampNeg))]) dX2_firstThatCanComeIn_28 (by decide) rfl ?_
     refine jg_aload dX2_firstThatCanComeIn_30 rfl ?_
     refine cs_get (s := s) (w := .int (s.1 (b + 39 + 1 + l5.toNatClampNeg) 10)) fl_X2_163 dX2_firstThatCanComeIn_32 (hB.ship q2.2) rfl ?_
     refine jg_if_ne (x := (s.1 (b + 39 + 1 + l5.toNatClampNeg) 10)) (tgt := 86) dX2_firstThatCanComeIn_35 (by decide) (fun c3 => ?_) (fun c3 => ?_)
     · replace h := it_f c3 h
       refine jg_iinc (x := l5) (v := l5 + nI 1) (L' := [some (.ref b), some (.int l1), some (.int l2), some (.int l3), some (.int l4), some (.int (l5 + nI 1)), some (.ref (b + 39 + 1 + l5.toNatClampNeg))]) dX2_firstThatCanComeIn_86 rfl (ic_k _ (by decide)) (by decide) rfl ?_
       refine jg_goto (tgt := 6) dX2_firstThatCanComeIn_89 (by decide) ?_
       refine jg_fg (L' := [some (.ref b), some (.int l1), some (.int l2), some (.int l3), some (.int l4), some (.int (l5 + nI 1)), none]) (by repeat (first | exact trivial | refine ⟨rfl, ?_⟩ | show jg_le _ _)) ?_
       exact ih l4 (l5 + nI 1) h
     · replace h := it_t c3 h
       refine jg_aload dX2_firstThatCanComeIn_38 rfl ?_
       refine cs_get (s := s) (w := .int (s.1 (b + 39 + 1 + l5.toNatClampNeg) 4)) fl_X2_269 dX2_firstThatCanComeIn_40 (hB.ship q2.2) rfl ?_
       refine jg_iload_n dX2_firstThatCanComeIn_43 rfl ?_
       refine jg_icmp_gt (x := (s.1 (b + 39 + 1 + l5.toNatClampNeg) 4)) (y := l1) (tgt := 86) dX2_firstThatCanComeIn_44 (by decide) (fun c4 => ?_) (fun c4 => ?_)
       · replace h := it_t c4 h
         refine jg_iinc (x := l5) (v := l5 + nI 1) (L' := [some (.ref b), some (.int l1), some (.int l2), some (.int l3), some (.int l4), some (.int (l5 + nI 1)), some (.ref (b + 39 + 1 + l5.toNatClampNeg))]) dX2_firstThatCanComeIn_86 rfl (ic_k _ (by decide)) (by decide) rfl ?_
         refine jg_goto (tgt := 6) dX2_firstThatCanComeIn_89 (by decide) ?_
         refine jg_fg (L' := [some (.ref b), some (.int l1), some (.int l2), some (.int l3), some (.int l4), some (.int (l5 + nI 1)), none]) (by repeat (first | exact trivial | refine ⟨rfl, ?_⟩ | show jg_le _ _)) ?_
         exact ih l4 (l5 + nI 1) h
       · replace h := it_f c4 h
         refine jg_iload dX2_firstThatCanComeIn_47 rfl ?_
         refine jg_iconst (v := (-1)) dX2_firstThatCanComeIn_49 (by decide) ?_
         refine jg_icmp_eq (x := l4) (y := (-1)) (tgt := 68) dX2_firstThatCanComeIn_50 (by decide) (fun c5 => ?_) (fun c5 => ?_)
         · replace h := it_t c5 h
           refine jg_aload_n dX2_firstThatCanComeIn_68 rfl ?_
           refine cs_get (s := s) (w := .ref (b + 27)) fl_X2_45 dX2_firstThatCanComeIn_69 hB.ob0 rfl ?_
           refine jg_aload dX2_firstThatCanComeIn_72 rfl ?_
           refine jg_iload_n dX2_firstThatCanComeIn_74 rfl ?_
           obtain ⟨x6, e_x6, h⟩ := bd_some h
           refine cs_call (q := (b + 27)) (As := [.ref (b + 39 + 1 + l5.toNatClampNeg), .int l2]) kv_X2_231 dX2_firstThatCanComeIn_75 (hB.ob 27 (by decide) rfl) rfl rfl (by decide) (Nat.le_of_ble_eq_true rfl) rfl (by decide) (Nat.le_of_ble_eq_true rfl) (t_X5_firstBerthFor F τ n b (b + 39 + 1 + l5.toNatClampNeg) s l2 hB (hB.ship q2.2) e_x6) ?_
           refine jg_iconst (v := (-1)) dX2_firstThatCanComeIn_78 (by decide) ?_
           refine jg_icmp_eq (x := x6) (y := (-1)) (tgt := 86) dX2_firstThatCanComeIn_79 (by decide) (fun c7 => ?_) (fun c7 => ?_)
           · replace h := it_t c7 h
             refine jg_iinc (x := l5) (v := l5 + nI 1) (L' := [some (.ref b), some (.int l1), some (.int l2), some (.int l3), some (.int l4), some (.int (l5 + nI 1)), some (.ref (b + 39 + 1 + l5.toNatClampNeg))]) dX2_firstThatCanComeIn_86 rfl (ic_k _ (by decide)) (by decide) rfl ?_
             refine jg_goto (tgt := 6) dX2_firstThatCanComeIn_89 (by decide) ?_
             refine jg_fg (L' := [some (.ref b), some (.int l1), some (.int l2), some (.int l3), some (.int l4), some (.int (l5 + nI 1)), none]) (by repeat (first | exact trivial | refine ⟨rfl, ?_⟩ | show jg_le _ _)) ?_
             exact ih l4 (l5 + nI 1) h
           · replace h := it_f c7 h
             refine jg_iload dX2_firstThatCanComeIn_82 rfl ?_
             refine jg_istore (L' := [some (.ref b), some (.int l1), some (.int l2), some (.int l3), some (.int l5), some (.int l5), some (.ref (b + 39 + 1 + l5.toNatClampNeg))]) dX2_firstThatCanComeIn_84 (by decide) rfl ?_
             refine jg_iinc (x := l5) (v := l5 + nI 1) (L' := [some (.ref b), some (.int l1), some (.int l2), some (.int l3), some (.int l5), some (.int (l5 + nI 1)), some (.ref (b + 39 + 1 + l5.toNatClampNeg))]) dX2_firstThatCanComeIn_86 rfl (ic_k _ (by decide)) (by decide) rfl ?_
             refine jg_goto (tgt := 6) dX2_firstThatCanComeIn_89 (by decide) ?_
             refine jg_fg (L' := [some (.ref b), some (.int l1), some (.int l2), some (.int l3), some (.int l5), some (.int (l5 + nI 1)), none]) (by repeat (first | exact trivial | refine ⟨rfl, ?_⟩ | show jg_le _ _)) ?_
             exact ih l5 (l5 + nI 1) h
         · replace h := it_f c5 h
           refine jg_aload_n dX2_firstThatCanComeIn_53 rfl ?_
           refine cs_get (s := s) (w := .ref (b + 27)) fl_X2_45 dX2_firstThatCanComeIn_54 hB.ob0 rfl ?_
           refine jg_iload dX2_firstThatCanComeIn_57 rfl ?_
           refine jg_iload dX2_firstThatCanComeIn_59 rfl ?_
           refine jg_iload_n dX2_firstThatCanComeIn_61 rfl ?_
           obtain ⟨x8, e_x8, h⟩ := bd_some h
           refine cs_call (q := (b + 27)) (As := [.int l5, .int l4, .int l3]) kv_X2_272 dX2_firstThatCanComeIn_62 (hB.ob 27 (by decide) rfl) rfl rfl (by decide) (Nat.le_of_ble_eq_true rfl) rfl (by decide) (Nat.le_of_ble_eq_true rfl) (t_X5_isAhead τ n b s l5 l4 l3 hB e_x8) ?_
           refine jg_if_eq (x := x8) (tgt := 86) dX2_firstThatCanComeIn_65 (by decide) (fun c9 => ?_) (fun c9 => ?_)
           · replace h := it_t c9 h
             refine jg_iinc (x := l5) (v := l5 + nI 1) (L' := [some (.ref b), some (.int l1), some (.int l2), some (.int l3), some (.int l4), some (.int (l5 + nI 1)), some (.ref (b + 39 + 1 + l5.toNatClampNeg))]) dX2_firstThatCanComeIn_86 rfl (ic_k _ (by decide)) (by decide) rfl ?_
             refine jg_goto (tgt := 6) dX2_firstThatCanComeIn_89 (by decide) ?_
             refine jg_fg (L' := [some (.ref b), some (.int l1), some (.int l2), some (.int l3), some (.int l4), some (.int (l5 + nI 1)), none]) (by repeat (first | exact trivial | refine ⟨rfl, ?_⟩ | show jg_le _ _)) ?_
             exact ih l4 (l5 + nI 1) h
           · replace h := it_f c9 h
             refine jg_aload_n dX2_firstThatCanComeIn_68 rfl ?_
             refine cs_get (s := s) (w := .ref (b + 27)) fl_X2_45 dX2_firstThatCanComeIn_69 hB.ob0 rfl ?_
             refine jg_aload dX2_firstThatCanComeIn_72 rfl ?_
             refine jg_iload_n dX2_firstThatCanComeIn_74 rfl ?_
             obtain ⟨x10, e_x10, h⟩ := bd_some h
             refine cs_call (q := (b + 27)) (As := [.ref (b + 39 + 1 + l5.toNatClampNeg), .int l2]) kv_X2_231 dX2_firstThatCanComeIn_75 (hB.ob 27 (by decide) rfl) rfl rfl (by decide) (Nat.le_of_ble_eq_true rfl) rfl (by decide) (Nat.le_of_ble_eq_true rfl) (t_X5_firstBerthFor F τ n b (b + 39 + 1 + l5.toNatClampNeg) s l2 hB (hB.ship q2.2) e_x10) ?_
             refine jg_iconst (v := (-1)) dX2_firstThatCanComeIn_78 (by decide) ?_
             refine jg_icmp_eq (x := x10) (y := (-1)) (tgt := 86) dX2_firstThatCanComeIn_79 (by decide) (fun c11 => ?_) (fun c11 => ?_)
             · replace h := it_t c11 h
               refine jg_iinc (x := l5) (v := l5 + nI 1) (L' := [some (.ref b), some (.int l1), some (.int l2), some (.int l3), some (.int l4), some (.int (l5 + nI 1)), some (.ref (b + 39 + 1 + l5.toNatClampNeg))]) dX2_firstThatCanComeIn_86 rfl (ic_k _ (by decide)) (by decide) rfl ?_
               refine jg_goto (tgt := 6) dX2_firstThatCanComeIn_89 (by decide) ?_
               refine jg_fg (L' := [some (.ref b), some (.int l1), some (.int l2), some (.int l3), some (.int l4), some (.int (l5 + nI 1)), none]) (by repeat (first | exact trivial | refine ⟨rfl, ?_⟩ | show jg_le _ _)) ?_
               exact ih l4 (l5 + nI 1) h
             · replace h := it_f c11 h
               refine jg_iload dX2_firstThatCanComeIn_82 rfl ?_
               refine jg_istore (L' := [some (.ref b), some (.int l1), some (.int l2), some (.int l3), some (.int l5), some (.int l5), some (.ref (b + 39 + 1 + l5.toNatClampNeg))]) dX2_firstThatCanComeIn_84 (by decide) rfl ?_
               refine jg_iinc (x := l5) (v := l5 + nI 1) (L' := [some (.ref b), some (.int l1), some (.int l2), some (.int l3), some (.int l5), some (.int (l5 + nI 1)), some (.ref (b + 39 + 1 + l5.toNatClampNeg))]) dX2_firstThatCanComeIn_86 rfl (ic_k _ (by decide)) (by decide) rfl ?_
               refine jg_goto (tgt := 6) dX2_firstThatCanComeIn_89 (by decide) ?_
               refine jg_fg (L' := [some (.ref b), some (.int l1), some (.int l2), some (.int l3), some (.int l5), some (.int (l5 + nI 1)), none]) (by repeat (first | exact trivial | refine ⟨rfl, ?_⟩ | show jg_le _ _)) ?_
               exact ih l5 (l5 + nI 1) h
noncomputable def o_X2_firstThatCanComeIn (F : Nat) (τ : cT) (n : Nat) (b : Nat) (s : cS) (a1 : Int32) (a2 : Int32) (a3 : Int32) : Option (Int32) := (o_X2_firstThatCanComeIn_6 F τ n b a1 a2 a3 s F (-1) (nI 0)).bind fun x12 => (some x12)
set_option maxHeartbeats 4000000 in
theorem t_X2_firstThatCanComeIn {Γ : jg_G} {g : Nat → jg_C} (F : Nat) (τ : cT) (n : Nat) (b : Nat) (s : cS) (a1 : Int32) (a2 : Int32) (a3 : Int32) (hB : Bd τ n b) {x : Int32} (h : o_X2_firstThatCanComeIn F τ n b s a1 a2 a3 = some x) : jc Γ mX2_firstThatCanComeIn 3 0 0 [some (.ref b), some (.int a1), some (.int a2), some (.int a3), none, none, none] (ct_h g τ s, n) (.inl (some (.int x))) (ct_h g τ s, n) := by
  refine jc_of ?_
  rw [o_X2_firstThatCanComeIn] at h
  refine jg_iconst (v := (-1)) dX2_firstThatCanComeIn_0 (by decide) ?_
  refine jg_istore (L' := [some (.ref b), some (.int a1), some (.int a2), some (.int a3), some (.int (-1)), none, none]) dX2_firstThatCanComeIn_1 (by decide) rfl ?_
  refine jg_iconst (v := nI 0) dX2_firstThatCanComeIn_3 (by decide) ?_
  refine jg_istore (L' := [some (.ref b), some (.int a1), some (.int a2), some (.int a3), some (.int (-1)), some (.int (nI 0)), none]) dX2_firstThatCanComeIn_4 (by decide) rfl ?_
  obtain ⟨x12, e_x12, h⟩ := bd_some h
  refine jg_fg (L' := [some (.ref b), some (.int a1), some (.int a2), some (.int a3), some (.int (-1)), some (.int (nI 0)), none]) (by repeat (first | exact trivial | refine ⟨rfl, ?_⟩ | show jg_le _ _)) ?_
  refine t_X2_firstThatCanComeIn_6  F τ n b a1 a2 a3 s hB _ (x := x12) ?_ F (-1) (nI 0) e_x12
  refine jg_iload dX2_firstThatCanComeIn_92 rfl ?_
  obtain rfl := Option.some.inj h
  exact jg_ireturn dX2_firstThatCanComeIn_94 rfl ⟨rfl, rfl⟩
theorem dX1_take_0 : decode cX1_take 0 = .ok (.aload_n 0, 1) := by decide +kernel
theorem dX1_take_1 : decode cX1_take 1 = .ok (.iload_n 1, 1) := by decide +kernel
theorem dX1_take_2 : decode cX1_take 2 = .ok (.putfield 33, 3) := by decide +kernel
theorem dX1_take_5 : decode cX1_take 5 = .ok (.aload_n 0, 1) := by decide +kernel
theorem dX1_take_6 : decode cX1_take 6 = .ok (.sipush (-1000), 3) := by decide +kernel
theorem dX1_take_9 : decode cX1_take 9 = .ok (.putfield 36, 3) := by decide +kernel
theorem dX1_take_12 : decode cX1_take 12 = .ok (.return_, 1) := by decide +kernel
noncomputable def o_X1_take (τ : cT) (n : Nat) (p : Nat) (s : cS) (a1 : Int32) : Option (cS) := some (cp (cp s p 7 a1) p 8 (-1000))
set_option maxHeartbeats 4000000 in
theorem t_X1_take {Γ : jg_G} {g : Nat → jg_C} (τ : cT) (n : Nat) (p : Nat) (s : cS) (a1 : Int32) (hp : Ob τ n p 1) {x : cS} (h : o_X1_take τ n p s a1 = some x) : jc Γ mX1_take 0 0 0 [some (.ref p), some (.int a1)] (ct_h g τ s, n) (.inl none) (ct_h g τ x, n) := by
  refine jc_of ?_
  rw [o_X1_take] at h
  refine jg_aload_n dX1_take_0 rfl ?_
  refine jg_iload_n dX1_take_1 rfl ?_
  refine cs_put (s := s) (k := 7) (x := a1) fl_X1_33 dX1_take_2 hp (ltb rfl) (rfl) rfl rfl ?_
  refine jg_aload_n dX1_take_5 rfl ?_
  refine jg_sipush (v := (-1000)) dX1_take_6 (by decide) ?_
  refine cs_put (s := (cp s p 7 a1)) (k := 8) (x := (-1000)) fl_X1_36 dX1_take_9 hp (ltb rfl) (rfl) rfl rfl ?_
  obtain rfl := Option.some.inj h
  exact jg_return dX1_take_12 rfl ⟨rfl, rfl⟩
theorem dX2_comeIn_0 : decode cX2_comeIn 0 = .ok (.iload_n 2, 1) := by decide +kernel
theorem dX2_comeIn_1 : decode cX2_comeIn 1 = .ok (.ifCond .lt 14, 3) := by decide +kernel
theorem dX2_comeIn_4 : decode cX2_comeIn 4 = .ok (.iload_n 2, 1) := by decide +kernel
theorem dX2_comeIn_5 : decode cX2_comeIn 5 = .ok (.aload_n 0, 1) := by decide +kernel
theorem dX2_comeIn_6 : decode cX2_comeIn 6 = .ok (.getfield 45, 3) := by decide +kernel
theorem dX2_comeIn_9 : decode cX2_comeIn 9 = .ok (.getfield 244, 3) := by decide +kernel
theorem dX2_comeIn_12 : decode cX2_comeIn 12 = .ok (.if_icmp .lt 4, 3) := by decide +kernel
theorem dX2_comeIn_15 : decode cX2_comeIn 15 = .ok (.return_, 1) := by decide +kernel
theorem dX2_comeIn_16 : decode cX2_comeIn 16 = .ok (.aload_n 0, 1) := by decide +kernel
theorem dX2_comeIn_17 : decode cX2_comeIn 17 = .ok (.getfield 45, 3) := by decide +kernel
theorem dX2_comeIn_20 : decode cX2_comeIn 20 = .ok (.getfield 159, 3) := by decide +kernel
theorem dX2_comeIn_23 : decode cX2_comeIn 23 = .ok (.iload_n 1, 1) := by decide +kernel
theorem dX2_comeIn_24 : decode cX2_comeIn 24 = .ok (.aaload, 1) := by decide +kernel
theorem dX2_comeIn_25 : decode cX2_comeIn 25 = .ok (.astore_n 3, 1) := by decide +kernel
theorem dX2_comeIn_26 : decode cX2_comeIn 26 = .ok (.aload_n 0, 1) := by decide +kernel
theorem dX2_comeIn_27 : decode cX2_comeIn 27 = .ok (.getfield 45, 3) := by decide +kernel
theorem dX2_comeIn_30 : decode cX2_comeIn 30 = .ok (.getfield 247, 3) := by decide +kernel
theorem dX2_comeIn_33 : decode cX2_comeIn 33 = .ok (.iload_n 2, 1) := by decide +kernel
theorem dX2_comeIn_34 : decode cX2_comeIn 34 = .ok (.aaload, 1) := by decide +kernel
theorem dX2_comeIn_35 : decode cX2_comeIn 35 = .ok (.getfield 258, 3) := by decide +kernel
theorem dX2_comeIn_38 : decode cX2_comeIn 38 = .ok (.istore 4, 2) := by decide +kernel
theorem dX2_comeIn_40 : decode cX2_comeIn 40 = .ok (.aload_n 0, 1) := by decide +kernel
theorem dX2_comeIn_41 : decode cX2_comeIn 41 = .ok (.getfield 18, 3) := by decide +kernel
theorem dX2_comeIn_44 : decode cX2_comeIn 44 = .ok (.aload_n 3, 1) := by decide +kernel
theorem dX2_comeIn_45 : decode cX2_comeIn 45 = .ok (.getfield 269, 3) := by decide +kernel
theorem dX2_comeIn_48 : decode cX2_comeIn 48 = .ok (.aload_n 0, 1) := by decide +kernel
theorem dX2_comeIn_49 : decode cX2_comeIn 49 = .ok (.getfield 18, 3) := by decide +kernel
theorem dX2_comeIn_52 : decode cX2_comeIn 52 = .ok (.getfield 189, 3) := by decide +kernel
theorem dX2_comeIn_55 : decode cX2_comeIn 55 = .ok (.iload 4, 2) := by decide +kernel
theorem dX2_comeIn_57 : decode cX2_comeIn 57 = .ok (.aload_n 0, 1) := by decide +kernel
theorem dX2_comeIn_58 : decode cX2_comeIn 58 = .ok (.getfield 9, 3) := by decide +kernel
theorem dX2_comeIn_61 : decode cX2_comeIn 61 = .ok (.iconst 0, 1) := by decide +kernel
theorem dX2_comeIn_62 : decode cX2_comeIn 62 = .ok (.invokevirtual 181, 3) := by decide +kernel
theorem dX2_comeIn_65 : decode cX2_comeIn 65 = .ok (.ifCond .ne 13, 3) := by decide +kernel
theorem dX2_comeIn_68 : decode cX2_comeIn 68 = .ok (.aload_n 3, 1) := by decide +kernel
theorem dX2_comeIn_69 : decode cX2_comeIn 69 = .ok (.dup, 1) := by decide +kernel
theorem dX2_comeIn_70 : decode cX2_comeIn 70 = .ok (.getfield 192, 3) := by decide +kernel
theorem dX2_comeIn_73 : decode cX2_comeIn 73 = .ok (.iconst 1, 1) := by decide +kernel
theorem dX2_comeIn_74 : decode cX2_comeIn 74 = .ok (.iadd, 1) := by decide +kernel
theorem dX2_comeIn_75 : decode cX2_comeIn 75 = .ok (.putfield 192, 3) := by decide +kernel
theorem dX2_comeIn_78 : decode cX2_comeIn 78 = .ok (.aload_n 3, 1) := by decide +kernel
theorem dX2_comeIn_79 : decode cX2_comeIn 79 = .ok (.iload_n 2, 1) := by decide +kernel
theorem dX2_comeIn_80 : decode cX2_comeIn 80 = .ok (.putfield 171, 3) := by decide +kernel
theorem dX2_comeIn_83 : decode cX2_comeIn 83 = .ok (.aload_n 3, 1) := by decide +kernel
theorem dX2_comeIn_84 : decode cX2_comeIn 84 = .ok (.aload_n 0, 1) := by decide +kernel
theorem dX2_comeIn_85 : decode cX2_comeIn 85 = .ok (.getfield 9, 3) := by decide +kernel
theorem dX2_comeIn_88 : decode cX2_comeIn 88 = .ok (.iload 4, 2) := by decide +kernel
theorem dX2_comeIn_90 : decode cX2_comeIn 90 = .ok (.bipush 6, 2) := by decide +kernel
theorem dX2_comeIn_92 : decode cX2_comeIn 92 = .ok (.idiv, 1) := by decide +kernel
theorem dX2_comeIn_93 : decode cX2_comeIn 93 = .ok (.iadd, 1) := by decide +kernel
theorem dX2_comeIn_94 : decode cX2_comeIn 94 = .ok (.putfield 276, 3) := by decide +kernel
theorem dX2_comeIn_97 : decode cX2_comeIn 97 = .ok (.aload_n 3, 1) := by decide +kernel
theorem dX2_comeIn_98 : decode cX2_comeIn 98 = .ok (.aload_n 3, 1) := by decide +kernel
theorem dX2_comeIn_99 : decode cX2_comeIn 99 = .ok (.getfield 276, 3) := by decide +kernel
theorem dX2_comeIn_102 : decode cX2_comeIn 102 = .ok (.aload_n 0, 1) := by decide +kernel
theorem dX2_comeIn_103 : decode cX2_comeIn 103 = .ok (.getfield 9, 3) := by decide +kernel
theorem dX2_comeIn_106 : decode cX2_comeIn 106 = .ok (.if_icmp .ne 7, 3) := by decide +kernel
theorem dX2_comeIn_109 : decode cX2_comeIn 109 = .ok (.iconst 2, 1) := by decide +kernel
theorem dX2_comeIn_110 : decode cX2_comeIn 110 = .ok (.goto 4, 3) := by decide +kernel
theorem dX2_comeIn_113 : decode cX2_comeIn 113 = .ok (.iconst 1, 1) := by decide +kernel
theorem dX2_comeIn_114 : decode cX2_comeIn 114 = .ok (.putfield 163, 3) := by decide +kernel
theorem dX2_comeIn_117 : decode cX2_comeIn 117 = .ok (.aload_n 0, 1) := by decide +kernel
theorem dX2_comeIn_118 : decode cX2_comeIn 118 = .ok (.getfield 45, 3) := by decide +kernel
theorem dX2_comeIn_121 : decode cX2_comeIn 121 = .ok (.getfield 247, 3) := by decide +kernel
theorem dX2_comeIn_124 : decode cX2_comeIn 124 = .ok (.iload_n 2, 1) := by decide +kernel
theorem dX2_comeIn_125 : decode cX2_comeIn 125 = .ok (.aaload, 1) := by decide +kernel
theorem dX2_comeIn_126 : decode cX2_comeIn 126 = .ok (.iload_n 1, 1) := by decide +kernel
theorem dX2_comeIn_127 : decode cX2_comeIn 127 = .ok (.invokevirtual 279, 3) := by decide +kernel
theorem dX2_comeIn_130 : decode cX2_comeIn 130 = .ok (.aload_n 0, 1) := by decide +kernel
theorem dX2_comeIn_131 : decode cX2_comeIn 131 = .ok (.getfield 45, 3) := by decide +kernel
theorem dX2_comeIn_134 : decode cX2_comeIn 134 = .ok (.iload 4, 2) := by decide +kernel
theorem dX2_comeIn_136 : decode cX2_comeIn 136 = .ok (.bipush 6, 2) := by decide +kernel
theorem dX2_comeIn_138 : decode cX2_comeIn 138 = .ok (.idiv, 1) := by decide +kernel
theorem dX2_comeIn_139 : decode cX2_comeIn 139 = .ok (.iconst 1, 1) := by decide +kernel
theorem dX2_comeIn_140 : decode cX2_comeIn 140 = .ok (.iadd, 1) := by decide +kernel
theorem dX2_comeIn_141 : decode cX2_comeIn 141 = .ok (.invokevirtual 215, 3) := by decide +kernel
theorem dX2_comeIn_144 : decode cX2_comeIn 144 = .ok (.return_, 1) := by decide +kernel
noncomputable def o_X2_comeIn (F : Nat) (τ : cT) (n : Nat) (b : Nat) (s : cS) (a1 : Int32) (a2 : Int32) : Option (cS) := if a2 < 0 then (some s) else (if a2 < (s.1 (b + 27) 1) then (if iL a1 80 then (if iL a2 10 then ((o_X8_bears F τ n b (b + 2) s (s.1 (b + 39 + 1 + a1.toNatClampNeg) 4) (s.1 (b + 28 + 1 + a2.toNatClampNeg) 0) (s.1 b 0) (nI 0)).bind fun x5 => (if x5 = 0 then ((some (cp s (b + 39 + 1 + a1.toNatClampNeg) 18 ((s.1 (b + 39 + 1 + a1.toNatClampNeg) 18) + (nI 1)))).bind fun x13 => ((some (cp (cp x13 (b + 39 + 1 + a1.toNatClampNeg) 11 a2) (b + 39 + 1 + a1.toNatClampNeg) 13 (((cp x13 (b + 39 + 1 + a1.toNatClampNeg) 11 a2).1 b 0) + ((s.1 (b + 28 + 1 + a2.toNatClampNeg) 0) / (nI 6))))).bind fun x14 => (if (x14.1 (b + 39 + 1 + a1.toNatClampNeg) 13) = (x14.1 b 0) then ((o_X1_take τ n (b + 28 + 1 + a2.toNatClampNeg) (cp x14 (b + 39 + 1 + a1.toNatClampNeg) 10 (nI 2)) a1).bind fun x18 => ((o_X5_takePilot F τ n b x18 (((s.1 (b + 28 + 1 + a2.toNatClampNeg) 0) / (nI 6)) + (nI 1))).bind fun x19 => (some x19))) else ((o_X1_take τ n (b + 28 + 1 + a2.toNatClampNeg) (cp x14 (b + 39 + 1 + a1.toNatClampNeg) 10 (nI 1)) a1).bind fun x16 => ((o_X5_takePilot F τ n b x16 (((s.1 (b + 28 + 1 + a2.toNatClampNeg) 0) / (nI 6)) + (nI 1))).bind fun x17 => (some x17)))))) else ((some (cp (cp s (b + 39 + 1 + a1.toNatClampNeg) 11 a2) (b + 39 + 1 + a1.toNatClampNeg) 13 (((cp s (b + 39 + 1 + a1.toNatClampNeg) 11 a2).1 b 0) + ((s.1 (b + 28 + 1 + a2.toNatClampNeg) 0) / (nI 6))))).bind fun x7 => (if (x7.1 (b + 39 + 1 + a1.toNatClampNeg) 13) = (x7.1 b 0) then ((o_X1_take τ n (b + 28 + 1 + a2.toNatClampNeg) (cp x7 (b + 39 + 1 + a1.toNatClampNeg) 10 (nI 2)) a1).bind fun x11 => ((o_X5_takePilot F τ n b x11 (((s.1 (b + 28 + 1 + a2.toNatClampNeg) 0) / (nI 6)) + (nI 1))).bind fun x12 => (some x12))) else ((o_X1_take τ n (b + 28 + 1 + a2.toNatClampNeg) (cp x7 (b + 39 + 1 + a1.toNatClampNeg) 10 (nI 1)) a1).bind fun x9 => ((o_X5_takePilot F τ n b x9 (((s.1 (b + 28 + 1 + a2.toNatClampNeg) 0) / (nI 6)) + (nI 1))).bind fun x10 => (some x10))))))) else none) else none) else (some s))
set_option maxHeartbeats 4000000 in
theorem t_X2_comeIn {Γ : jg_G} {g : Nat → jg_C} (F : Nat) (τ : cT) (n : Nat) (b : Nat) (s : cS) (a1 : Int32) (a2 : Int32) (hB : Bd τ n b) {x : cS} (h : o_X2_comeIn F τ n b s a1 a2 = some x) : jc Γ mX2_comeIn 1 0 0 [some (.ref b), some (.int a1), some (.int a2), none, none] (ct_h g τ s, n) (.inl none) (ct_h g τ x, n) := by
  refine jc_of ?_
  rw [o_X2_comeIn] at h
  refine jg_iload_n dX2_comeIn_0 rfl ?_
  refine jg_if_lt (x := a2) (tgt := 15) dX2_comeIn_1 (by decide) (fun c1 => ?_) (fun c1 => ?_)
  · replace h := it_t c1 h
    obtain rfl := Option.some.inj h
    exact jg_return dX2_comeIn_15 rfl ⟨rfl, rfl⟩
  · replace h := it_f c1 h
    refine jg_iload_n dX2_comeIn_4 rfl ?_
    refine jg_aload_n dX2_comeIn_5 rfl ?_
    refine cs_get (s := s) (w := .ref (b + 27)) fl_X2_45 dX2_comeIn_6 hB.ob0 rfl ?_
    refine cs_get (s := s) (w := .int (s.1 (b + 27) 1)) fl_X2_244 dX2_comeIn_9 (hB.ob 27 (by decide) rfl) rfl ?_
    refine jg_icmp_lt (x := a2) (y := (s.1 (b + 27) 1)) (tgt := 16) dX2_comeIn_12 (by decide) (fun c2 => ?_) (fun c2 => ?_)
    · replace h := it_t c2 h
      refine jg_aload_n dX2_comeIn_16 rfl ?_
      refine cs_get (s := s) (w := .ref (b + 27)) fl_X2_45 dX2_comeIn_17 hB.ob0 rfl ?_
      refine cs_get (s := s) (w := .ref (b + 39)) fl_X2_159 dX2_comeIn_20 (hB.ob 27 (by decide) rfl) rfl ?_
      refine jg_iload_n dX2_comeIn_23 rfl ?_
      obtain ⟨q3, h⟩ := gd_some h
      refine cs_ldr (s := s) (q := (b + 39)) (i := a1) (kd := 6) (by decide) dX2_comeIn_24 (hB.ar 39 (by decide) rfl) q3 ?_
      refine jg_astore_n (L' := [some (.ref b), some (.int a1), some (.int a2), some (.ref (b + 39 + 1 + a1.toNatClampNeg)), none]) dX2_comeIn_25 (by decide) rfl ?_
      refine jg_aload_n dX2_comeIn_26 rfl ?_
      refine cs_get (s := s) (w := .ref (b + 27)) fl_X2_45 dX2_comeIn_27 hB.ob0 rfl ?_
      refine cs_get (s := s) (w := .ref (b + 28)) fl_X2_247 dX2_comeIn_30 (hB.ob 27 (by decide) rfl) rfl ?_
      refine jg_iload_n dX2_comeIn_33 rfl ?_
      obtain ⟨q4, h⟩ := gd_some h
      refine cs_ldr (s := s) (q := (b + 28)) (i := a2) (kd := 5) (by decide) dX2_comeIn_34 (hB.ar 28 (by decide) rfl) q4 ?_
      refine cs_get (s := s) (w := .int (s.1 (b + 28 + 1 + a2.toNatClampNeg) 0)) fl_X2_258 dX2_comeIn_35 (hB.berth q4.2) rfl ?_
      refine jg_istore (L' := [some (.ref b), some (.int a1), some (.int a2), some (.ref (b + 39 + 1 + a1.toNatClampNeg)), some (.int (s.1 (b + 28 + 1 + a2.toNatClampNeg) 0))]) dX2_comeIn_38 (by decide) rfl ?_
      refine jg_aload_n dX2_comeIn_40 rfl ?_
      refine cs_get (s := s) (w := .ref (b + 1)) fl_X2_18 dX2_comeIn_41 hB.ob0 rfl ?_
      refine jg_aload_n dX2_comeIn_44 rfl ?_
      refine cs_get (s := s) (w := .int (s.1 (b + 39 + 1 + a1.toNatClampNeg) 4)) fl_X2_269 dX2_comeIn_45 (hB.ship q3.2) rfl ?_
      refine jg_aload_n dX2_comeIn_48 rfl ?_
      refine cs_get (s := s) (w := .ref (b + 1)) fl_X2_18 dX2_comeIn_49 hB.ob0 rfl ?_
      refine cs_get (s := s) (w := .ref (b + 2)) fl_X2_189 dX2_comeIn_52 (hB.ob 1 (by decide) rfl) rfl ?_
      refine jg_iload dX2_comeIn_55 rfl ?_
      refine jg_aload_n dX2_comeIn_57 rfl ?_
      refine cs_get (s := s) (w := .int (s.1 b 0)) fl_X2_9 dX2_comeIn_58 hB.ob0 rfl ?_
      refine jg_iconst (v := nI 0) dX2_comeIn_61 (by decide) ?_
      obtain ⟨x5, e_x5, h⟩ := bd_some h
      refine cs_call (q := (b + 1)) (As := [.int (s.1 (b + 39 + 1 + a1.toNatClampNeg) 4), .ref (b + 2), .int (s.1 (b + 28 + 1 + a2.toNatClampNeg) 0), .int (s.1 b 0), .int (nI 0)]) kv_X2_181 dX2_comeIn_62 (hB.ob 1 (by decide) rfl) rfl rfl (by decide) (Nat.le_of_ble_eq_true rfl) rfl (by decide) (Nat.le_of_ble_eq_true rfl) (t_X8_bears F τ n b (b + 2) s (s.1 (b + 39 + 1 + a1.toNatClampNeg) 4) (s.1 (b + 28 + 1 + a2.toNatClampNeg) 0) (s.1 b 0) (nI 0) hB (hB.ar 2 (by decide) rfl) e_x5) ?_
      refine jg_if_ne (x := x5) (tgt := 78) dX2_comeIn_65 (by decide) (fun c6 => ?_) (fun c6 => ?_)
      · replace h := it_f c6 h
        refine jg_aload_n dX2_comeIn_78 rfl ?_
        refine jg_iload_n dX2_comeIn_79 rfl ?_
        refine cs_put (s := s) (k := 11) (x := a2) fl_X2_171 dX2_comeIn_80 (hB.ship q3.2) (ltb rfl) (rfl) rfl rfl ?_
        refine jg_aload_n dX2_comeIn_83 rfl ?_
        refine jg_aload_n dX2_comeIn_84 rfl ?_
        refine cs_get (s := (cp s (b + 39 + 1 + a1.toNatClampNeg) 11 a2)) (w := .int ((cp s (b + 39 + 1 + a1.toNatClampNeg) 11 a2).1 b 0)) fl_X2_9 dX2_comeIn_85 hB.ob0 rfl ?_
        refine jg_iload dX2_comeIn_88 rfl ?_
        refine jg_bipush (v := nI 6) dX2_comeIn_90 (by decide) ?_
        refine jg_idiv (x := (s.1 (b + 28 + 1 + a2.toNatClampNeg) 0)) (y := (nI 6)) dX2_comeIn_92 (by decide) ?_
        refine jg_iadd (x := ((cp s (b + 39 + 1 + a1.toNatClampNeg) 11 a2).1 b 0)) (y := ((s.1 (b + 28 + 1 + a2.toNatClampNeg) 0) / (nI 6))) dX2_comeIn_93  ?_
        refine cs_put (s := (cp s (b + 39 + 1 + a1.toNatClampNeg) 11 a2)) (k := 13) (x := (((cp s (b + 39 + 1 + a1.toNatClampNeg) 11 a2).1 b 0) + ((s.1 (b + 28 + 1 + a2.toNatClampNeg) 0) / (nI 6)))) fl_X2_276 dX2_comeIn_94 (hB.ship q3.2) (ltb rfl) (rfl) rfl rfl ?_
        obtain ⟨x7, e_x7, h⟩ := bd_some h
        refine cs_sub (Option.some.inj e_x7) ?_
        refine jg_aload_n dX2_comeIn_97 rfl ?_
        refine jg_aload_n dX2_comeIn_98 rfl ?_
        refine cs_get (s := x7) (w := .int (x7.1 (b + 39 + 1 + a1.toNatClampNeg) 13)) fl_X2_276 dX2_comeIn_99 (hB.ship q3.2) rfl ?_
        refine jg_aload_n dX2_comeIn_102 rfl ?_
        refine cs_get (s := x7) (w := .int (x7.1 b 0)) fl_X2_9 dX2_comeIn_103 hB.ob0 rfl ?_
        refine jg_icmp_ne (x := (x7.1 (b + 39 + 1 + a1.toNatClampNeg) 13)) (y := (x7.1 b 0)) (tgt := 113) dX2_comeIn_106 (by decide) (fun c8 => ?_) (fun c8 => ?_)
        · replace h := it_f c8 h
          refine jg_iconst (v := nI 1) dX2_comeIn_113 (by decide) ?_
          refine cs_put (s := x7) (k := 10) (x := (nI 1)) fl_X2_163 dX2_comeIn_114 (hB.ship q3.2) (ltb rfl) (rfl) rfl rfl ?_
          refine jg_aload_n dX2_comeIn_117 rfl ?_
          refine cs_get (s := (cp x7 (b + 39 + 1 + a1.toNatClampNeg) 10 (nI 1))) (w := .ref (b + 27)) fl_X2_45 dX2_comeIn_118 hB.ob0 rfl ?_
          refine cs_get (s := (cp x7 (b + 39 + 1 + a1.toNatClampNeg) 10 (nI 1))) (w := .ref (b + 28)) fl_X2_247 dX2_comeIn_121 (hB.ob 27 (by decide) rfl) rfl ?_
          refine jg_iload_n dX2_comeIn_124 rfl ?_
          refine cs_ldr (s := (cp x7 (b + 39 + 1 + a1.toNatClampNeg) 10 (nI 1))) (q := (b + 28)) (i := a2) (kd := 5) (by decide) dX2_comeIn_125 (hB.ar 28 (by decide) rfl) q4 ?_
          refine jg_iload_n dX2_comeIn_126 rfl ?_
          obtain ⟨x9, e_x9, h⟩ := bd_some h
          refine cs_call (q := (b + 28 + 1 + a2.toNatClampNeg)) (As := [.int a1]) kv_X2_279 dX2_comeIn_127 (hB.berth q4.2) rfl rfl (by decide) (Nat.le_of_ble_eq_true rfl) rfl (by decide) (Nat.le_of_ble_eq_true rfl) (t_X1_take τ n (b + 28 + 1 + a2.toNatClampNeg) (cp x7 (b + 39 + 1 + a1.toNatClampNeg) 10 (nI 1)) a1 (hB.berth q4.2) e_x9) ?_
          refine jg_aload_n dX2_comeIn_130 rfl ?_
          refine cs_get (s := x9) (w := .ref (b + 27)) fl_X2_45 dX2_comeIn_131 hB.ob0 rfl ?_
          refine jg_iload dX2_comeIn_134 rfl ?_
          refine jg_bipush (v := nI 6) dX2_comeIn_136 (by decide) ?_
          refine jg_idiv (x := (s.1 (b + 28 + 1 + a2.toNatClampNeg) 0)) (y := (nI 6)) dX2_comeIn_138 (by decide) ?_
          refine jg_iconst (v := nI 1) dX2_comeIn_139 (by decide) ?_
          refine jg_iadd (x := ((s.1 (b + 28 + 1 + a2.toNatClampNeg) 0) / (nI 6))) (y := (nI 1)) dX2_comeIn_140  ?_
          obtain ⟨x10, e_x10, h⟩ := bd_some h
          refine cs_call (q := (b + 27)) (As := [.int (((s.1 (b + 28 + 1 + a2.toNatClampNeg) 0) / (nI 6)) + (nI 1))]) kv_X2_215 dX2_comeIn_141 (hB.ob 27 (by decide) rfl) rfl rfl (by decide) (Nat.le_of_ble_eq_true rfl) rfl (by decide) (Nat.le_of_ble_eq_true rfl) (t_X5_takePilot F τ n b x9 (((s.1 (b + 28 + 1 + a2.toNatClampNeg) 0) / (nI 6)) + (nI 1)) hB e_x10) ?_
          obtain rfl := Option.some.inj h
          exact jg_return dX2_comeIn_144 rfl ⟨rfl, rfl⟩
        · replace h := it_t c8 h
          refine jg_iconst (v := nI 2) dX2_comeIn_109 (by decide) ?_
          refine jg_goto (tgt := 114) dX2_comeIn_110 (by decide) ?_
          refine cs_put (s := x7) (k := 10) (x := (nI 2)) fl_X2_163 dX2_comeIn_114 (hB.ship q3.2) (ltb rfl) (rfl) rfl rfl ?_
          refine jg_aload_n dX2_comeIn_117 rfl ?_
          refine cs_get (s := (cp x7 (b + 39 + 1 + a1.toNatClampNeg) 10 (nI 2))) (w := .ref (b + 27)) fl_X2_45 dX2_comeIn_118 hB.ob0 rfl ?_
          refine cs_get (s := (cp x7 (b + 39 + 1 + a1.toNatClampNeg) 10 (nI 2))) (w := .ref (b + 28)) fl_X2_247 dX2_comeIn_121 (hB.ob 27 (by decide) rfl) rfl ?_
          refine jg_iload_n dX2_comeIn_124 rfl ?_
          refine cs_ldr (s := (cp x7 (b + 39 + 1 + a1.toNatClampNeg) 10 (nI 2))) (q := (b + 28)) (i := a2) (kd := 5) (by decide) dX2_comeIn_125 (hB.ar 28 (by decide) rfl) q4 ?_
          refine jg_iload_n dX2_comeIn_126 rfl ?_
          obtain ⟨x11, e_x11, h⟩ := bd_some h
          refine cs_call (q := (b + 28 + 1 + a2.toNatClampNeg)) (As := [.int a1]) kv_X2_279 dX2_comeIn_127 (hB.berth q4.2) rfl rfl (by decide) (Nat.le_of_ble_eq_true rfl) rfl (by decide) (Nat.le_of_ble_eq_true rfl) (t_X1_take τ n (b + 28 + 1 + a2.toNatClampNeg) (cp x7 (b + 39 + 1 + a1.toNatClampNeg) 10 (nI 2)) a1 (hB.berth q4.2) e_x11) ?_
          refine jg_aload_n dX2_comeIn_130 rfl ?_
          refine cs_get (s := x11) (w := .ref (b + 27)) fl_X2_45 dX2_comeIn_131 hB.ob0 rfl ?_
          refine jg_iload dX2_comeIn_134 rfl ?_
          refine jg_bipush (v := nI 6) dX2_comeIn_136 (by decide) ?_
          refine jg_idiv (x := (s.1 (b + 28 + 1 + a2.toNatClampNeg) 0)) (y := (nI 6)) dX2_comeIn_138 (by decide) ?_
          refine jg_iconst (v := nI 1) dX2_comeIn_139 (by decide) ?_
          refine jg_iadd (x := ((s.1 (b + 28 + 1 + a2.toNatClampNeg) 0) / (nI 6))) (y := (nI 1)) dX2_comeIn_140  ?_
          obtain ⟨x12, e_x12, h⟩ := bd_some h
          refine cs_call (q := (b + 27)) (As := [.int (((s.1 (b + 28 + 1 + a2.toNatClampNeg) 0) / (nI 6)) + (nI 1))]) kv_X2_215 dX2_comeIn_141 (hB.ob 27 (by decide) rfl) rfl rfl (by decide) (Nat.le_of_ble_eq_true rfl) rfl (by decide) (Nat.le_of_ble_eq_true rfl) (t_X5_takePilot F τ n b x11 (((s.1 (b + 28 + 1 + a2.toNatClampNeg) 0) / (nI 6)) + (nI 1)) hB e_x12) ?_
          obtain rfl := Option.some.inj h
          exact jg_return dX2_comeIn_144 rfl ⟨rfl, rfl⟩
      · replace h := it_t c6 h
        refine jg_aload_n dX2_comeIn_68 rfl ?_
        refine jg_dup dX2_comeIn_69 rfl ?_
        refine cs_get (s := s) (w := .int (s.1 (b + 39 + 1 + a1.toNatClampNeg) 18)) fl_X2_192 dX2_comeIn_70 (hB.ship q3.2) rfl ?_
        refine jg_iconst (v := nI 1) dX2_comeIn_73 (by decide) ?_
        refine jg_iadd (x := (s.1 (b + 39 + 1 + a1.toNatClampNeg) 18)) (y := (nI 1)) dX2_comeIn_74  ?_
        refine cs_put (s := s) (k := 18) (x := ((s.1 (b + 39 + 1 + a1.toNatClampNeg) 18) + (nI 1))) fl_X2_192 dX2_comeIn_75 (hB.ship q3.2) (ltb rfl) (rfl) rfl rfl ?_
        obtain ⟨x13, e_x13, h⟩ := bd_some h
        refine cs_sub (Option.some.inj e_x13) ?_
        refine jg_aload_n dX2_comeIn_78 rfl ?_
        refine jg_iload_n dX2_comeIn_79 rfl ?_
        refine cs_put (s := x13) (k := 11) (x := a2) fl_X2_171 dX2_comeIn_80 (hB.ship q3.2) (ltb rfl) (rfl) rfl rfl ?_
        refine jg_aload_n dX2_comeIn_83 rfl ?_
        refine jg_aload_n dX2_comeIn_84 rfl ?_
        refine cs_get (s := (cp x13 (b + 39 + 1 + a1.toNatClampNeg) 11 a2)) (w := .int ((cp x13 (b + 39 + 1 + a1.toNatClampNeg) 11 a2).1 b 0)) fl_X2_9 dX2_comeIn_85 hB.ob0 rfl ?_
        refine jg_iload dX2_comeIn_88 rfl ?_
        refine jg_bipush (v := nI 6) dX2_comeIn_90 (by decide) ?_
        refine jg_idiv (x := (s.1 (b + 28 + 1 + a2.toNatClampNeg) 0)) (y := (nI 6)) dX2_comeIn_92 (by decide) ?_
        refine jg_iadd (x := ((cp x13 (b + 39 + 1 + a1.toNatClampNeg) 11 a2).1 b 0)) (y := ((s.1 (b + 28 + 1 + a2.toNatClampNeg) 0) / (nI 6))) dX2_comeIn_93  ?_
        refine cs_put (s := (cp x13 (b + 39 + 1 + a1.toNatClampNeg) 11 a2)) (k := 13) (x := (((cp x13 (b + 39 + 1 + a1.toNatClampNeg) 11 a2).1 b 0) + ((s.1 (b + 28 + 1 + a2.toNatClampNeg) 0) / (nI 6)))) fl_X2_276 dX2_comeIn_94 (hB.ship q3.2) (ltb rfl) (rfl) rfl rfl ?_
        obtain ⟨x14, e_x14, h⟩ := bd_some h
        refine cs_sub (Option.some.inj e_x14) ?_
        refine jg_aload_n dX2_comeIn_97 rfl ?_
        refine jg_aload_n dX2_comeIn_98 rfl ?_
        refine cs_get (s := x14) (w := .int (x14.1 (b + 39 + 1 + a1.toNatClampNeg) 13)) fl_X2_276 dX2_comeIn_99 (hB.ship q3.2) rfl ?_
        refine jg_aload_n dX2_comeIn_102 rfl ?_
        refine cs_get (s := x14) (w := .int (x14.1 b 0)) fl_X2_9 dX2_comeIn_103 hB.ob0 rfl ?_
        refine jg_icmp_ne (x := (x14.1 (b + 39 + 1 + a1.toNatClampNeg) 13)) (y := (x14.1 b 0)) (tgt := 113) dX2_comeIn_106 (by decide) (fun c15 => ?_) (fun c15 => ?_)
        · replace h := it_f c15 h
          refine jg_iconst (v := nI 1) dX2_comeIn_113 (by decide) ?_
          refine cs_put (s := x14) (k := 10) (x := (nI 1)) fl_X2_163 dX2_comeIn_114 (hB.ship q3.2) (ltb rfl) (rfl) rfl rfl ?_
          refine jg_aload_n dX2_comeIn_117 rfl ?_
          refine cs_get (s := (cp x14 (b + 39 + 1 + a1.toNatClampNeg) 10 (nI 1))) (w := .ref (b + 27)) fl_X2_45 dX2_comeIn_118 hB.ob0 rfl ?_
          refine cs_get (s := (cp x14 (b + 39 + 1 + a1.toNatClampNeg) 10 (nI 1))) (w := .ref (b + 28)) fl_X2_247 dX2_comeIn_121 (hB.ob 27 (by decide) rfl) rfl ?_
          refine jg_iload_n dX2_comeIn_124 rfl ?_
          refine cs_ldr (s := (cp x14 (b + 39 + 1 + a1.toNatClampNeg) 10 (nI 1))) (q := (b + 28)) (i := a2) (kd := 5) (by decide) dX2_comeIn_125 (hB.ar 28 (by decide) rfl) q4 ?_
          refine jg_iload_n dX2_comeIn_126 rfl ?_
          obtain ⟨x16, e_x16, h⟩ := bd_some h
          refine cs_call (q := (b + 28 + 1 + a2.toNatClampNeg)) (As := [.int a1]) kv_X2_279 dX2_comeIn_127 (hB.berth q4.2) rfl rfl (by decide) (Nat.le_of_ble_eq_true rfl) rfl (by decide) (Nat.le_of_ble_eq_true rfl) (t_X1_take τ n (b + 28 + 1 + a2.toNatClampNeg) (cp x14 (b + 39 + 1 + a1.toNatClampNeg) 10 (nI 1)) a1 (hB.berth q4.2) e_x16) ?_
          refine jg_aload_n dX2_comeIn_130 rfl ?_
          refine cs_get (s := x16) (w := .ref (b + 27)) fl_X2_45 dX2_comeIn_131 hB.ob0 rfl ?_
          refine jg_iload dX2_comeIn_134 rfl ?_
          refine jg_bipush (v := nI 6) dX2_comeIn_136 (by decide) ?_
          refine jg_idiv (x := (s.1 (b + 28 + 1 + a2.toNatClampNeg) 0)) (y := (nI 6)) dX2_comeIn_138 (by decide) ?_
          refine jg_iconst (v := nI 1) dX2_comeIn_139 (by decide) ?_
          refine jg_iadd (x := ((s.1 (b + 28 + 1 + a2.toNatClampNeg) 0) / (nI 6))) (y := (nI 1)) dX2_comeIn_140  ?_
          obtain ⟨x17, e_x17, h⟩ := bd_some h
          refine cs_call (q := (b + 27)) (As := [.int (((s.1 (b + 28 + 1 + a2.toNatClampNeg) 0) / (nI 6)) + (nI 1))]) kv_X2_215 dX2_comeIn_141 (hB.ob 27 (by decide) rfl) rfl rfl (by decide) (Nat.le_of_ble_eq_true rfl) rfl (by decide) (Nat.le_of_ble_eq_true rfl) (t_X5_takePilot F τ n b x16 (((s.1 (b + 28 + 1 + a2.toNatClampNeg) 0) / (nI 6)) + (nI 1)) hB e_x17) ?_
          obtain rfl := Option.some.inj h
          exact jg_return dX2_comeIn_144 rfl ⟨rfl, rfl⟩
        · replace h := it_t c15 h
          refine jg_iconst (v := nI 2) dX2_comeIn_109 (by decide) ?_
          refine jg_goto (tgt := 114) dX2_comeIn_110 (by decide) ?_
          refine cs_put (s := x14) (k := 10) (x := (nI 2)) fl_X2_163 dX2_comeIn_114 (hB.ship q3.2) (ltb rfl) (rfl) rfl rfl ?_
          refine jg_aload_n dX2_comeIn_117 rfl ?_
          refine cs_get (s := (cp x14 (b + 39 + 1 + a1.toNatClampNeg) 10 (nI 2))) (w := .ref (b + 27)) fl_X2_45 dX2_comeIn_118 hB.ob0 rfl ?_
          refine cs_get (s := (cp x14 (b + 39 + 1 + a1.toNatClampNeg) 10 (nI 2))) (w := .ref (b + 28)) fl_X2_247 dX2_comeIn_121 (hB.ob 27 (by decide) rfl) rfl ?_
          refine jg_iload_n dX2_comeIn_124 rfl ?_
          refine cs_ldr (s := (cp x14 (b + 39 + 1 + a1.toNatClampNeg) 10 (nI 2))) (q := (b + 28)) (i := a2) (kd := 5) (by decide) dX2_comeIn_125 (hB.ar 28 (by decide) rfl) q4 ?_
          refine jg_iload_n dX2_comeIn_126 rfl ?_
          obtain ⟨x18, e_x18, h⟩ := bd_some h
          refine cs_call (q := (b + 28 + 1 + a2.toNatClampNeg)) (As := [.int a1]) kv_X2_279 dX2_comeIn_127 (hB.berth q4.2) rfl rfl (by decide) (Nat.le_of_ble_eq_true rfl) rfl (by decide) (Nat.le_of_ble_eq_true rfl) (t_X1_take τ n (b + 28 + 1 + a2.toNatClampNeg) (cp x14 (b + 39 + 1 + a1.toNatClampNeg) 10 (nI 2)) a1 (hB.berth q4.2) e_x18) ?_
          refine jg_aload_n dX2_comeIn_130 rfl ?_
          refine cs_get (s := x18) (w := .ref (b + 27)) fl_X2_45 dX2_comeIn_131 hB.ob0 rfl ?_
          refine jg_iload dX2_comeIn_134 rfl ?_
          refine jg_bipush (v := nI 6) dX2_comeIn_136 (by decide) ?_
          refine jg_idiv (x := (s.1 (b + 28 + 1 + a2.toNatClampNeg) 0)) (y := (nI 6)) dX2_comeIn_138 (by decide) ?_
          refine jg_iconst (v := nI 1) dX2_comeIn_139 (by decide) ?_
          refine jg_iadd (x := ((s.1 (b + 28 + 1 + a2.toNatClampNeg) 0) / (nI 6))) (y := (nI 1)) dX2_comeIn_140  ?_
          obtain ⟨x19, e_x19, h⟩ := bd_some h
          refine cs_call (q := (b + 27)) (As := [.int (((s.1 (b + 28 + 1 + a2.toNatClampNeg) 0) / (nI 6)) + (nI 1))]) kv_X2_215 dX2_comeIn_141 (hB.ob 27 (by decide) rfl) rfl rfl (by decide) (Nat.le_of_ble_eq_true rfl) rfl (by decide) (Nat.le_of_ble_eq_true rfl) (t_X5_takePilot F τ n b x18 (((s.1 (b + 28 + 1 + a2.toNatClampNeg) 0) / (nI 6)) + (nI 1)) hB e_x19) ?_
          obtain rfl := Option.some.inj h
          exact jg_return dX2_comeIn_144 rfl ⟨rfl, rfl⟩
    · replace h := it_f c2 h
      obtain rfl := Option.some.inj h
      exact jg_return dX2_comeIn_15 rfl ⟨rfl, rfl⟩
theorem dX2_shipsComeIn_0 : decode cX2_shipsComeIn 0 = .ok (.aload_n 0, 1) := by decide +kernel
theorem dX2_shipsComeIn_1 : decode cX2_shipsComeIn 1 = .ok (.invokevirtual 224, 3) := by decide +kernel
theorem dX2_shipsComeIn_4 : decode cX2_shipsComeIn 4 = .ok (.iload_n 1, 1) := by decide +kernel
theorem dX2_shipsComeIn_5 : decode cX2_shipsComeIn 5 = .ok (.isub, 1) := by decide +kernel
theorem dX2_shipsComeIn_6 : decode cX2_shipsComeIn 6 = .ok (.istore_n 3, 1) := by decide +kernel
theorem dX2_shipsComeIn_7 : decode cX2_shipsComeIn 7 = .ok (.iconst 0, 1) := by decide +kernel
theorem dX2_shipsComeIn_8 : decode cX2_shipsComeIn 8 = .ok (.istore 4, 2) := by decide +kernel
theorem dX2_shipsComeIn_10 : decode cX2_shipsComeIn 10 = .ok (.iload 4, 2) := by decide +kernel
theorem dX2_shipsComeIn_12 : decode cX2_shipsComeIn 12 = .ok (.bipush 10, 2) := by decide +kernel
theorem dX2_shipsComeIn_14 : decode cX2_shipsComeIn 14 = .ok (.if_icmp .ge 59, 3) := by decide +kernel
theorem dX2_shipsComeIn_17 : decode cX2_shipsComeIn 17 = .ok (.aload_n 0, 1) := by decide +kernel
theorem dX2_shipsComeIn_18 : decode cX2_shipsComeIn 18 = .ok (.getfield 45, 3) := by decide +kernel
theorem dX2_shipsComeIn_21 : decode cX2_shipsComeIn 21 = .ok (.invokevirtual 168, 3) := by decide +kernel
theorem dX2_shipsComeIn_24 : decode cX2_shipsComeIn 24 = .ok (.ifCond .le 49, 3) := by decide +kernel
theorem dX2_shipsComeIn_27 : decode cX2_shipsComeIn 27 = .ok (.aload_n 0, 1) := by decide +kernel
theorem dX2_shipsComeIn_28 : decode cX2_shipsComeIn 28 = .ok (.iload_n 3, 1) := by decide +kernel
theorem dX2_shipsComeIn_29 : decode cX2_shipsComeIn 29 = .ok (.iload_n 1, 1) := by decide +kernel
theorem dX2_shipsComeIn_30 : decode cX2_shipsComeIn 30 = .ok (.iload_n 2, 1) := by decide +kernel
theorem dX2_shipsComeIn_31 : decode cX2_shipsComeIn 31 = .ok (.invokevirtual 227, 3) := by decide +kernel
theorem dX2_shipsComeIn_34 : decode cX2_shipsComeIn 34 = .ok (.istore 5, 2) := by decide +kernel
theorem dX2_shipsComeIn_36 : decode cX2_shipsComeIn 36 = .ok (.iload 5, 2) := by decide +kernel
theorem dX2_shipsComeIn_38 : decode cX2_shipsComeIn 38 = .ok (.iconst (-1), 1) := by decide +kernel
theorem dX2_shipsComeIn_39 : decode cX2_shipsComeIn 39 = .ok (.if_icmp .ne 4, 3) := by decide +kernel
theorem dX2_shipsComeIn_42 : decode cX2_shipsComeIn 42 = .ok (.return_, 1) := by decide +kernel
theorem dX2_shipsComeIn_43 : decode cX2_shipsComeIn 43 = .ok (.aload_n 0, 1) := by decide +kernel
theorem dX2_shipsComeIn_44 : decode cX2_shipsComeIn 44 = .ok (.iload 5, 2) := by decide +kernel
theorem dX2_shipsComeIn_46 : decode cX2_shipsComeIn 46 = .ok (.aload_n 0, 1) := by decide +kernel
theorem dX2_shipsComeIn_47 : decode cX2_shipsComeIn 47 = .ok (.getfield 45, 3) := by decide +kernel
theorem dX2_shipsComeIn_50 : decode cX2_shipsComeIn 50 = .ok (.aload_n 0, 1) := by decide +kernel
theorem dX2_shipsComeIn_51 : decode cX2_shipsComeIn 51 = .ok (.getfield 45, 3) := by decide +kernel
theorem dX2_shipsComeIn_54 : decode cX2_shipsComeIn 54 = .ok (.getfield 159, 3) := by decide +kernel
theorem dX2_shipsComeIn_57 : decode cX2_shipsComeIn 57 = .ok (.iload 5, 2) := by decide +kernel
theorem dX2_shipsComeIn_59 : decode cX2_shipsComeIn 59 = .ok (.aaload, 1) := by decide +kernel
theorem dX2_shipsComeIn_60 : decode cX2_shipsComeIn 60 = .ok (.iload_n 1, 1) := by decide +kernel
theorem dX2_shipsComeIn_61 : decode cX2_shipsComeIn 61 = .ok (.invokevirtual 231, 3) := by decide +kernel
theorem dX2_shipsComeIn_64 : decode cX2_shipsComeIn 64 = .ok (.invokevirtual 235, 3) := by decide +kernel
theorem dX2_shipsComeIn_67 : decode cX2_shipsComeIn 67 = .ok (.iinc 4 1, 3) := by decide +kernel
theorem dX2_shipsComeIn_70 : decode cX2_shipsComeIn 70 = .ok (.goto (-60), 3) := by decide +kernel
theorem dX2_shipsComeIn_73 : decode cX2_shipsComeIn 73 = .ok (.return_, 1) := by decide +kernel
noncomputable def o_X2_shipsComeIn_10 (F : Nat) (τ : cT) (n : Nat) (b : Nat) (l1 : Int32) (l2 : Int32) (l3 : Int32)  : Nat → Int32 → cS → Option ((cS) ⊕ (cS))
  | 0, _, _ => none
  | f + 1, l4, s => if (nI 10) ≤ l4 then (some (.inl s)) else ((o_X5_freePilots τ n b s).bind fun x3 => (if x3 ≤ 0 then (some (.inl s)) else ((o_X2_firstThatCanComeIn F τ n b s l3 l1 l2).bind fun x5 => (if x5 = (-1) then (some (.inr s)) else (if iL x5 80 then ((o_X5_firstBerthFor F τ n b (b + 39 + 1 + x5.toNatClampNeg) s l1).bind fun x8 => ((o_X2_comeIn F τ n b s x5 x8).bind fun x9 => (o_X2_shipsComeIn_10 F τ n b l1 l2 l3 f (l4 + nI 1) x9))) else none)))))
set_option maxHeartbeats 4000000 in
theorem t_X2_shipsComeIn_10 {Γ : jg_G} {g : Nat → jg_C} (F : Nat) (τ : cT) (n : Nat) (b : Nat) (l1 : Int32) (l2 : Int32) (l3 : Int32)  (hB : Bd τ n b) (Q : jg_Q) {x : (cS) ⊕ (cS)} (K1 : ∀ y, x = .inl y → jg Γ mX2_shipsComeIn 4 0 0 73 [none, none, none, none, none, none] [] (ct_h g τ y, n) Q) (K2 : ∀ z, x = .inr z → Q (.inl none) (ct_h g τ z, n)) : ∀ (f : Nat) (l4 : Int32) (s : cS), o_X2_shipsComeIn_10 F τ n b l1 l2 l3 f l4 s = some x → jg Γ mX2_shipsComeIn 4 0 0 10 [some (.ref b), some (.int l1), some (.int l2), some (.int l3), some (.int l4), none] [] (ct_h g τ s, n) Q := by
  intro f
  induction f with
  | zero => intro l4 s h; rw [o_X2_shipsComeIn_10] at h; cases h
  | succ f ih =>
   intro l4 s h
   rw [o_X2_shipsComeIn_10] at h
   refine jg_iload dX2_shipsComeIn_10 rfl ?_
   refine jg_bipush (v := nI 10) dX2_shipsComeIn_12 (by decide) ?_
   refine jg_icmp_ge (x := l4) (y := (nI 10)) (tgt := 73) dX2_shipsComeIn_14 (by decide) (fun c2 => ?_) (fun c2 => ?_)
   · replace h := it_t c2 h
     refine jg_fg (L' := [none, none, none, none, none, none]) (by repeat (first | exact trivial | refine ⟨rfl, ?_⟩ | show jg_le _ _)) ?_
     obtain rfl := Option.some.inj h
     exact K1 _ rfl
   · replace h := it_f c2 h
     refine jg_aload_n dX2_shipsComeIn_17 rfl ?_
     refine cs_get (s := s) (w := .ref (b + 27)) fl_X2_45 dX2_shipsComeIn_18 hB.ob0 rfl ?_
     obtain ⟨x3, e_x3, h⟩ := bd_some h
     refine cs_call (q := (b + 27)) (As := []) kv_X2_168 dX2_shipsComeIn_21 (hB.ob 27 (by decide) rfl) rfl rfl (by decide) (Nat.le_of_ble_eq_true rfl) rfl (by decide) (Nat.le_of_ble_eq_true rfl) (t_X5_freePilots τ n b s hB e_x3) ?_
     refine jg_if_le (x := x3) (tgt := 73) dX2_shipsComeIn_24 (by decide) (fun c4 => ?_) (fun c4 => ?_)
     · replace h := it_t c4 h
       refine jg_fg (L' := [none, none, none, none, none, none]) (by repeat (first | exact trivial | refine ⟨rfl, ?_⟩ | show jg_le _ _)) ?_
       obtain rfl := Option.some.inj h
       exact K1 _ rfl
     · replace h := it_f c4 h
       refine jg_aload_n dX2_shipsComeIn_27 rfl ?_
       refine jg_iload_n dX2_shipsComeIn_28 rfl ?_
       refine jg_iload_n dX2_shipsComeIn_29 rfl ?_
       refine jg_iload_n dX2_shipsComeIn_30 rfl ?_
       obtain ⟨x5, e_x5, h⟩ := bd_some h
       refine cs_call (q := b) (As := [.int l3, .int l1, .int l2]) kv_X2_227 dX2_shipsComeIn_31 hB.ob0 rfl rfl (by decide) (Nat.le_of_ble_eq_true rfl) rfl (by decide) (Nat.le_of_ble_eq_true rfl) (t_X2_firstThatCanComeIn F τ n b s l3 l1 l2 hB e_x5) ?_
       refine jg_istore (L' := [some (.ref b), some (.int l1), some (.int l2), some (.int l3), some (.int l4), some (.int x5)]) dX2_shipsComeIn_34 (by decide) rfl ?_
       refine jg_iload dX2_shipsComeIn_36 rfl ?_
       refine jg_iconst (v := (-1)) dX2_shipsComeIn_38 (by decide) ?_
       refine jg_icmp_ne (x := x5) (y := (-1)) (tgt := 43) dX2_shipsComeIn_39 (by decide) (fun c6 => ?_) (fun c6 => ?_)
       · replace h := it_f c6 h
         refine jg_aload_n dX2_shipsComeIn_43 rfl ?_
         refine jg_iload dX2_shipsComeIn_44 rfl ?_
         refine jg_aload_n dX2_shipsComeIn_46 rfl ?_
         refine cs_get (s := s) (w := .ref (b + 27)) fl_X2_45 dX2_shipsComeIn_47 hB.ob0 rfl ?_
         refine jg_aload_n dX2_shipsComeIn_50 rfl ?_
         refine cs_get (s := s) (w := .ref (b + 27)) fl_X2_45 dX2_shipsComeIn_51 hB.ob0 rfl ?_
         refine cs_get (s := s) (w := .ref (b + 39)) fl_X2_159 dX2_shipsComeIn_54 (hB.ob 27 (by decide) rfl) rfl ?_
         refine jg_iload dX2_shipsComeIn_57 rfl ?_
         obtain ⟨q7, h⟩ := gd_some h
         refine cs_ldr (s := s) (q := (b + 39)) (i := x5) (kd := 6) (by decide) dX2_shipsComeIn_59 (hB.ar 39 (by decide) rfl) q7 ?_
         refine jg_iload_n dX2_shipsComeIn_60 rfl ?_
         obtain ⟨x8, e_x8, h⟩ := bd_some h
         refine cs_call (q := (b + 27)) (As := [.ref (b + 39 + 1 + x5.toNatClampNeg), .int l1]) kv_X2_231 dX2_shipsComeIn_61 (hB.ob 27 (by decide) rfl) rfl rfl (by decide) (Nat.le_of_ble_eq_true rfl) rfl (by decide) (Nat.le_of_ble_eq_true rfl) (t_X5_firstBerthFor F τ n b (b + 39 + 1 + x5.toNatClampNeg) s l1 hB (hB.ship q7.2) e_x8) ?_
         obtain ⟨x9, e_x9, h⟩ := bd_some h
         refine cs_call (q := b) (As := [.int x5, .int x8]) kv_X2_235 dX2_shipsComeIn_64 hB.ob0 rfl rfl (by decide) (Nat.le_of_ble_eq_true rfl) rfl (by decide) (Nat.le_of_ble_eq_true rfl) (t_X2_comeIn F τ n b s x5 x8 hB e_x9) ?_
         refine jg_iinc (x := l4) (v := l4 + nI 1) (L' := [some (.ref b), some (.int l1), some (.int l2), some (.int l3), some (.int (l4 + nI 1)), some (.int x5)]) dX2_shipsComeIn_67 rfl (ic_k _ (by decide)) (by decide) rfl ?_
         refine jg_goto (tgt := 10) dX2_shipsComeIn_70 (by decide) ?_
         refine jg_fg (L' := [some (.ref b), some (.int l1), some (.int l2), some (.int l3), some (.int (l4 + nI 1)), none]) (by repeat (first | exact trivial | refine ⟨rfl, ?_⟩ | show jg_le _ _)) ?_
         exact ih (l4 + nI 1) x9 h
       · replace h := it_t c6 h
         obtain rfl := Option.some.inj h
         exact jg_return dX2_shipsComeIn_42 rfl (K2 _ rfl)
noncomputable def o_X2_shipsComeIn (F : Nat) (τ : cT) (n : Nat) (b : Nat) (s : cS) (a1 : Int32) (a2 : Int32) : Option (cS) := (o_X2_deepestWayIn F τ n b s).bind fun x1 => ((o_X2_shipsComeIn_10 F τ n b a1 a2 (x1.1 - a1) F (nI 0) x1.2).bind fun x10 => (Sum.elim (fun y11 => some y11) (fun z12 => some z12) x10))
set_option maxHeartbeats 4000000 in
theorem t_X2_shipsComeIn {Γ : jg_G} {g : Nat → jg_C} (F : Nat) (τ : cT) (n : Nat) (b : Nat) (s : cS) (a1 : Int32) (a2 : Int32) (hB : Bd τ n b) {x : cS} (h : o_X2_shipsComeIn F τ n b s a1 a2 = some x) : jc Γ mX2_shipsComeIn 4 0 0 [some (.ref b), some (.int a1), some (.int a2), none, none, none] (ct_h g τ s, n) (.inl none) (ct_h g τ x, n) := by
  refine jc_of ?_
  rw [o_X2_shipsComeIn] at h
  refine jg_aload_n dX2_shipsComeIn_0 rfl ?_
  obtain ⟨x1, e_x1, h⟩ := bd_some h
  refine cs_call (q := b) (As := []) kv_X2_224 dX2_shipsComeIn_1 hB.ob0 rfl rfl (by decide) (Nat.le_of_ble_eq_true rfl) rfl (by decide) (Nat.le_of_ble_eq_true rfl) (t_X2_deepestWayIn F τ n b s hB e_x1) ?_
  refine jg_iload_n dX2_shipsComeIn_4 rfl ?_
  refine jg_isub (x := x1.1) (y := a1) dX2_shipsComeIn_5  ?_
  refine jg_istore_n (L' := [some (.ref b), some (.int a1), some (.int a2), some (.int (x1.1 - a1)), none, none]) dX2_shipsComeIn_6 (by decide) rfl ?_
  refine jg_iconst (v := nI 0) dX2_shipsComeIn_7 (by decide) ?_
  refine jg_istore (L' := [some (.ref b), some (.int a1), some (.int a2), some (.int (x1.1 - a1)), some (.int (nI 0)), none]) dX2_shipsComeIn_8 (by decide) rfl ?_
  obtain ⟨x10, e_x10, h⟩ := bd_some h
  refine jg_fg (L' := [some (.ref b), some (.int a1), some (.int a2), some (.int (x1.1 - a1)), some (.int (nI 0)), none]) (by repeat (first | exact trivial | refine ⟨rfl, ?_⟩ | show jg_le _ _)) ?_
  refine t_X2_shipsComeIn_10  F τ n b a1 a2 (x1.1 - a1) hB _ (x := x10) ?_ ?_ F (nI 0) x1.2 e_x10
  · intro y11 ey; subst ey; replace h := se_l h
    obtain rfl := Option.some.inj h
    exact jg_return dX2_shipsComeIn_73 rfl ⟨rfl, rfl⟩
  · intro z12 ez; subst ez; replace h := se_r h
    obtain rfl := Option.some.inj h
    exact ⟨rfl, rfl⟩
theorem dX5_unload_0 : decode cX5_unload 0 = .ok (.iconst 0, 1) := by decide +kernel
theorem dX5_unload_1 : decode cX5_unload 1 = .ok (.istore_n 1, 1) := by decide +kernel
theorem dX5_unload_2 : decode cX5_unload 2 = .ok (.iload_n 1, 1) := by decide +kernel
theorem dX5_unload_3 : decode cX5_unload 3 = .ok (.aload_n 0, 1) := by decide +kernel
theorem dX5_unload_4 : decode cX5_unload 4 = .ok (.getfield 38, 3) := by decide +kernel
theorem dX5_unload_7 : decode cX5_unload 7 = .ok (.if_icmp .ge 96, 3) := by decide +kernel
theorem dX5_unload_10 : decode cX5_unload 10 = .ok (.aload_n 0, 1) := by decide +kernel
theorem dX5_unload_11 : decode cX5_unload 11 = .ok (.iload_n 1, 1) := by decide +kernel
theorem dX5_unload_12 : decode cX5_unload 12 = .ok (.invokevirtual 95, 3) := by decide +kernel
theorem dX5_unload_15 : decode cX5_unload 15 = .ok (.astore_n 2, 1) := by decide +kernel
theorem dX5_unload_16 : decode cX5_unload 16 = .ok (.aload_n 2, 1) := by decide +kernel
theorem dX5_unload_17 : decode cX5_unload 17 = .ok (.ifnull 80, 3) := by decide +kernel
theorem dX5_unload_20 : decode cX5_unload 20 = .ok (.aload_n 2, 1) := by decide +kernel
theorem dX5_unload_21 : decode cX5_unload 21 = .ok (.getfield 74, 3) := by decide +kernel
theorem dX5_unload_24 : decode cX5_unload 24 = .ok (.iconst 2, 1) := by decide +kernel
theorem dX5_unload_25 : decode cX5_unload 25 = .ok (.if_icmp .ne 72, 3) := by decide +kernel
theorem dX5_unload_28 : decode cX5_unload 28 = .ok (.aload_n 0, 1) := by decide +kernel
theorem dX5_unload_29 : decode cX5_unload 29 = .ok (.getfield 11, 3) := by decide +kernel
theorem dX5_unload_32 : decode cX5_unload 32 = .ok (.iload_n 1, 1) := by decide +kernel
theorem dX5_unload_33 : decode cX5_unload 33 = .ok (.aaload, 1) := by decide +kernel
theorem dX5_unload_34 : decode cX5_unload 34 = .ok (.getfield 102, 3) := by decide +kernel
theorem dX5_unload_37 : decode cX5_unload 37 = .ok (.aload_n 2, 1) := by decide +kernel
theorem dX5_unload_38 : decode cX5_unload 38 = .ok (.getfield 105, 3) := by decide +kernel
theorem dX5_unload_41 : decode cX5_unload 41 = .ok (.invokestatic 108, 3) := by decide +kernel
theorem dX5_unload_44 : decode cX5_unload 44 = .ok (.istore_n 3, 1) := by decide +kernel
theorem dX5_unload_45 : decode cX5_unload 45 = .ok (.aload_n 2, 1) := by decide +kernel
theorem dX5_unload_46 : decode cX5_unload 46 = .ok (.dup, 1) := by decide +kernel
theorem dX5_unload_47 : decode cX5_unload 47 = .ok (.getfield 105, 3) := by decide +kernel
theorem dX5_unload_50 : decode cX5_unload 50 = .ok (.iload_n 3, 1) := by decide +kernel
theorem dX5_unload_51 : decode cX5_unload 51 = .ok (.isub, 1) := by decide +kernel
theorem dX5_unload_52 : decode cX5_unload 52 = .ok (.putfield 105, 3) := by decide +kernel
theorem dX5_unload_55 : decode cX5_unload 55 = .ok (.aload_n 0, 1) := by decide +kernel
theorem dX5_unload_56 : decode cX5_unload 56 = .ok (.getfield 11, 3) := by decide +kernel
theorem dX5_unload_59 : decode cX5_unload 59 = .ok (.iload_n 1, 1) := by decide +kernel
theorem dX5_unload_60 : decode cX5_unload 60 = .ok (.aaload, 1) := by decide +kernel
theorem dX5_unload_61 : decode cX5_unload 61 = .ok (.dup, 1) := by decide +kernel
theorem dX5_unload_62 : decode cX5_unload 62 = .ok (.getfield 111, 3) := by decide +kernel
theorem dX5_unload_65 : decode cX5_unload 65 = .ok (.iload_n 3, 1) := by decide +kernel
theorem dX5_unload_66 : decode cX5_unload 66 = .ok (.iadd, 1) := by decide +kernel
theorem dX5_unload_67 : decode cX5_unload 67 = .ok (.putfield 111, 3) := by decide +kernel
theorem dX5_unload_70 : decode cX5_unload 70 = .ok (.aload_n 0, 1) := by decide +kernel
theorem dX5_unload_71 : decode cX5_unload 71 = .ok (.getfield 11, 3) := by decide +kernel
theorem dX5_unload_74 : decode cX5_unload 74 = .ok (.iload_n 1, 1) := by decide +kernel
theorem dX5_unload_75 : decode cX5_unload 75 = .ok (.aaload, 1) := by decide +kernel
theorem dX5_unload_76 : decode cX5_unload 76 = .ok (.dup, 1) := by decide +kernel
theorem dX5_unload_77 : decode cX5_unload 77 = .ok (.getfield 114, 3) := by decide +kernel
theorem dX5_unload_80 : decode cX5_unload 80 = .ok (.iload_n 3, 1) := by decide +kernel
theorem dX5_unload_81 : decode cX5_unload 81 = .ok (.iadd, 1) := by decide +kernel
theorem dX5_unload_82 : decode cX5_unload 82 = .ok (.putfield 114, 3) := by decide +kernel
theorem dX5_unload_85 : decode cX5_unload 85 = .ok (.aload_n 2, 1) := by decide +kernel
theorem dX5_unload_86 : decode cX5_unload 86 = .ok (.getfield 105, 3) := by decide +kernel
theorem dX5_unload_89 : decode cX5_unload 89 = .ok (.ifCond .ne 8, 3) := by decide +kernel
theorem dX5_unload_92 : decode cX5_unload 92 = .ok (.aload_n 2, 1) := by decide +kernel
theorem dX5_unload_93 : decode cX5_unload 93 = .ok (.iconst 3, 1) := by decide +kernel
theorem dX5_unload_94 : decode cX5_unload 94 = .ok (.putfield 74, 3) := by decide +kernel
theorem dX5_unload_97 : decode cX5_unload 97 = .ok (.iinc 1 1, 3) := by decide +kernel
theorem dX5_unload_100 : decode cX5_unload 100 = .ok (.goto (-98), 3) := by decide +kernel
theorem dX5_unload_103 : decode cX5_unload 103 = .ok (.return_, 1) := by decide +kernel
noncomputable def o_X5_unload_2 (F : Nat) (τ : cT) (n : Nat) (b : Nat)  : Nat → Int32 → cS → Option (cS)
  | 0, _, _ => none
  | f + 1, l1, s => if (s.1 (b + 27) 1) ≤ l1 then (some s) else ((o_X5_holderOf τ n b s l1).bind fun x2 => (Option.elim x2 (o_X5_unload_2 F τ n b f (l1 + nI 1) s) (fun y3 => if y3 < n ∧ τ y3 = .inl 9 then (if (s.1 y3 10) = (nI 2) then (if iL l1 10 then ((some (cp s y3 12 ((s.1 y3 12) - (mni (s.1 (b + 28 + 1 + l1.toNatClampNeg) 2) (s.1 y3 12))))).bind fun x6 => ((some (cp x6 (b + 28 + 1 + l1.toNatClampNeg) 4 ((x6.1 (b + 28 + 1 + l1.toNatClampNeg) 4) + (mni (s.1 (b + 28 + 1 + l1.toNatClampNeg) 2) (s.1 y3 12))))).bind fun x7 => ((some (cp x7 (b + 28 + 1 + l1.toNatClampNeg) 6 ((x7.1 (b + 28 + 1 + l1.toNatClampNeg) 6) + (mni (s.1 (b + 28 + 1 + l1.toNatClampNeg) 2) (s.1 y3 12))))).bind fun x8 => (if (x8.1 y3 12) = 0 then (o_X5_unload_2 F τ n b f (l1 + nI 1) (cp x8 y3 10 (nI 3))) else (o_X5_unload_2 F τ n b f (l1 + nI 1) x8))))) else none) else (o_X5_unload_2 F τ n b f (l1 + nI 1) s)) else none)))
set_option maxHeartbeats 4000000 in
theorem t_X5_unload_2 {Γ : jg_G} {g : Nat → jg_C} (F : Nat) (τ : cT) (n : Nat) (b : Nat)  (hB : Bd τ n b) (Q : jg_Q) {x : cS} (K1 : jg Γ mX5_unload 1 0 0 103 [none, none, none, none] [] (ct_h g τ x, n) Q)  : ∀ (f : Nat) (l1 : Int32) (s : cS), o_X5_unload_2 F τ n b f l1 s = some x → jg Γ mX5_unload 1 0 0 2 [some (.ref (b + 27)), some (.int l1), none, none] [] (ct_h g τ s, n) Q := by
  intro f
  induction f with
  | zero => intro l1 s h; rw [o_X5_unload_2] at h; cases h
  | succ f ih =>
   intro l1 s h
   rw [o_X5_unload_2] at h
   refine jg_iload_n dX5_unload_2 rfl ?_
   refine jg_aload_n dX5_unload_3 rfl ?_
   refine cs_get (s := s) (w := .int (s.1 (b + 27) 1)) fl_X5_38 dX5_unload_4 (hB.ob 27 (by decide) rfl) rfl ?_
   refine jg_icmp_ge (x := l1) (y := (s.1 (b + 27) 1)) (tgt := 103) dX5_unload_7 (by decide) (fun c1 => ?_) (fun c1 => ?_)
   · replace h := it_t c1 h
     refine jg_fg (L' := [none, none, none, none]) (by repeat (first | exact trivial | refine ⟨rfl, ?_⟩ | show jg_le _ _)) ?_
     obtain rfl := Option.some.inj h
     exact K1
   · replace h := it_f c1 h
     refine jg_aload_n dX5_unload_10 rfl ?_
     refine jg_iload_n dX5_unload_11 rfl ?_
     obtain ⟨x2, e_x2, h⟩ := bd_some h
     refine cs_call (q := (b + 27)) (As := [.int l1]) kv_X5_95 dX5_unload_12 (hB.ob 27 (by decide) rfl) rfl rfl (by decide) (Nat.le_of_ble_eq_true rfl) rfl (by decide) (Nat.le_of_ble_eq_true rfl) (t_X5_holderOf τ n b s l1 hB e_x2) ?_
     rcases x2 with _ | y3
     · replace h := oe_n h
       refine jg_astore_nN (L' := [some (.ref (b + 27)), some (.int l1), some (.null), none]) dX5_unload_15 (by decide) rfl ?_
       refine jg_aload_nN dX5_unload_16 rfl ?_
       refine jg_ifnullN (tgt := 97) dX5_unload_17 (by decide) ?_
       refine jg_iinc (x := l1) (v := l1 + nI 1) (L' := [some (.ref (b + 27)), some (.int (l1 + nI 1)), some (.null), none]) dX5_unload_97 rfl (ic_k _ (by decide)) (by decide) rfl ?_
       refine jg_goto (tgt := 2) dX5_unload_100 (by decide) ?_
       refine jg_fg (L' := [some (.ref (b + 27)), some (.int (l1 + nI 1)), none, none]) (by repeat (first | exact trivial | refine ⟨rfl, ?_⟩ | show jg_le _ _)) ?_
       exact ih (l1 + nI 1) s h
     · replace h := oe_s h
       obtain ⟨q_y3, h⟩ := gd_some h
       refine jg_astore_n (L' := [some (.ref (b + 27)), some (.int l1), some (.ref y3), none]) dX5_unload_15 (by decide) rfl ?_
       refine jg_aload_n dX5_unload_16 rfl ?_
       refine jg_ifnull dX5_unload_17 ?_
       refine jg_aload_n dX5_unload_20 rfl ?_
       refine cs_get (s := s) (w := .int (s.1 y3 10)) fl_X5_74 dX5_unload_21 q_y3 rfl ?_
       refine jg_iconst (v := nI 2) dX5_unload_24 (by decide) ?_
       refine jg_icmp_ne (x := (s.1 y3 10)) (y := (nI 2)) (tgt := 97) dX5_unload_25 (by decide) (fun c4 => ?_) (fun c4 => ?_)
       · replace h := it_f c4 h
         refine jg_iinc (x := l1) (v := l1 + nI 1) (L' := [some (.ref (b + 27)), some (.int (l1 + nI 1)), some (.ref y3), none]) dX5_unload_97 rfl (ic_k _ (by decide)) (by decide) rfl ?_
         refine jg_goto (tgt := 2) dX5_unload_100 (by decide) ?_
         refine jg_fg (L' := [some (.ref (b + 27)), some (.int (l1 + nI 1)), none, none]) (by repeat (first | exact trivial | refine ⟨rfl, ?_⟩ | show jg_le _ _)) ?_
         exact ih (l1 + nI 1) s h
       · replace h := it_t c4 h
         refine jg_aload_n dX5_unload_28 rfl ?_
         refine cs_get (s := s) (w := .ref (b + 28)) fl_X5_11 dX5_unload_29 (hB.ob 27 (by decide) rfl) rfl ?_
         refine jg_iload_n dX5_unload_32 rfl ?_
         obtain ⟨q5, h⟩ := gd_some h
         refine cs_ldr (s := s) (q := (b + 28)) (i := l1) (kd := 5) (by decide) dX5_unload_33 (hB.ar 28 (by decide) rfl) q5 ?_
         refine cs_get (s := s) (w := .int (s.1 (b + 28 + 1 + l1.toNatClampNeg) 2)) fl_X5_102 dX5_unload_34 (hB.berth q5.2) rfl ?_
         refine jg_aload_n dX5_unload_37 rfl ?_
         refine cs_get (s := s) (w := .int (s.1 y3 12)) fl_X5_105 dX5_unload_38 q_y3 rfl ?_
         refine jg_mmin (x := (s.1 (b + 28 + 1 + l1.toNatClampNeg) 2)) (y := (s.1 y3 12)) km_X5_108 jw_min.1 jw_min.2 dX5_unload_41 (by decide) (Nat.le_of_ble_eq_true rfl) ?_
         refine jg_istore_n (L' := [some (.ref (b + 27)), some (.int l1), some (.ref y3), some (.int (mni (s.1 (b + 28 + 1 + l1.toNatClampNeg) 2) (s.1 y3 12)))]) dX5_unload_44 (by decide) rfl ?_
         refine jg_aload_n dX5_unload_45 rfl ?_
         refine jg_dup dX5_unload_46 rfl ?_
         refine cs_get (s := s) (w := .int (s.1 y3 12)) fl_X5_105 dX5_unload_47 q_y3 rfl ?_
         refine jg_iload_n dX5_unload_50 rfl ?_
         refine jg_isub (x := (s.1 y3 12)) (y := (mni (s.1 (b + 28 + 1 + l1.toNatClampNeg) 2) (s.1 y3 12))) dX5_unload_51  ?_
         refine cs_put (s := s) (k := 12) (x := ((s.1 y3 12) - (mni (s.1 (b + 28 + 1 + l1.toNatClampNeg) 2) (s.1 y3 12)))) fl_X5_105 dX5_unload_52 q_y3 (ltb rfl) (rfl) rfl rfl ?_
         obtain ⟨x6, e_x6, h⟩ := bd_some h
         refine cs_sub (Option.some.inj e_x6) ?_
         refine jg_aload_n dX5_unload_55 rfl ?_
         refine cs_get (s := x6) (w := .ref (b + 28)) fl_X5_11 dX5_unload_56 (hB.ob 27 (by decide) rfl) rfl ?_
         refine jg_iload_n dX5_unload_59 rfl ?_
         refine cs_ldr (s := x6) (q := (b + 28)) (i := l1) (kd := 5) (by decide) dX5_unload_60 (hB.ar 28 (by decide) rfl) q5 ?_
         refine jg_dup dX5_unload_61 rfl ?_
         refine cs_get (s := x6) (w := .int (x6.1 (b + 28 + 1 + l1.toNatClampNeg) 4)) fl_X5_111 dX5_unload_62 (hB.berth q5.2) rfl ?_
         refine jg_iload_n dX5_unload_65 rfl ?_
         refine jg_iadd (x := (x6.1 (b + 28 + 1 + l1.toNatClampNeg) 4)) (y := (mni (s.1 (b + 28 + 1 + l1.toNatClampNeg) 2) (s.1 y3 12))) dX5_unload_66  ?_
         refine cs_put (s := x6) (k := 4) (x := ((x6.1 (b + 28 + 1 + l1.toNatClampNeg) 4) + (mni (s.1 (b + 28 + 1 + l1.toNatClampNeg) 2) (s.1 y3 12)))) fl_X5_111 dX5_unload_67 (hB.berth q5.2) (ltb rfl) (rfl) rfl rfl ?_
         obtain ⟨x7, e_x7, h⟩ := bd_some h
         refine cs_sub (Option.some.inj e_x7) ?_
         refine jg_aload_n dX5_unload_70 rfl ?_
         refine cs_get (s := x7) (w := .ref (b + 28)) fl_X5_11 dX5_unload_71 (hB.ob 27 (by decide) rfl) rfl ?_
         refine jg_iload_n dX5_unload_74 rfl ?_
         refine cs_ldr (s := x7) (q := (b + 28)) (i := l1) (kd := 5) (by decide) dX5_unload_75 (hB.ar 28 (by decide) rfl) q5 ?_
         refine jg_dup dX5_unload_76 rfl ?_
         refine cs_get (s := x7) (w := .int (x7.1 (b + 28 + 1 + l1.toNatClampNeg) 6)) fl_X5_114 dX5_unload_77 (hB.berth q5.2) rfl ?_
         refine jg_iload_n dX5_unload_80 rfl ?_
         refine jg_iadd (x := (x7.1 (b + 28 + 1 + l1.toNatClampNeg) 6)) (y := (mni (s.1 (b + 28 + 1 + l1.toNatClampNeg) 2) (s.1 y3 12))) dX5_unload_81  ?_
         refine cs_put (s := x7) (k := 6) (x := ((x7.1 (b + 28 + 1 + l1.toNatClampNeg) 6) + (mni (s.1 (b + 28 + 1 + l1.toNatClampNeg) 2) (s.1 y3 12)))) fl_X5_114 dX5_unload_82 (hB.berth q5.2) (ltb rfl) (rfl) rfl rfl ?_
         obtain ⟨x8, e_x8, h⟩ := bd_some h
         refine cs_sub (Option.some.inj e_x8) ?_
         refine jg_aload_n dX5_unload_85 rfl ?_
         refine cs_get (s := x8) (w := .int (x8.1 y3 12)) fl_X5_105 dX5_unload_86 q_y3 rfl ?_
         refine jg_if_ne (x := (x8.1 y3 12)) (tgt := 97) dX5_unload_89 (by decide) (fun c9 => ?_) (fun c9 => ?_)
         · replace h := it_f c9 h
           refine jg_iinc (x := l1) (v := l1 + nI 1) (L' := [some (.ref (b + 27)), some (.int (l1 + nI 1)), some (.ref y3), some (.int (mni (s.1 (b + 28 + 1 + l1.toNatClampNeg) 2) (s.1 y3 12)))]) dX5_unload_97 rfl (ic_k _ (by decide)) (by decide) rfl ?_
           refine jg_goto (tgt := 2) dX5_unload_100 (by decide) ?_
           refine jg_fg (L' := [some (.ref (b + 27)), some (.int (l1 + nI 1)), none, none]) (by repeat (first | exact trivial | refine ⟨rfl, ?_⟩ | show jg_le _ _)) ?_
           exact ih (l1 + nI 1) x8 h
         · replace h := it_t c9 h
           refine jg_aload_n dX5_unload_92 rfl ?_
           refine jg_iconst (v := nI 3) dX5_unload_93 (by decide) ?_
           refine cs_put (s := x8) (k := 10) (x := (nI 3)) fl_X5_74 dX5_unload_94 q_y3 (ltb rfl) (rfl) rfl rfl ?_
           refine jg_iinc (x := l1) (v := l1 + nI 1) (L' := [some (.ref (b + 27)), some (.int (l1 + nI 1)), some (.ref y3), some (.int (mni (s.1 (b + 28 + 1 + l1.toNatClampNeg) 2) (s.1 y3 12)))]) dX5_unload_97 rfl (ic_k _ (by decide)) (by decide) rfl ?_
           refine jg_goto (tgt := 2) dX5_unload_100 (by decide) ?_
           refine jg_fg (L' := [some (.ref (b + 27)), some (.int (l1 + nI 1)), none, none]) (by repeat (first | exact trivial | refine ⟨rfl, ?_⟩ | show jg_le _ _)) ?_
           exact ih (l1 + nI 1) (cp x8 y3 10 (nI 3)) h
noncomputable def o_X5_unload (F : Nat) (τ : cT) (n : Nat) (b : Nat) (s : cS) : Option (cS) := (o_X5_unload_2 F τ n b F (nI 0) s).bind fun x10 => (some x10)
set_option maxHeartbeats 4000000 in
theorem t_X5_unload {Γ : jg_G} {g : Nat → jg_C} (F : Nat) (τ : cT) (n : Nat) (b : Nat) (s : cS) (hB : Bd τ n b) {x : cS} (h : o_X5_unload F τ n b s = some x) : jc Γ mX5_unload 1 0 0 [some (.ref (b + 27)), none, none, none] (ct_h g τ s, n) (.inl none) (ct_h g τ x, n) := by
  refine jc_of ?_
  rw [o_X5_unload] at h
  refine jg_iconst (v := nI 0) dX5_unload_0 (by decide) ?_
  refine jg_istore_n (L' := [some (.ref (b + 27)), some (.int (nI 0)), none, none]) dX5_unload_1 (by decide) rfl ?_
  obtain ⟨x10, e_x10, h⟩ := bd_some h
  refine jg_fg (L' := [some (.ref (b + 27)), some (.int (nI 0)), none, none]) (by repeat (first | exact trivial | refine ⟨rfl, ?_⟩ | show jg_le _ _)) ?_
  refine t_X5_unload_2  F τ n b hB _ (x := x10) ?_ F (nI 0) s e_x10
  obtain rfl := Option.some.inj h
  exact jg_return dX5_unload_103 rfl ⟨rfl, rfl⟩
theorem dX5_fullestBerth_0 : decode cX5_fullestBerth 0 = .ok (.iconst (-1), 1) := by decide +kernel
theorem dX5_fullestBerth_1 : decode cX5_fullestBerth 1 = .ok (.istore_n 1, 1) := by decide +kernel
theorem dX5_fullestBerth_2 : decode cX5_fullestBerth 2 = .ok (.iconst 0, 1) := by decide +kernel
theorem dX5_fullestBerth_3 : decode cX5_fullestBerth 3 = .ok (.istore_n 2, 1) := by decide +kernel
theorem dX5_fullestBerth_4 : decode cX5_fullestBerth 4 = .ok (.iconst 0, 1) := by decide +kernel
theorem dX5_fullestBerth_5 : decode cX5_fullestBerth 5 = .ok (.istore_n 3, 1) := by decide +kernel
theorem dX5_fullestBerth_6 : decode cX5_fullestBerth 6 = .ok (.iload_n 3, 1) := by decide +kernel
theorem dX5_fullestBerth_7 : decode cX5_fullestBerth 7 = .ok (.aload_n 0, 1) := by decide +kernel
theorem dX5_fullestBerth_8 : decode cX5_fullestBerth 8 = .ok (.getfield 38, 3) := by decide +kernel
theorem dX5_fullestBerth_11 : decode cX5_fullestBerth 11 = .ok (.if_icmp .ge 34, 3) := by decide +kernel
theorem dX5_fullestBerth_14 : decode cX5_fullestBerth 14 = .ok (.aload_n 0, 1) := by decide +kernel
theorem dX5_fullestBerth_15 : decode cX5_fullestBerth 15 = .ok (.getfield 11, 3) := by decide +kernel
theorem dX5_fullestBerth_18 : decode cX5_fullestBerth 18 = .ok (.iload_n 3, 1) := by decide +kernel
theorem dX5_fullestBerth_19 : decode cX5_fullestBerth 19 = .ok (.aaload, 1) := by decide +kernel
theorem dX5_fullestBerth_20 : decode cX5_fullestBerth 20 = .ok (.getfield 111, 3) := by decide +kernel
theorem dX5_fullestBerth_23 : decode cX5_fullestBerth 23 = .ok (.iload_n 2, 1) := by decide +kernel
theorem dX5_fullestBerth_24 : decode cX5_fullestBerth 24 = .ok (.if_icmp .le 15, 3) := by decide +kernel
theorem dX5_fullestBerth_27 : decode cX5_fullestBerth 27 = .ok (.aload_n 0, 1) := by decide +kernel
theorem dX5_fullestBerth_28 : decode cX5_fullestBerth 28 = .ok (.getfield 11, 3) := by decide +kernel
theorem dX5_fullestBerth_31 : decode cX5_fullestBerth 31 = .ok (.iload_n 3, 1) := by decide +kernel
theorem dX5_fullestBerth_32 : decode cX5_fullestBerth 32 = .ok (.aaload, 1) := by decide +kernel
theorem dX5_fullestBerth_33 : decode cX5_fullestBerth 33 = .ok (.getfield 111, 3) := by decide +kernel
theorem dX5_fullestBerth_36 : decode cX5_fullestBerth 36 = .ok (.istore_n 2, 1) := by decide +kernel
theorem dX5_fullestBerth_37 : decode cX5_fullestBerth 37 = .ok (.iload_n 3, 1) := by decide +kernel
theorem dX5_fullestBerth_38 : decode cX5_fullestBerth 38 = .ok (.istore_n 1, 1) := by decide +kernel
theorem dX5_fullestBerth_39 : decode cX5_fullestBerth 39 = .ok (.iinc 3 1, 3) := by decide +kernel
theorem dX5_fullestBerth_42 : decode cX5_fullestBerth 42 = .ok (.goto (-36), 3) := by decide +kernel
theorem dX5_fullestBerth_45 : decode cX5_fullestBerth 45 = .ok (.iload_n 1, 1) := by decide +kernel
theorem dX5_fullestBerth_46 : decode cX5_fullestBerth 46 = .ok (.ireturn, 1) := by decide +kernel
noncomputable def o_X5_fullestBerth_6 (F : Nat) (τ : cT) (n : Nat) (b : Nat) (s : cS) : Nat → Int32 → Int32 → Int32 → Option (Int32)
  | 0, _, _, _ => none
  | f + 1, l1, l2, l3 => if (s.1 (b + 27) 1) ≤ l3 then (some l1) else (if iL l3 10 then (if (s.1 (b + 28 + 1 + l3.toNatClampNeg) 4) ≤ l2 then (o_X5_fullestBerth_6 F τ n b s f l1 l2 (l3 + nI 1)) else (o_X5_fullestBerth_6 F τ n b s f l3 (s.1 (b + 28 + 1 + l3.toNatClampNeg) 4) (l3 + nI 1))) else none)
set_option maxHeartbeats 4000000 in
theorem t_X5_fullestBerth_6 {Γ : jg_G} {g : Nat → jg_C} (F : Nat) (τ : cT) (n : Nat) (b : Nat) (s : cS) (hB : Bd τ n b) (Q : jg_Q) {x : Int32} (K1 : jg Γ mX5_fullestBerth 0 0 0 45 [none, some (.int x), none, none] [] (ct_h g τ s, n) Q)  : ∀ (f : Nat) (l1 : Int32) (l2 : Int32) (l3 : Int32), o_X5_fullestBerth_6 F τ n b s f l1 l2 l3 = some x → jg Γ mX5_fullestBerth 0 0 0 6 [some (.ref (b + 27)), some (.int l1), some (.int l2), some (.int l3)] [] (ct_h g τ s, n) Q := by
  intro f
  induction f with
  | zero => intro l1 l2 l3 h; rw [o_X5_fullestBerth_6] at h; cases h
  | succ f ih =>
   intro l1 l2 l3 h
   rw [o_X5_fullestBerth_6] at h
   refine jg_iload_n dX5_fullestBerth_6 rfl ?_
   refine jg_aload_n dX5_fullestBerth_7 rfl ?_
   refine cs_get (s := s) (w := .int (s.1 (b + 27) 1)) fl_X5_38 dX5_fullestBerth_8 (hB.ob 27 (by decide) rfl) rfl ?_
   refine jg_icmp_ge (x := l3) (y := (s.1 (b + 27) 1)) (tgt := 45) dX5_fullestBerth_11 (by decide) (fun c1 => ?_) (fun c1 => ?_)
   · replace h := it_t c1 h
     refine jg_fg (L' := [none, some (.int l1), none, none]) (by repeat (first | exact trivial | refine ⟨rfl, ?_⟩ | show jg_le _ _)) ?_
     obtain rfl := Option.some.inj h
     exact K1
   · replace h := it_f c1 h
     refine jg_aload_n dX5_fullestBerth_14 rfl ?_
     refine cs_get (s := s) (w := .ref (b + 28)) fl_X5_11 dX5_fullestBerth_15 (hB.ob 27 (by decide) rfl) rfl ?_
     refine jg_iload_n dX5_fullestBerth_18 rfl ?_
     obtain ⟨q2, h⟩ := gd_some h
     refine cs_ldr (s := s) (q := (b + 28)) (i := l3) (kd := 5) (by decide) dX5_fullestBerth_19 (hB.ar 28 (by decide) rfl) q2 ?_
     refine cs_get (s := s) (w := .int (s.1 (b + 28 + 1 + l3.toNatClampNeg) 4)) fl_X5_111 dX5_fullestBerth_20 (hB.berth q2.2) rfl ?_
     refine jg_iload_n dX5_fullestBerth_23 rfl ?_
     refine jg_icmp_le (x := (s.1 (b + 28 + 1 + l3.toNatClampNeg) 4)) (y := l2) (tgt := 39) dX5_fullestBerth_24 (by decide) (fun c3 => ?_) (fun c3 => ?_)
     · replace h := it_t c3 h
       refine jg_iinc (x := l3) (v := l3 + nI 1) (L' := [some (.ref (b + 27)), some (.int l1), some (.int l2), some (.int (l3 + nI 1))]) dX5_fullestBerth_39 rfl (ic_k _ (by decide)) (by decide) rfl ?_
       refine jg_goto (tgt := 6) dX5_fullestBerth_42 (by decide) ?_
       refine jg_fg (L' := [some (.ref (b + 27)), some (.int l1), some (.int l2), some (.int (l3 + nI 1))]) (by repeat (first | exact trivial | refine ⟨rfl, ?_⟩ | show jg_le _ _)) ?_
       exact ih l1 l2 (l3 + nI 1) h
     · replace h := it_f c3 h
       refine jg_aload_n dX5_fullestBerth_27 rfl ?_
       refine cs_get (s := s) (w := .ref (b + 28)) fl_X5_11 dX5_fullestBerth_28 (hB.ob 27 (by decide) rfl) rfl ?_
       refine jg_iload_n dX5_fullestBerth_31 rfl ?_
       refine cs_ldr (s := s) (q := (b + 28)) (i := l3) (kd := 5) (by decide) dX5_fullestBerth_32 (hB.ar 28 (by decide) rfl) q2 ?_
       refine cs_get (s := s) (w := .int (s.1 (b + 28 + 1 + l3.toNatClampNeg) 4)) fl_X5_111 dX5_fullestBerth_33 (hB.berth q2.2) rfl ?_
       refine jg_istore_n (L' := [some (.ref (b + 27)), some (.int l1), some (.int (s.1 (b + 28 + 1 + l3.toNatClampNeg) 4)), some (.int l3)]) dX5_fullestBerth_36 (by decide) rfl ?_
       refine jg_iload_n dX5_fullestBerth_37 rfl ?_
       refine jg_istore_n (L' := [some (.ref (b + 27)), some (.int l3), some (.int (s.1 (b + 28 + 1 + l3.toNatClampNeg) 4)), some (.int l3)]) dX5_fullestBerth_38 (by decide) rfl ?_
       refine jg_iinc (x := l3) (v := l3 + nI 1) (L' := [some (.ref (b + 27)), some (.int l3), some (.int (s.1 (b + 28 + 1 + l3.toNatClampNeg) 4)), some (.int (l3 + nI 1))]) dX5_fullestBerth_39 rfl (ic_k _ (by decide)) (by decide) rfl ?_
       refine jg_goto (tgt := 6) dX5_fullestBerth_42 (by decide) ?_
       refine jg_fg (L' := [some (.ref (b + 27)), some (.int l3), some (.int (s.1 (b + 28 + 1 + l3.toNatClampNeg) 4)), some (.int (l3 + nI 1))]) (by repeat (first | exact trivial | refine ⟨rfl, ?_⟩ | show jg_le _ _)) ?_
       exact ih l3 (s.1 (b + 28 + 1 + l3.toNatClampNeg) 4) (l3 + nI 1) h
noncomputable def o_X5_fullestBerth (F : Nat) (τ : cT) (n : Nat) (b : Nat) (s : cS) : Option (Int32) := (o_X5_fullestBerth_6 F τ n b s F (-1) (nI 0) (nI 0)).bind fun x4 => (some x4)
set_option maxHeartbeats 4000000 in
theorem t_X5_fullestBerth {Γ : jg_G} {g : Nat → jg_C} (F : Nat) (τ : cT) (n : Nat) (b : Nat) (s : cS) (hB : Bd τ n b) {x : Int32} (h : o_X5_fullestBerth F τ n b s = some x) : jc Γ mX5_fullestBerth 0 0 0 [some (.ref (b + 27)), none, none, none] (ct_h g τ s, n) (.inl (some (.int x))) (ct_h g τ s, n) := by
  refine jc_of ?_
  rw [o_X5_fullestBerth] at h
  refine jg_iconst (v := (-1)) dX5_fullestBerth_0 (by decide) ?_
  refine jg_istore_n (L' := [some (.ref (b + 27)), some (.int (-1)), none, none]) dX5_fullestBerth_1 (by decide) rfl ?_
  refine jg_iconst (v := nI 0) dX5_fullestBerth_2 (by decide) ?_
  refine jg_istore_n (L' := [some (.ref (b + 27)), some (.int (-1)), some (.int (nI 0)), none]) dX5_fullestBerth_3 (by decide) rfl ?_
  refine jg_iconst (v := nI 0) dX5_fullestBerth_4 (by decide) ?_
  refine jg_istore_n (L' := [some (.ref (b + 27)), some (.int (-1)), some (.int (nI 0)), some (.int (nI 0))]) dX5_fullestBerth_5 (by decide) rfl ?_
  obtain ⟨x4, e_x4, h⟩ := bd_some h
  refine jg_fg (L' := [some (.ref (b + 27)), some (.int (-1)), some (.int (nI 0)), some (.int (nI 0))]) (by repeat (first | exact trivial | refine ⟨rfl, ?_⟩ | show jg_le _ _)) ?_
  refine t_X5_fullestBerth_6  F τ n b s hB _ (x := x4) ?_ F (-1) (nI 0) (nI 0) e_x4
  refine jg_iload_n dX5_fullestBerth_45 rfl ?_
  obtain rfl := Option.some.inj h
  exact jg_ireturn dX5_fullestBerth_46 rfl ⟨rfl, rfl⟩
theorem dX5_cart_0 : decode cX5_cart 0 = .ok (.iconst 0, 1) := by decide +kernel
theorem dX5_cart_1 : decode cX5_cart 1 = .ok (.istore_n 1, 1) := by decide +kernel
theorem dX5_cart_2 : decode cX5_cart 2 = .ok (.iload_n 1, 1) := by decide +kernel
theorem dX5_cart_3 : decode cX5_cart 3 = .ok (.aload_n 0, 1) := by decide +kernel
theorem dX5_cart_4 : decode cX5_cart 4 = .ok (.getfield 31, 3) := by decide +kernel
theorem dX5_cart_7 : decode cX5_cart 7 = .ok (.if_icmp .ge 60, 3) := by decide +kernel
theorem dX5_cart_10 : decode cX5_cart 10 = .ok (.aload_n 0, 1) := by decide +kernel
theorem dX5_cart_11 : decode cX5_cart 11 = .ok (.invokevirtual 117, 3) := by decide +kernel
theorem dX5_cart_14 : decode cX5_cart 14 = .ok (.istore_n 2, 1) := by decide +kernel
theorem dX5_cart_15 : decode cX5_cart 15 = .ok (.iload_n 2, 1) := by decide +kernel
theorem dX5_cart_16 : decode cX5_cart 16 = .ok (.iconst (-1), 1) := by decide +kernel
theorem dX5_cart_17 : decode cX5_cart 17 = .ok (.if_icmp .ne 4, 3) := by decide +kernel
theorem dX5_cart_20 : decode cX5_cart 20 = .ok (.return_, 1) := by decide +kernel
theorem dX5_cart_21 : decode cX5_cart 21 = .ok (.bipush 10, 2) := by decide +kernel
theorem dX5_cart_23 : decode cX5_cart 23 = .ok (.aload_n 0, 1) := by decide +kernel
theorem dX5_cart_24 : decode cX5_cart 24 = .ok (.getfield 11, 3) := by decide +kernel
theorem dX5_cart_27 : decode cX5_cart 27 = .ok (.iload_n 2, 1) := by decide +kernel
theorem dX5_cart_28 : decode cX5_cart 28 = .ok (.aaload, 1) := by decide +kernel
theorem dX5_cart_29 : decode cX5_cart 29 = .ok (.getfield 111, 3) := by decide +kernel
theorem dX5_cart_32 : decode cX5_cart 32 = .ok (.invokestatic 108, 3) := by decide +kernel
theorem dX5_cart_35 : decode cX5_cart 35 = .ok (.istore_n 3, 1) := by decide +kernel
theorem dX5_cart_36 : decode cX5_cart 36 = .ok (.aload_n 0, 1) := by decide +kernel
theorem dX5_cart_37 : decode cX5_cart 37 = .ok (.getfield 11, 3) := by decide +kernel
theorem dX5_cart_40 : decode cX5_cart 40 = .ok (.iload_n 2, 1) := by decide +kernel
theorem dX5_cart_41 : decode cX5_cart 41 = .ok (.aaload, 1) := by decide +kernel
theorem dX5_cart_42 : decode cX5_cart 42 = .ok (.dup, 1) := by decide +kernel
theorem dX5_cart_43 : decode cX5_cart 43 = .ok (.getfield 111, 3) := by decide +kernel
theorem dX5_cart_46 : decode cX5_cart 46 = .ok (.iload_n 3, 1) := by decide +kernel
theorem dX5_cart_47 : decode cX5_cart 47 = .ok (.isub, 1) := by decide +kernel
theorem dX5_cart_48 : decode cX5_cart 48 = .ok (.putfield 111, 3) := by decide +kernel
theorem dX5_cart_51 : decode cX5_cart 51 = .ok (.aload_n 0, 1) := by decide +kernel
theorem dX5_cart_52 : decode cX5_cart 52 = .ok (.dup, 1) := by decide +kernel
theorem dX5_cart_53 : decode cX5_cart 53 = .ok (.getfield 55, 3) := by decide +kernel
theorem dX5_cart_56 : decode cX5_cart 56 = .ok (.iload_n 3, 1) := by decide +kernel
theorem dX5_cart_57 : decode cX5_cart 57 = .ok (.iadd, 1) := by decide +kernel
theorem dX5_cart_58 : decode cX5_cart 58 = .ok (.putfield 55, 3) := by decide +kernel
theorem dX5_cart_61 : decode cX5_cart 61 = .ok (.iinc 1 1, 3) := by decide +kernel
theorem dX5_cart_64 : decode cX5_cart 64 = .ok (.goto (-62), 3) := by decide +kernel
theorem dX5_cart_67 : decode cX5_cart 67 = .ok (.return_, 1) := by decide +kernel
noncomputable def o_X5_cart_2 (F : Nat) (τ : cT) (n : Nat) (b : Nat)  : Nat → Int32 → cS → Option ((cS) ⊕ (cS))
  | 0, _, _ => none
  | f + 1, l1, s => if (s.1 (b + 27) 5) ≤ l1 then (some (.inl s)) else ((o_X5_fullestBerth F τ n b s).bind fun x2 => (if x2 = (-1) then (some (.inr s)) else (if iL x2 10 then ((some (cp s (b + 28 + 1 + x2.toNatClampNeg) 4 ((s.1 (b + 28 + 1 + x2.toNatClampNeg) 4) - (mni (nI 10) (s.1 (b + 28 + 1 + x2.toNatClampNeg) 4))))).bind fun x5 => ((some (cp x5 (b + 27) 7 ((x5.1 (b + 27) 7) + (mni (nI 10) (s.1 (b + 28 + 1 + x2.toNatClampNeg) 4))))).bind fun x6 => (o_X5_cart_2 F τ n b f (l1 + nI 1) x6))) else none)))
set_option maxHeartbeats 4000000 in
theorem t_X5_cart_2 {Γ : jg_G} {g : Nat → jg_C} (F : Nat) (τ : cT) (n : Nat) (b : Nat)  (hB : Bd τ n b) (Q : jg_Q) {x : (cS) ⊕ (cS)} (K1 : ∀ y, x = .inl y → jg Γ mX5_cart 1 0 0 67 [none, none, none, none] [] (ct_h g τ y, n) Q) (K2 : ∀ z, x = .inr z → Q (.inl none) (ct_h g τ z, n)) : ∀ (f : Nat) (l1 : Int32) (s : cS), o_X5_cart_2 F τ n b f l1 s = some x → jg Γ mX5_cart 1 0 0 2 [some (.ref (b + 27)), some (.int l1), none, none] [] (ct_h g τ s, n) Q := by
  intro f
  induction f with
  | zero => intro l1 s h; rw [o_X5_cart_2] at h; cases h
  | succ f ih =>
   intro l1 s h
   rw [o_X5_cart_2] at h
   refine jg_iload_n dX5_cart_2 rfl ?_
   refine jg_aload_n dX5_cart_3 rfl ?_
   refine cs_get (s := s) (w := .int (s.1 (b + 27) 5)) fl_X5_31 dX5_cart_4 (hB.ob 27 (by decide) rfl) rfl ?_
   refine jg_icmp_ge (x := l1) (y := (s.1 (b + 27) 5)) (tgt := 67) dX5_cart_7 (by decide) (fun c1 => ?_) (fun c1 => ?_)
   · replace h := it_t c1 h
     refine jg_fg (L' := [none, none, none, none]) (by repeat (first | exact trivial | refine ⟨rfl, ?_⟩ | show jg_le _ _)) ?_
     obtain rfl := Option.some.inj h
     exact K1 _ rfl
   · replace h := it_f c1 h
     refine jg_aload_n dX5_cart_10 rfl ?_
     obtain ⟨x2, e_x2, h⟩ := bd_some h
     refine cs_call (q := (b + 27)) (As := []) kv_X5_117 dX5_cart_11 (hB.ob 27 (by decide) rfl) rfl rfl (by decide) (Nat.le_of_ble_eq_true rfl) rfl (by decide) (Nat.le_of_ble_eq_true rfl) (t_X5_fullestBerth F τ n b s hB e_x2) ?_
     refine jg_istore_n (L' := [some (.ref (b + 27)), some (.int l1), some (.int x2), none]) dX5_cart_14 (by decide) rfl ?_
     refine jg_iload_n dX5_cart_15 rfl ?_
     refine jg_iconst (v := (-1)) dX5_cart_16 (by decide) ?_
     refine jg_icmp_ne (x := x2) (y := (-1)) (tgt := 21) dX5_cart_17 (by decide) (fun c3 => ?_) (fun c3 => ?_)
     · replace h := it_f c3 h
       refine jg_bipush (v := nI 10) dX5_cart_21 (by decide) ?_
       refine jg_aload_n dX5_cart_23 rfl ?_
       refine cs_get (s := s) (w := .ref (b + 28)) fl_X5_11 dX5_cart_24 (hB.ob 27 (by decide) rfl) rfl ?_
       refine jg_iload_n dX5_cart_27 rfl ?_
       obtain ⟨q4, h⟩ := gd_some h
       refine cs_ldr (s := s) (q := (b + 28)) (i := x2) (kd := 5) (by decide) dX5_cart_28 (hB.ar 28 (by decide) rfl) q4 ?_
       refine cs_get (s := s) (w := .int (s.1 (b + 28 + 1 + x2.toNatClampNeg) 4)) fl_X5_111 dX5_cart_29 (hB.berth q4.2) rfl ?_
       refine jg_mmin (x := (nI 10)) (y := (s.1 (b + 28 + 1 + x2.toNatClampNeg) 4)) km_X5_108 jw_min.1 jw_min.2 dX5_cart_32 (by decide) (Nat.le_of_ble_eq_true rfl) ?_
       refine jg_istore_n (L' := [some (.ref (b + 27)), some (.int l1), some (.int x2), some (.int (mni (nI 10) (s.1 (b + 28 + 1 + x2.toNatClampNeg) 4)))]) dX5_cart_35 (by decide) rfl ?_
       refine jg_aload_n dX5_cart_36 rfl ?_
       refine cs_get (s := s) (w := .ref (b + 28)) fl_X5_11 dX5_cart_37 (hB.ob 27 (by decide) rfl) rfl ?_
       refine jg_iload_n dX5_cart_40 rfl ?_
       refine cs_ldr (s := s) (q := (b + 28)) (i := x2) (kd := 5) (by decide) dX5_cart_41 (hB.ar 28 (by decide) rfl) q4 ?_
       refine jg_dup dX5_cart_42 rfl ?_
       refine cs_get (s := s) (w := .int (s.1 (b + 28 + 1 + x2.toNatClampNeg) 4)) fl_X5_111 dX5_cart_43 (hB.berth q4.2) rfl ?_
       refine jg_iload_n dX5_cart_46 rfl ?_
       refine jg_isub (x := (s.1 (b + 28 + 1 + x2.toNatClampNeg) 4)) (y := (mni (nI 10) (s.1 (b + 28 + 1 + x2.toNatClampNeg) 4))) dX5_cart_47  ?_
       refine cs_put (s := s) (k := 4) (x := ((s.1 (b + 28 + 1 + x2.toNatClampNeg) 4) - (mni (nI 10) (s.1 (b + 28 + 1 + x2.toNatClampNeg) 4)))) fl_X5_111 dX5_cart_48 (hB.berth q4.2) (ltb rfl) (rfl) rfl rfl ?_
       obtain ⟨x5, e_x5, h⟩ := bd_some h
       refine cs_sub (Option.some.inj e_x5) ?_
       refine jg_aload_n dX5_cart_51 rfl ?_
       refine jg_dup dX5_cart_52 rfl ?_
       refine cs_get (s := x5) (w := .int (x5.1 (b + 27) 7)) fl_X5_55 dX5_cart_53 (hB.ob 27 (by decide) rfl) rfl ?_
       refine jg_iload_n dX5_cart_56 rfl ?_
       refine jg_iadd (x := (x5.1 (b + 27) 7)) (y := (mni (nI 10) (s.1 (b + 28 + 1 + x2.toNatClampNeg) 4))) dX5_cart_57  ?_
       refine cs_put (s := x5) (k := 7) (x := ((x5.1 (b + 27) 7) + (mni (nI 10) (s.1 (b + 28 + 1 + x2.toNatClampNeg) 4)))) fl_X5_55 dX5_cart_58 (hB.ob 27 (by decide) rfl) (ltb rfl) (rfl) rfl rfl ?_
       obtain ⟨x6, e_x6, h⟩ := bd_some h
       refine cs_sub (Option.some.inj e_x6) ?_
       refine jg_iinc (x := l1) (v := l1 + nI 1) (L' := [some (.ref (b + 27)), some (.int (l1 + nI 1)), some (.int x2), some (.int (mni (nI 10) (s.1 (b + 28 + 1 + x2.toNatClampNeg) 4)))]) dX5_cart_61 rfl (ic_k _ (by decide)) (by decide) rfl ?_
       refine jg_goto (tgt := 2) dX5_cart_64 (by decide) ?_
       refine jg_fg (L' := [some (.ref (b + 27)), some (.int (l1 + nI 1)), none, none]) (by repeat (first | exact trivial | refine ⟨rfl, ?_⟩ | show jg_le _ _)) ?_
       exact ih (l1 + nI 1) x6 h
     · replace h := it_t c3 h
       obtain rfl := Option.some.inj h
       exact jg_return dX5_cart_20 rfl (K2 _ rfl)
noncomputable def o_X5_cart (F : Nat) (τ : cT) (n : Nat) (b : Nat) (s : cS) : Option (cS) := (o_X5_cart_2 F τ n b F (nI 0) s).bind fun x7 => (Sum.elim (fun y8 => some y8) (fun z9 => some z9) x7)
set_option maxHeartbeats 4000000 in
theorem t_X5_cart {Γ : jg_G} {g : Nat → jg_C} (F : Nat) (τ : cT) (n : Nat) (b : Nat) (s : cS) (hB : Bd τ n b) {x : cS} (h : o_X5_cart F τ n b s = some x) : jc Γ mX5_cart 1 0 0 [some (.ref (b + 27)), none, none, none] (ct_h g τ s, n) (.inl none) (ct_h g τ x, n) := by
  refine jc_of ?_
  rw [o_X5_cart] at h
  refine jg_iconst (v := nI 0) dX5_cart_0 (by decide) ?_
  refine jg_istore_n (L' := [some (.ref (b + 27)), some (.int (nI 0)), none, none]) dX5_cart_1 (by decide) rfl ?_
  obtain ⟨x7, e_x7, h⟩ := bd_some h
  refine jg_fg (L' := [some (.ref (b + 27)), some (.int (nI 0)), none, none]) (by repeat (first | exact trivial | refine ⟨rfl, ?_⟩ | show jg_le _ _)) ?_
  refine t_X5_cart_2  F τ n b hB _ (x := x7) ?_ ?_ F (nI 0) s e_x7
  · intro y8 ey; subst ey; replace h := se_l h
    obtain rfl := Option.some.inj h
    exact jg_return dX5_cart_67 rfl ⟨rfl, rfl⟩
  · intro z9 ez; subst ez; replace h := se_r h
    obtain rfl := Option.some.inj h
    exact ⟨rfl, rfl⟩
theorem dX5_weigh_0 : decode cX5_weigh 0 = .ok (.iconst 0, 1) := by decide +kernel
theorem dX5_weigh_1 : decode cX5_weigh 1 = .ok (.istore_n 1, 1) := by decide +kernel
theorem dX5_weigh_2 : decode cX5_weigh 2 = .ok (.iload_n 1, 1) := by decide +kernel
theorem dX5_weigh_3 : decode cX5_weigh 3 = .ok (.aload_n 0, 1) := by decide +kernel
theorem dX5_weigh_4 : decode cX5_weigh 4 = .ok (.getfield 38, 3) := by decide +kernel
theorem dX5_weigh_7 : decode cX5_weigh 7 = .ok (.if_icmp .ge 45, 3) := by decide +kernel
theorem dX5_weigh_10 : decode cX5_weigh 10 = .ok (.aload_n 0, 1) := by decide +kernel
theorem dX5_weigh_11 : decode cX5_weigh 11 = .ok (.getfield 11, 3) := by decide +kernel
theorem dX5_weigh_14 : decode cX5_weigh 14 = .ok (.iload_n 1, 1) := by decide +kernel
theorem dX5_weigh_15 : decode cX5_weigh 15 = .ok (.aaload, 1) := by decide +kernel
theorem dX5_weigh_16 : decode cX5_weigh 16 = .ok (.getfield 111, 3) := by decide +kernel
theorem dX5_weigh_19 : decode cX5_weigh 19 = .ok (.aload_n 0, 1) := by decide +kernel
theorem dX5_weigh_20 : decode cX5_weigh 20 = .ok (.getfield 11, 3) := by decide +kernel
theorem dX5_weigh_23 : decode cX5_weigh 23 = .ok (.iload_n 1, 1) := by decide +kernel
theorem dX5_weigh_24 : decode cX5_weigh 24 = .ok (.aaload, 1) := by decide +kernel
theorem dX5_weigh_25 : decode cX5_weigh 25 = .ok (.getfield 121, 3) := by decide +kernel
theorem dX5_weigh_28 : decode cX5_weigh 28 = .ok (.if_icmp .le 18, 3) := by decide +kernel
theorem dX5_weigh_31 : decode cX5_weigh 31 = .ok (.aload_n 0, 1) := by decide +kernel
theorem dX5_weigh_32 : decode cX5_weigh 32 = .ok (.getfield 11, 3) := by decide +kernel
theorem dX5_weigh_35 : decode cX5_weigh 35 = .ok (.iload_n 1, 1) := by decide +kernel
theorem dX5_weigh_36 : decode cX5_weigh 36 = .ok (.aaload, 1) := by decide +kernel
theorem dX5_weigh_37 : decode cX5_weigh 37 = .ok (.dup, 1) := by decide +kernel
theorem dX5_weigh_38 : decode cX5_weigh 38 = .ok (.getfield 124, 3) := by decide +kernel
theorem dX5_weigh_41 : decode cX5_weigh 41 = .ok (.iconst 1, 1) := by decide +kernel
theorem dX5_weigh_42 : decode cX5_weigh 42 = .ok (.iadd, 1) := by decide +kernel
theorem dX5_weigh_43 : decode cX5_weigh 43 = .ok (.putfield 124, 3) := by decide +kernel
theorem dX5_weigh_46 : decode cX5_weigh 46 = .ok (.iinc 1 1, 3) := by decide +kernel
theorem dX5_weigh_49 : decode cX5_weigh 49 = .ok (.goto (-47), 3) := by decide +kernel
theorem dX5_weigh_52 : decode cX5_weigh 52 = .ok (.return_, 1) := by decide +kernel
noncomputable def o_X5_weigh_2 (F : Nat) (τ : cT) (n : Nat) (b : Nat)  : Nat → Int32 → cS → Option (cS)
  | 0, _, _ => none
  | f + 1, l1, s => if (s.1 (b + 27) 1) ≤ l1 then (some s) else (if iL l1 10 then (if (s.1 (b + 28 + 1 + l1.toNatClampNeg) 4) ≤ (s.1 (b + 28 + 1 + l1.toNatClampNeg) 3) then (o_X5_weigh_2 F τ n b f (l1 + nI 1) s) else ((some (cp s (b + 28 + 1 + l1.toNatClampNeg) 5 ((s.1 (b + 28 + 1 + l1.toNatClampNeg) 5) + (nI 1)))).bind fun x4 => (o_X5_weigh_2 F τ n b f (l1 + nI 1) x4))) else none)
set_option maxHeartbeats 4000000 in
theorem t_X5_weigh_2 {Γ : jg_G} {g : Nat → jg_C} (F : Nat) (τ : cT) (n : Nat) (b : Nat)  (hB : Bd τ n b) (Q : jg_Q) {x : cS} (K1 : jg Γ mX5_weigh 0 0 0 52 [none, none] [] (ct_h g τ x, n) Q)  : ∀ (f : Nat) (l1 : Int32) (s : cS), o_X5_weigh_2 F τ n b f l1 s = some x → jg Γ mX5_weigh 0 0 0 2 [some (.ref (b + 27)), some (.int l1)] [] (ct_h g τ s, n) Q := by
  intro f
  induction f with
  | zero => intro l1 s h; rw [o_X5_weigh_2] at h; cases h
  | succ f ih =>
   intro l1 s h
   rw [o_X5_weigh_2] at h
   refine jg_iload_n dX5_weigh_2 rfl ?_
   refine jg_aload_n dX5_weigh_3 rfl ?_
   refine cs_get (s := s) (w := .int (s.1 (b + 27) 1)) fl_X5_38 dX5_weigh_4 (hB.ob 27 (by decide) rfl) rfl ?_
   refine jg_icmp_ge (x := l1) (y := (s.1 (b + 27) 1)) (tgt := 52) dX5_weigh_7 (by decide) (fun c1 => ?_) (fun c1 => ?_)
   · replace h := it_t c1 h
     refine jg_fg (L' := [none, none]) (by repeat (first | exact trivial | refine ⟨rfl, ?_⟩ | show jg_le _ _)) ?_
     obtain rfl := Option.some.inj h
     exact K1
   · replace h := it_f c1 h
     refine jg_aload_n dX5_weigh_10 rfl ?_
     refine cs_get (s := s) (w := .ref (b + 28)) fl_X5_11 dX5_weigh_11 (hB.ob 27 (by decide) rfl) rfl ?_
     refine jg_iload_n dX5_weigh_14 rfl ?_
     obtain ⟨q2, h⟩ := gd_some h
     refine cs_ldr (s := s) (q := (b + 28)) (i := l1) (kd := 5) (by decide) dX5_weigh_15 (hB.ar 28 (by decide) rfl) q2 ?_
     refine cs_get (s := s) (w := .int (s.1 (b + 28 + 1 + l1.toNatClampNeg) 4)) fl_X5_111 dX5_weigh_16 (hB.berth q2.2) rfl ?_
     refine jg_aload_n dX5_weigh_19 rfl ?_
     refine cs_get (s := s) (w := .ref (b + 28)) fl_X5_11 dX5_weigh_20 (hB.ob 27 (by decide) rfl) rfl ?_
     refine jg_iload_n dX5_weigh_23 rfl ?_
     refine cs_ldr (s := s) (q := (b + 28)) (i := l1) (kd := 5) (by decide) dX5_weigh_24 (hB.ar 28 (by decide) rfl) q2 ?_
     refine cs_get (s := s) (w := .int (s.1 (b + 28 + 1 + l1.toNatClampNeg) 3)) fl_X5_121 dX5_weigh_25 (hB.berth q2.2) rfl ?_
     refine jg_icmp_le (x := (s.1 (b + 28 + 1 + l1.toNatClampNeg) 4)) (y := (s.1 (b + 28 + 1 + l1.toNatClampNeg) 3)) (tgt := 46) dX5_weigh_28 (by decide) (fun c3 => ?_) (fun c3 => ?_)
     · replace h := it_t c3 h
       refine jg_iinc (x := l1) (v := l1 + nI 1) (L' := [some (.ref (b + 27)), some (.int (l1 + nI 1))]) dX5_weigh_46 rfl (ic_k _ (by decide)) (by decide) rfl ?_
       refine jg_goto (tgt := 2) dX5_weigh_49 (by decide) ?_
       refine jg_fg (L' := [some (.ref (b + 27)), some (.int (l1 + nI 1))]) (by repeat (first | exact trivial | refine ⟨rfl, ?_⟩ | show jg_le _ _)) ?_
       exact ih (l1 + nI 1) s h
     · replace h := it_f c3 h
       refine jg_aload_n dX5_weigh_31 rfl ?_
       refine cs_get (s := s) (w := .ref (b + 28)) fl_X5_11 dX5_weigh_32 (hB.ob 27 (by decide) rfl) rfl ?_
       refine jg_iload_n dX5_weigh_35 rfl ?_
       refine cs_ldr (s := s) (q := (b + 28)) (i := l1) (kd := 5) (by decide) dX5_weigh_36 (hB.ar 28 (by decide) rfl) q2 ?_
       refine jg_dup dX5_weigh_37 rfl ?_
       refine cs_get (s := s) (w := .int (s.1 (b + 28 + 1 + l1.toNatClampNeg) 5)) fl_X5_124 dX5_weigh_38 (hB.berth q2.2) rfl ?_
       refine jg_iconst (v := nI 1) dX5_weigh_41 (by decide) ?_
       refine jg_iadd (x := (s.1 (b + 28 + 1 + l1.toNatClampNeg) 5)) (y := (nI 1)) dX5_weigh_42  ?_
       refine cs_put (s := s) (k := 5) (x := ((s.1 (b + 28 + 1 + l1.toNatClampNeg) 5) + (nI 1))) fl_X5_124 dX5_weigh_43 (hB.berth q2.2) (ltb rfl) (rfl) rfl rfl ?_
       obtain ⟨x4, e_x4, h⟩ := bd_some h
       refine cs_sub (Option.some.inj e_x4) ?_
       refine jg_iinc (x := l1) (v := l1 + nI 1) (L' := [some (.ref (b + 27)), some (.int (l1 + nI 1))]) dX5_weigh_46 rfl (ic_k _ (by decide)) (by decide) rfl ?_
       refine jg_goto (tgt := 2) dX5_weigh_49 (by decide) ?_
       refine jg_fg (L' := [some (.ref (b + 27)), some (.int (l1 + nI 1))]) (by repeat (first | exact trivial | refine ⟨rfl, ?_⟩ | show jg_le _ _)) ?_
       exact ih (l1 + nI 1) x4 h
noncomputable def o_X5_weigh (F : Nat) (τ : cT) (n : Nat) (b : Nat) (s : cS) : Option (cS) := (o_X5_weigh_2 F τ n b F (nI 0) s).bind fun x5 => (some x5)
set_option maxHeartbeats 4000000 in
theorem t_X5_weigh {Γ : jg_G} {g : Nat → jg_C} (F : Nat) (τ : cT) (n : Nat) (b : Nat) (s : cS) (hB : Bd τ n b) {x : cS} (h : o_X5_weigh F τ n b s = some x) : jc Γ mX5_weigh 0 0 0 [some (.ref (b + 27)), none] (ct_h g τ s, n) (.inl none) (ct_h g τ x, n) := by
  refine jc_of ?_
  rw [o_X5_weigh] at h
  refine jg_iconst (v := nI 0) dX5_weigh_0 (by decide) ?_
  refine jg_istore_n (L' := [some (.ref (b + 27)), some (.int (nI 0))]) dX5_weigh_1 (by decide) rfl ?_
  obtain ⟨x5, e_x5, h⟩ := bd_some h
  refine jg_fg (L' := [some (.ref (b + 27)), some (.int (nI 0))]) (by repeat (first | exact trivial | refine ⟨rfl, ?_⟩ | show jg_le _ _)) ?_
  refine t_X5_weigh_2  F τ n b hB _ (x := x5) ?_ F (nI 0) s e_x5
  obtain rfl := Option.some.inj h
  exact jg_return dX5_weigh_52 rfl ⟨rfl, rfl⟩
theorem dX8_runOf_0 : decode cX8_runOf 0 = .ok (.iconst (-1), 1) := by decide +kernel
theorem dX8_runOf_1 : decode cX8_runOf 1 = .ok (.istore_n 2, 1) := by decide +kernel
theorem dX8_runOf_2 : decode cX8_runOf 2 = .ok (.iconst 0, 1) := by decide +kernel
theorem dX8_runOf_3 : decode cX8_runOf 3 = .ok (.istore_n 3, 1) := by decide +kernel
theorem dX8_runOf_4 : decode cX8_runOf 4 = .ok (.iload_n 3, 1) := by decide +kernel
theorem dX8_runOf_5 : decode cX8_runOf 5 = .ok (.aload_n 0, 1) := by decide +kernel
theorem dX8_runOf_6 : decode cX8_runOf 6 = .ok (.getfield 49, 3) := by decide +kernel
theorem dX8_runOf_9 : decode cX8_runOf 9 = .ok (.if_icmp .ge 41, 3) := by decide +kernel
theorem dX8_runOf_12 : decode cX8_runOf 12 = .ok (.aload_n 0, 1) := by decide +kernel
theorem dX8_runOf_13 : decode cX8_runOf 13 = .ok (.getfield 24, 3) := by decide +kernel
theorem dX8_runOf_16 : decode cX8_runOf 16 = .ok (.iload_n 3, 1) := by decide +kernel
theorem dX8_runOf_17 : decode cX8_runOf 17 = .ok (.iaload, 1) := by decide +kernel
theorem dX8_runOf_18 : decode cX8_runOf 18 = .ok (.iload_n 1, 1) := by decide +kernel
theorem dX8_runOf_19 : decode cX8_runOf 19 = .ok (.if_icmp .gt 25, 3) := by decide +kernel
theorem dX8_runOf_22 : decode cX8_runOf 22 = .ok (.iload_n 2, 1) := by decide +kernel
theorem dX8_runOf_23 : decode cX8_runOf 23 = .ok (.iconst (-1), 1) := by decide +kernel
theorem dX8_runOf_24 : decode cX8_runOf 24 = .ok (.if_icmp .eq 18, 3) := by decide +kernel
theorem dX8_runOf_27 : decode cX8_runOf 27 = .ok (.aload_n 0, 1) := by decide +kernel
theorem dX8_runOf_28 : decode cX8_runOf 28 = .ok (.getfield 24, 3) := by decide +kernel
theorem dX8_runOf_31 : decode cX8_runOf 31 = .ok (.iload_n 3, 1) := by decide +kernel
theorem dX8_runOf_32 : decode cX8_runOf 32 = .ok (.iaload, 1) := by decide +kernel
theorem dX8_runOf_33 : decode cX8_runOf 33 = .ok (.aload_n 0, 1) := by decide +kernel
theorem dX8_runOf_34 : decode cX8_runOf 34 = .ok (.getfield 24, 3) := by decide +kernel
theorem dX8_runOf_37 : decode cX8_runOf 37 = .ok (.iload_n 2, 1) := by decide +kernel
theorem dX8_runOf_38 : decode cX8_runOf 38 = .ok (.iaload, 1) := by decide +kernel
theorem dX8_runOf_39 : decode cX8_runOf 39 = .ok (.if_icmp .lt 5, 3) := by decide +kernel
theorem dX8_runOf_42 : decode cX8_runOf 42 = .ok (.iload_n 3, 1) := by decide +kernel
theorem dX8_runOf_43 : decode cX8_runOf 43 = .ok (.istore_n 2, 1) := by decide +kernel
theorem dX8_runOf_44 : decode cX8_runOf 44 = .ok (.iinc 3 1, 3) := by decide +kernel
theorem dX8_runOf_47 : decode cX8_runOf 47 = .ok (.goto (-43), 3) := by decide +kernel
theorem dX8_runOf_50 : decode cX8_runOf 50 = .ok (.iload_n 2, 1) := by decide +kernel
theorem dX8_runOf_51 : decode cX8_runOf 51 = .ok (.iconst (-1), 1) := by decide +kernel
theorem dX8_runOf_52 : decode cX8_runOf 52 = .ok (.if_icmp .ne 7, 3) := by decide +kernel
theorem dX8_runOf_55 : decode cX8_runOf 55 = .ok (.iconst 0, 1) := by decide +kernel
theorem dX8_runOf_56 : decode cX8_runOf 56 = .ok (.goto 9, 3) := by decide +kernel
theorem dX8_runOf_59 : decode cX8_runOf 59 = .ok (.aload_n 0, 1) := by decide +kernel
theorem dX8_runOf_60 : decode cX8_runOf 60 = .ok (.getfield 27, 3) := by decide +kernel
theorem dX8_runOf_63 : decode cX8_runOf 63 = .ok (.iload_n 2, 1) := by decide +kernel
theorem dX8_runOf_64 : decode cX8_runOf 64 = .ok (.iaload, 1) := by decide +kernel
theorem dX8_runOf_65 : decode cX8_runOf 65 = .ok (.ireturn, 1) := by decide +kernel
noncomputable def o_X8_runOf_4 (F : Nat) (τ : cT) (n : Nat) (b : Nat) (l1 : Int32) (s : cS) : Nat → Int32 → Int32 → Option (Int32)
  | 0, _, _ => none
  | f + 1, l2, l3 => if (s.1 (b + 1) 6) ≤ l3 then (some l2) else (if iL l3 40 then (if l1 < (cg s (b + 6) l3) then (o_X8_runOf_4 F τ n b l1 s f l2 (l3 + nI 1)) else (if l2 = (-1) then (o_X8_runOf_4 F τ n b l1 s f l3 (l3 + nI 1)) else (if iL l2 40 then (if (cg s (b + 6) l3) < (cg s (b + 6) l2) then (o_X8_runOf_4 F τ n b l1 s f l2 (l3 + nI 1)) else (o_X8_runOf_4 F τ n b l1 s f l3 (l3 + nI 1))) else none))) else none)
set_option maxHeartbeats 4000000 in
theorem t_X8_runOf_4 {Γ : jg_G} {g : Nat → jg_C} (F : Nat) (τ : cT) (n : Nat) (b : Nat) (l1 : Int32) (s : cS) (hB : Bd τ n b) (Q : jg_Q) {x : Int32} (K1 : jg Γ mX8_runOf 0 0 0 50 [some (.ref (b + 1)), none, some (.int x), none] [] (ct_h g τ s, n) Q)  : ∀ (f : Nat) (l2 : Int32) (l3 : Int32), o_X8_runOf_4 F τ n b l1 s f l2 l3 = some x → jg Γ mX8_runOf 0 0 0 4 [some (.ref (b + 1)), some (.int l1), some (.int l2), some (.int l3)] [] (ct_h g τ s, n) Q := by
  intro f
  induction f with
  | zero => intro l2 l3 h; rw [o_X8_runOf_4] at h; cases h
  | succ f ih =>
   intro l2 l3 h
   rw [o_X8_runOf_4] at h
   refine jg_iload_n dX8_runOf_4 rfl ?_
   refine jg_aload_n dX8_runOf_5 rfl ?_
   refine cs_get (s := s) (w := .int (s.1 (b + 1) 6)) fl_X8_49 dX8_runOf_6 (hB.ob 1 (by decide) rfl) rfl ?_
   refine jg_icmp_ge (x := l3) (y := (s.1 (b + 1) 6)) (tgt := 50) dX8_runOf_9 (by decide) (fun c1 => ?_) (fun c1 => ?_)
   · replace h := it_t c1 h
     refine jg_fg (L' := [some (.ref (b + 1)), none, some (.int l2), none]) (by repeat (first | exact trivial | refine ⟨rfl, ?_⟩ | show jg_le _ _)) ?_
     obtain rfl := Option.some.inj h
     exact K1
   · replace h := it_f c1 h
     refine jg_aload_n dX8_runOf_12 rfl ?_
     refine cs_get (s := s) (w := .ref (b + 6)) fl_X8_24 dX8_runOf_13 (hB.ob 1 (by decide) rfl) rfl ?_
     refine jg_iload_n dX8_runOf_16 rfl ?_
     obtain ⟨q2, h⟩ := gd_some h
     refine cs_lda (s := s) (q := (b + 6)) (i := l3) dX8_runOf_17 (hB.ar 6 (by decide) rfl) q2 ?_
     refine jg_iload_n dX8_runOf_18 rfl ?_
     refine jg_icmp_gt (x := (cg s (b + 6) l3)) (y := l1) (tgt := 44) dX8_runOf_19 (by decide) (fun c3 => ?_) (fun c3 => ?_)
     · replace h := it_t c3 h
       refine jg_iinc (x := l3) (v := l3 + nI 1) (L' := [some (.ref (b + 1)), some (.int l1), some (.int l2), some (.int (l3 + nI 1))]) dX8_runOf_44 rfl (ic_k _ (by decide)) (by decide) rfl ?_
       refine jg_goto (tgt := 4) dX8_runOf_47 (by decide) ?_
       refine jg_fg (L' := [some (.ref (b + 1)), some (.int l1), some (.int l2), some (.int (l3 + nI 1))]) (by repeat (first | exact trivial | refine ⟨rfl, ?_⟩ | show jg_le _ _)) ?_
       exact ih l2 (l3 + nI 1) h
     · replace h := it_f c3 h
       refine jg_iload_n dX8_runOf_22 rfl ?_
       refine jg_iconst (v := (-1)) dX8_runOf_23 (by decide) ?_
       refine jg_icmp_eq (x := l2) (y := (-1)) (tgt := 42) dX8_runOf_24 (by decide) (fun c4 => ?_) (fun c4 => ?_)
       · replace h := it_t c4 h
         refine jg_iload_n dX8_runOf_42 rfl ?_
         refine jg_istore_n (L' := [some (.ref (b + 1)), some (.int l1), some (.int l3), some (.int l3)]) dX8_runOf_43 (by decide) rfl ?_
         refine jg_iinc (x := l3) (v := l3 + nI 1) (L' := [some (.ref (b + 1)), some (.int l1), some (.int l3), some (.int (l3 + nI 1))]) dX8_runOf_44 rfl (ic_k _ (by decide)) (by decide) rfl ?_
         refine jg_goto (tgt := 4) dX8_runOf_47 (by decide) ?_
         refine jg_fg (L' := [some (.ref (b + 1)), some (.int l1), some (.int l3), some (.int (l3 + nI 1))]) (by repeat (first | exact trivial | refine ⟨rfl, ?_⟩ | show jg_le _ _)) ?_
         exact ih l3 (l3 + nI 1) h
       · replace h := it_f c4 h
         refine jg_aload_n dX8_runOf_27 rfl ?_
         refine cs_get (s := s) (w := .ref (b + 6)) fl_X8_24 dX8_runOf_28 (hB.ob 1 (by decide) rfl) rfl ?_
         refine jg_iload_n dX8_runOf_31 rfl ?_
         refine cs_lda (s := s) (q := (b + 6)) (i := l3) dX8_runOf_32 (hB.ar 6 (by decide) rfl) q2 ?_
         refine jg_aload_n dX8_runOf_33 rfl ?_
         refine cs_get (s := s) (w := .ref (b + 6)) fl_X8_24 dX8_runOf_34 (hB.ob 1 (by decide) rfl) rfl ?_
         refine jg_iload_n dX8_runOf_37 rfl ?_
         obtain ⟨q5, h⟩ := gd_some h
         refine cs_lda (s := s) (q := (b + 6)) (i := l2) dX8_runOf_38 (hB.ar 6 (by decide) rfl) q5 ?_
         refine jg_icmp_lt (x := (cg s (b + 6) l3)) (y := (cg s (b + 6) l2)) (tgt := 44) dX8_runOf_39 (by decide) (fun c6 => ?_) (fun c6 => ?_)
         · replace h := it_t c6 h
           refine jg_iinc (x := l3) (v := l3 + nI 1) (L' := [some (.ref (b + 1)), some (.int l1), some (.int l2), some (.int (l3 + nI 1))]) dX8_runOf_44 rfl (ic_k _ (by decide)) (by decide) rfl ?_
           refine jg_goto (tgt := 4) dX8_runOf_47 (by decide) ?_
           refine jg_fg (L' := [some (.ref (b + 1)), some (.int l1), some (.int l2), some (.int (l3 + nI 1))]) (by repeat (first | exact trivial | refine ⟨rfl, ?_⟩ | show jg_le _ _)) ?_
           exact ih l2 (l3 + nI 1) h
         · replace h := it_f c6 h
           refine jg_iload_n dX8_runOf_42 rfl ?_
           refine jg_istore_n (L' := [some (.ref (b + 1)), some (.int l1), some (.int l3), some (.int l3)]) dX8_runOf_43 (by decide) rfl ?_
           refine jg_iinc (x := l3) (v := l3 + nI 1) (L' := [some (.ref (b + 1)), some (.int l1), some (.int l3), some (.int (l3 + nI 1))]) dX8_runOf_44 rfl (ic_k _ (by decide)) (by decide) rfl ?_
           refine jg_goto (tgt := 4) dX8_runOf_47 (by decide) ?_
           refine jg_fg (L' := [some (.ref (b + 1)), some (.int l1), some (.int l3), some (.int (l3 + nI 1))]) (by repeat (first | exact trivial | refine ⟨rfl, ?_⟩ | show jg_le _ _)) ?_
           exact ih l3 (l3 + nI 1) h
noncomputable def o_X8_runOf (F : Nat) (τ : cT) (n : Nat) (b : Nat) (s : cS) (a1 : Int32) : Option (Int32) := (o_X8_runOf_4 F τ n b a1 s F (-1) (nI 0)).bind fun x7 => (if x7 = (-1) then (some (nI 0)) else (if iL x7 40 then (some (cg s (b + 7) x7)) else none))
set_option maxHeartbeats 4000000 in
theorem t_X8_runOf {Γ : jg_G} {g : Nat → jg_C} (F : Nat) (τ : cT) (n : Nat) (b : Nat) (s : cS) (a1 : Int32) (hB : Bd τ n b) {x : Int32} (h : o_X8_runOf F τ n b s a1 = some x) : jc Γ mX8_runOf 0 0 0 [some (.ref (b + 1)), some (.int a1), none, none] (ct_h g τ s, n) (.inl (some (.int x))) (ct_h g τ s, n) := by
  refine jc_of ?_
  rw [o_X8_runOf] at h
  refine jg_iconst (v := (-1)) dX8_runOf_0 (by decide) ?_
  refine jg_istore_n (L' := [some (.ref (b + 1)), some (.int a1), some (.int (-1)), none]) dX8_runOf_1 (by decide) rfl ?_
  refine jg_iconst (v := nI 0) dX8_runOf_2 (by decide) ?_
  refine jg_istore_n (L' := [some (.ref (b + 1)), some (.int a1), some (.int (-1)), some (.int (nI 0))]) dX8_runOf_3 (by decide) rfl ?_
  obtain ⟨x7, e_x7, h⟩ := bd_some h
  refine jg_fg (L' := [some (.ref (b + 1)), some (.int a1), some (.int (-1)), some (.int (nI 0))]) (by repeat (first | exact trivial | refine ⟨rfl, ?_⟩ | show jg_le _ _)) ?_
  refine t_X8_runOf_4  F τ n b a1 s hB _ (x := x7) ?_ F (-1) (nI 0) e_x7
  refine jg_iload_n dX8_runOf_50 rfl ?_
  refine jg_iconst (v := (-1)) dX8_runOf_51 (by decide) ?_
  refine jg_icmp_ne (x := x7) (y := (-1)) (tgt := 59) dX8_runOf_52 (by decide) (fun c8 => ?_) (fun c8 => ?_)
  · replace h := it_f c8 h
    refine jg_aload_n dX8_runOf_59 rfl ?_
    refine cs_get (s := s) (w := .ref (b + 7)) fl_X8_27 dX8_runOf_60 (hB.ob 1 (by decide) rfl) rfl ?_
    refine jg_iload_n dX8_runOf_63 rfl ?_
    obtain ⟨q9, h⟩ := gd_some h
    refine cs_lda (s := s) (q := (b + 7)) (i := x7) dX8_runOf_64 (hB.ar 7 (by decide) rfl) q9 ?_
    obtain rfl := Option.some.inj h
    exact jg_ireturn dX8_runOf_65 rfl ⟨rfl, rfl⟩
  · replace h := it_t c8 h
    refine jg_iconst (v := nI 0) dX8_runOf_55 (by decide) ?_
    refine jg_goto (tgt := 65) dX8_runOf_56 (by decide) ?_
    obtain rfl := Option.some.inj h
    exact jg_ireturn dX8_runOf_65 rfl ⟨rfl, rfl⟩
theorem dX8_silt_0 : decode cX8_silt 0 = .ok (.aload_n 0, 1) := by decide +kernel
theorem dX8_silt_1 : decode cX8_silt 1 = .ok (.dup, 1) := by decide +kernel
theorem dX8_silt_2 : decode cX8_silt 2 = .ok (.getfield 56, 3) := by decide +kernel
theorem dX8_silt_5 : decode cX8_silt 5 = .ok (.iload_n 1, 1) := by decide +kernel
theorem dX8_silt_6 : decode cX8_silt 6 = .ok (.iadd, 1) := by decide +kernel
theorem dX8_silt_7 : decode cX8_silt 7 = .ok (.putfield 56, 3) := by decide +kernel
theorem dX8_silt_10 : decode cX8_silt 10 = .ok (.iload_n 1, 1) := by decide +kernel
theorem dX8_silt_11 : decode cX8_silt 11 = .ok (.istore_n 2, 1) := by decide +kernel
theorem dX8_silt_12 : decode cX8_silt 12 = .ok (.bipush 23, 2) := by decide +kernel
theorem dX8_silt_14 : decode cX8_silt 14 = .ok (.istore_n 3, 1) := by decide +kernel
theorem dX8_silt_15 : decode cX8_silt 15 = .ok (.iload_n 3, 1) := by decide +kernel
theorem dX8_silt_16 : decode cX8_silt 16 = .ok (.ifCond .lt 60, 3) := by decide +kernel
theorem dX8_silt_19 : decode cX8_silt 19 = .ok (.bipush 60, 2) := by decide +kernel
theorem dX8_silt_21 : decode cX8_silt 21 = .ok (.iconst 5, 1) := by decide +kernel
theorem dX8_silt_22 : decode cX8_silt 22 = .ok (.iconst 0, 1) := by decide +kernel
theorem dX8_silt_23 : decode cX8_silt 23 = .ok (.aload_n 0, 1) := by decide +kernel
theorem dX8_silt_24 : decode cX8_silt 24 = .ok (.getfield 9, 3) := by decide +kernel
theorem dX8_silt_27 : decode cX8_silt 27 = .ok (.iload_n 3, 1) := by decide +kernel
theorem dX8_silt_28 : decode cX8_silt 28 = .ok (.iaload, 1) := by decide +kernel
theorem dX8_silt_29 : decode cX8_silt 29 = .ok (.aload_n 0, 1) := by decide +kernel
theorem dX8_silt_30 : decode cX8_silt 30 = .ok (.getfield 15, 3) := by decide +kernel
theorem dX8_silt_33 : decode cX8_silt 33 = .ok (.iload_n 3, 1) := by decide +kernel
theorem dX8_silt_34 : decode cX8_silt 34 = .ok (.iaload, 1) := by decide +kernel
theorem dX8_silt_35 : decode cX8_silt 35 = .ok (.isub, 1) := by decide +kernel
theorem dX8_silt_36 : decode cX8_silt 36 = .ok (.invokestatic 82, 3) := by decide +kernel
theorem dX8_silt_39 : decode cX8_silt 39 = .ok (.iadd, 1) := by decide +kernel
theorem dX8_silt_40 : decode cX8_silt 40 = .ok (.invokestatic 65, 3) := by decide +kernel
theorem dX8_silt_43 : decode cX8_silt 43 = .ok (.istore 4, 2) := by decide +kernel
theorem dX8_silt_45 : decode cX8_silt 45 = .ok (.iload_n 2, 1) := by decide +kernel
theorem dX8_silt_46 : decode cX8_silt 46 = .ok (.iload 4, 2) := by decide +kernel
theorem dX8_silt_48 : decode cX8_silt 48 = .ok (.imul, 1) := by decide +kernel
theorem dX8_silt_49 : decode cX8_silt 49 = .ok (.bipush 100, 2) := by decide +kernel
theorem dX8_silt_51 : decode cX8_silt 51 = .ok (.idiv, 1) := by decide +kernel
theorem dX8_silt_52 : decode cX8_silt 52 = .ok (.istore 5, 2) := by decide +kernel
theorem dX8_silt_54 : decode cX8_silt 54 = .ok (.aload_n 0, 1) := by decide +kernel
theorem dX8_silt_55 : decode cX8_silt 55 = .ok (.getfield 18, 3) := by decide +kernel
theorem dX8_silt_58 : decode cX8_silt 58 = .ok (.iload_n 3, 1) := by decide +kernel
theorem dX8_silt_59 : decode cX8_silt 59 = .ok (.dup2, 1) := by decide +kernel
theorem dX8_silt_60 : decode cX8_silt 60 = .ok (.iaload, 1) := by decide +kernel
theorem dX8_silt_61 : decode cX8_silt 61 = .ok (.iload 5, 2) := by decide +kernel
theorem dX8_silt_63 : decode cX8_silt 63 = .ok (.iadd, 1) := by decide +kernel
theorem dX8_silt_64 : decode cX8_silt 64 = .ok (.iastore, 1) := by decide +kernel
theorem dX8_silt_65 : decode cX8_silt 65 = .ok (.iload_n 2, 1) := by decide +kernel
theorem dX8_silt_66 : decode cX8_silt 66 = .ok (.iload 5, 2) := by decide +kernel
theorem dX8_silt_68 : decode cX8_silt 68 = .ok (.isub, 1) := by decide +kernel
theorem dX8_silt_69 : decode cX8_silt 69 = .ok (.istore_n 2, 1) := by decide +kernel
theorem dX8_silt_70 : decode cX8_silt 70 = .ok (.iinc 3 (-1), 3) := by decide +kernel
theorem dX8_silt_73 : decode cX8_silt 73 = .ok (.goto (-58), 3) := by decide +kernel
theorem dX8_silt_76 : decode cX8_silt 76 = .ok (.aload_n 0, 1) := by decide +kernel
theorem dX8_silt_77 : decode cX8_silt 77 = .ok (.dup, 1) := by decide +kernel
theorem dX8_silt_78 : decode cX8_silt 78 = .ok (.getfield 59, 3) := by decide +kernel
theorem dX8_silt_81 : decode cX8_silt 81 = .ok (.iload_n 2, 1) := by decide +kernel
theorem dX8_silt_82 : decode cX8_silt 82 = .ok (.iadd, 1) := by decide +kernel
theorem dX8_silt_83 : decode cX8_silt 83 = .ok (.putfield 59, 3) := by decide +kernel
theorem dX8_silt_86 : decode cX8_silt 86 = .ok (.return_, 1) := by decide +kernel
noncomputable def o_X8_silt_15 (F : Nat) (τ : cT) (n : Nat) (b : Nat)  : Nat → Int32 → Int32 → cS → Option (Int32 × cS)
  | 0, _, _, _ => none
  | f + 1, l2, l3, s => if l3 < 0 then (some (l2, s)) else (if iL l3 24 then ((some (ca s (b + 4) l3 ((cg s (b + 4) l3) + ((l2 * (mni (nI 60) ((nI 5) + (mxi (nI 0) ((cg s (b + 2) l3) - (cg s (b + 3) l3)))))) / (nI 100))))).bind fun x3 => (o_X8_silt_15 F τ n b f (l2 - ((l2 * (mni (nI 60) ((nI 5) + (mxi (nI 0) ((cg s (b + 2) l3) - (cg s (b + 3) l3)))))) / (nI 100))) (l3 + (-1)) x3)) else none)
set_option maxHeartbeats 4000000 in
theorem t_X8_silt_15 {Γ : jg_G} {g : Nat → jg_C} (F : Nat) (τ : cT) (n : Nat) (b : Nat)  (hB : Bd τ n b) (Q : jg_Q) {x : Int32 × cS} (K1 : jg Γ mX8_silt 1 0 0 76 [some (.ref (b + 1)), none, some (.int x.1), none, none, none] [] (ct_h g τ x.2, n) Q)  : ∀ (f : Nat) (l2 : Int32) (l3 : Int32) (s : cS), o_X8_silt_15 F τ n b f l2 l3 s = some x → jg Γ mX8_silt 1 0 0 15 [some (.ref (b + 1)), none, some (.int l2), some (.int l3), none, none] [] (ct_h g τ s, n) Q := by
  intro f
  induction f with
  | zero => intro l2 l3 s h; rw [o_X8_silt_15] at h; cases h
  | succ f ih =>
   intro l2 l3 s h
   rw [o_X8_silt_15] at h
   refine jg_iload_n dX8_silt_15 rfl ?_
   refine jg_if_lt (x := l3) (tgt := 76) dX8_silt_16 (by decide) (fun c1 => ?_) (fun c1 => ?_)
   · replace h := it_t c1 h
     refine jg_fg (L' := [some (.ref (b + 1)), none, some (.int l2), none, none, none]) (by repeat (first | exact trivial | refine ⟨rfl, ?_⟩ | show jg_le _ _)) ?_
     obtain rfl := Option.some.inj h
     exact K1
   · replace h := it_f c1 h
     refine jg_bipush (v := nI 60) dX8_silt_19 (by decide) ?_
     refine jg_iconst (v := nI 5) dX8_silt_21 (by decide) ?_
     refine jg_iconst (v := nI 0) dX8_silt_22 (by decide) ?_
     refine jg_aload_n dX8_silt_23 rfl ?_
     refine cs_get (s := s) (w := .ref (b + 2)) fl_X8_9 dX8_silt_24 (hB.ob 1 (by decide) rfl) rfl ?_
     refine jg_iload_n dX8_silt_27 rfl ?_
     obtain ⟨q2, h⟩ := gd_some h
     refine cs_lda (s := s) (q := (b + 2)) (i := l3) dX8_silt_28 (hB.ar 2 (by decide) rfl) q2 ?_
     refine jg_aload_n dX8_silt_29 rfl ?_
     refine cs_get (s := s) (w := .ref (b + 3)) fl_X8_15 dX8_silt_30 (hB.ob 1 (by decide) rfl) rfl ?_
     refine jg_iload_n dX8_silt_33 rfl ?_
     refine cs_lda (s := s) (q := (b + 3)) (i := l3) dX8_silt_34 (hB.ar 3 (by decide) rfl) q2 ?_
     refine jg_isub (x := (cg s (b + 2) l3)) (y := (cg s (b + 3) l3)) dX8_silt_35  ?_
     refine jg_mmax (x := (nI 0)) (y := ((cg s (b + 2) l3) - (cg s (b + 3) l3))) km_X8_82 jw_max.1 jw_max.2 dX8_silt_36 (by decide) (Nat.le_of_ble_eq_true rfl) ?_
     refine jg_iadd (x := (nI 5)) (y := (mxi (nI 0) ((cg s (b + 2) l3) - (cg s (b + 3) l3)))) dX8_silt_39  ?_
     refine jg_mmin (x := (nI 60)) (y := ((nI 5) + (mxi (nI 0) ((cg s (b + 2) l3) - (cg s (b + 3) l3))))) km_X8_65 jw_min.1 jw_min.2 dX8_silt_40 (by decide) (Nat.le_of_ble_eq_true rfl) ?_
     refine jg_istore (L' := [some (.ref (b + 1)), none, some (.int l2), some (.int l3), some (.int (mni (nI 60) ((nI 5) + (mxi (nI 0) ((cg s (b + 2) l3) - (cg s (b + 3) l3)))))), none]) dX8_silt_43 (by decide) rfl ?_
     refine jg_iload_n dX8_silt_45 rfl ?_
     refine jg_iload dX8_silt_46 rfl ?_
     refine jg_imul (x := l2) (y := (mni (nI 60) ((nI 5) + (mxi (nI 0) ((cg s (b + 2) l3) - (cg s (b + 3) l3)))))) dX8_silt_48  ?_
     refine jg_bipush (v := nI 100) dX8_silt_49 (by decide) ?_
     refine jg_idiv (x := (l2 * (mni (nI 60) ((nI 5) + (mxi (nI 0) ((cg s (b + 2) l3) - (cg s (b + 3) l3))))))) (y := (nI 100)) dX8_silt_51 (by decide) ?_
     refine jg_istore (L' := [some (.ref (b + 1)), none, some (.int l2), some (.int l3), some (.int (mni (nI 60) ((nI 5) + (mxi (nI 0) ((cg s (b + 2) l3) - (cg s (b + 3) l3)))))), some (.int ((l2 * (mni (nI 60) ((nI 5) + (mxi (nI 0) ((cg s (b + 2) l3) - (cg s (b + 3) l3)))))) / (nI 100)))]) dX8_silt_52 (by decide) rfl ?_
     refine jg_aload_n dX8_silt_54 rfl ?_
     refine cs_get (s := s) (w := .ref (b + 4)) fl_X8_18 dX8_silt_55 (hB.ob 1 (by decide) rfl) rfl ?_
     refine jg_iload_n dX8_silt_58 rfl ?_
     refine jg_dup2 dX8_silt_59 rfl rfl ?_
     refine cs_lda (s := s) (q := (b + 4)) (i := l3) dX8_silt_60 (hB.ar 4 (by decide) rfl) q2 ?_
     refine jg_iload dX8_silt_61 rfl ?_
     refine jg_iadd (x := (cg s (b + 4) l3)) (y := ((l2 * (mni (nI 60) ((nI 5) + (mxi (nI 0) ((cg s (b + 2) l3) - (cg s (b + 3) l3)))))) / (nI 100))) dX8_silt_63  ?_
     refine cs_sta (s := s) (q := (b + 4)) (i := l3) (x := ((cg s (b + 4) l3) + ((l2 * (mni (nI 60) ((nI 5) + (mxi (nI 0) ((cg s (b + 2) l3) - (cg s (b + 3) l3)))))) / (nI 100)))) dX8_silt_64 (hB.ar 4 (by decide) rfl) q2 ?_
     obtain ⟨x3, e_x3, h⟩ := bd_some h
     refine cs_sub (Option.some.inj e_x3) ?_
     refine jg_iload_n dX8_silt_65 rfl ?_
     refine jg_iload dX8_silt_66 rfl ?_
     refine jg_isub (x := l2) (y := ((l2 * (mni (nI 60) ((nI 5) + (mxi (nI 0) ((cg s (b + 2) l3) - (cg s (b + 3) l3)))))) / (nI 100))) dX8_silt_68  ?_
     refine jg_istore_n (L' := [some (.ref (b + 1)), none, some (.int (l2 - ((l2 * (mni (nI 60) ((nI 5) + (mxi (nI 0) ((cg s (b + 2) l3) - (cg s (b + 3) l3)))))) / (nI 100)))), some (.int l3), some (.int (mni (nI 60) ((nI 5) + (mxi (nI 0) ((cg s (b + 2) l3) - (cg s (b + 3) l3)))))), some (.int ((l2 * (mni (nI 60) ((nI 5) + (mxi (nI 0) ((cg s (b + 2) l3) - (cg s (b + 3) l3)))))) / (nI 100)))]) dX8_silt_69 (by decide) rfl ?_
     refine jg_iinc (x := l3) (v := l3 + (-1)) (L' := [some (.ref (b + 1)), none, some (.int (l2 - ((l2 * (mni (nI 60) ((nI 5) + (mxi (nI 0) ((cg s (b + 2) l3) - (cg s (b + 3) l3)))))) / (nI 100)))), some (.int (l3 + (-1))), some (.int (mni (nI 60) ((nI 5) + (mxi (nI 0) ((cg s (b + 2) l3) - (cg s (b + 3) l3)))))), some (.int ((l2 * (mni (nI 60) ((nI 5) + (mxi (nI 0) ((cg s (b + 2) l3) - (cg s (b + 3) l3)))))) / (nI 100)))]) dX8_silt_70 rfl (ic_k _ (by decide)) (by decide) rfl ?_
     refine jg_goto (tgt := 15) dX8_silt_73 (by decide) ?_
     refine jg_fg (L' := [some (.ref (b + 1)), none, some (.int (l2 - ((l2 * (mni (nI 60) ((nI 5) + (mxi (nI 0) ((cg s (b + 2) l3) - (cg s (b + 3) l3)))))) / (nI 100)))), some (.int (l3 + (-1))), none, none]) (by repeat (first | exact trivial | refine ⟨rfl, ?_⟩ | show jg_le _ _)) ?_
     exact ih (l2 - ((l2 * (mni (nI 60) ((nI 5) + (mxi (nI 0) ((cg s (b + 2) l3) - (cg s (b + 3) l3)))))) / (nI 100))) (l3 + (-1)) x3 h
noncomputable def o_X8_silt (F : Nat) (τ : cT) (n : Nat) (b : Nat) (s : cS) (a1 : Int32) : Option (cS) := (o_X8_silt_15 F τ n b F a1 (nI 23) (cp s (b + 1) 11 ((s.1 (b + 1) 11) + a1))).bind fun x4 => (some (cp x4.2 (b + 1) 12 ((x4.2.1 (b + 1) 12) + x4.1)))
set_option maxHeartbeats 4000000 in
theorem t_X8_silt {Γ : jg_G} {g : Nat → jg_C} (F : Nat) (τ : cT) (n : Nat) (b : Nat) (s : cS) (a1 : Int32) (hB : Bd τ n b) {x : cS} (h : o_X8_silt F τ n b s a1 = some x) : jc Γ mX8_silt 1 0 0 [some (.ref (b + 1)), some (.int a1), none, none, none, none] (ct_h g τ s, n) (.inl none) (ct_h g τ x, n) := by
  refine jc_of ?_
  rw [o_X8_silt] at h
  refine jg_aload_n dX8_silt_0 rfl ?_
  refine jg_dup dX8_silt_1 rfl ?_
  refine cs_get (s := s) (w := .int (s.1 (b + 1) 11)) fl_X8_56 dX8_silt_2 (hB.ob 1 (by decide) rfl) rfl ?_
  refine jg_iload_n dX8_silt_5 rfl ?_
  refine jg_iadd (x := (s.1 (b + 1) 11)) (y := a1) dX8_silt_6  ?_
  refine cs_put (s := s) (k := 11) (x := ((s.1 (b + 1) 11) + a1)) fl_X8_56 dX8_silt_7 (hB.ob 1 (by decide) rfl) (ltb rfl) (rfl) rfl rfl ?_
  refine jg_iload_n dX8_silt_10 rfl ?_
  refine jg_istore_n (L' := [some (.ref (b + 1)), some (.int a1), some (.int a1), none, none, none]) dX8_silt_11 (by decide) rfl ?_
  refine jg_bipush (v := nI 23) dX8_silt_12 (by decide) ?_
  refine jg_istore_n (L' := [some (.ref (b + 1)), some (.int a1), some (.int a1), some (.int (nI 23)), none, none]) dX8_silt_14 (by decide) rfl ?_
  obtain ⟨x4, e_x4, h⟩ := bd_some h
  refine jg_fg (L' := [some (.ref (b + 1)), none, some (.int a1), some (.int (nI 23)), none, none]) (by repeat (first | exact trivial | refine ⟨rfl, ?_⟩ | show jg_le _ _)) ?_
  refine t_X8_silt_15  F τ n b hB _ (x := x4) ?_ F a1 (nI 23) (cp s (b + 1) 11 ((s.1 (b + 1) 11) + a1)) e_x4
  refine jg_aload_n dX8_silt_76 rfl ?_
  refine jg_dup dX8_silt_77 rfl ?_
  refine cs_get (s := x4.2) (w := .int (x4.2.1 (b + 1) 12)) fl_X8_59 dX8_silt_78 (hB.ob 1 (by decide) rfl) rfl ?_
  refine jg_iload_n dX8_silt_81 rfl ?_
  refine jg_iadd (x := (x4.2.1 (b + 1) 12)) (y := x4.1) dX8_silt_82  ?_
  refine cs_put (s := x4.2) (k := 12) (x := ((x4.2.1 (b + 1) 12) + x4.1)) fl_X8_59 dX8_silt_83 (hB.ob 1 (by decide) rfl) (ltb rfl) (rfl) rfl rfl ?_
  obtain rfl := Option.some.inj h
  exact jg_return dX8_silt_86 rfl ⟨rfl, rfl⟩
theorem dX8_dig_0 : decode cX8_dig 0 = .ok (.aload_n 0, 1) := by decide +kernel
theorem dX8_dig_1 : decode cX8_dig 1 = .ok (.getfield 33, 3) := by decide +kernel
theorem dX8_dig_4 : decode cX8_dig 4 = .ok (.iload_n 1, 1) := by decide +kernel
theorem dX8_dig_5 : decode cX8_dig 5 = .ok (.iaload, 1) := by decide +kernel
theorem dX8_dig_6 : decode cX8_dig 6 = .ok (.istore_n 2, 1) := by decide +kernel
theorem dX8_dig_7 : decode cX8_dig 7 = .ok (.iload_n 2, 1) := by decide +kernel
theorem dX8_dig_8 : decode cX8_dig 8 = .ok (.ifCond .lt 9, 3) := by decide +kernel
theorem dX8_dig_11 : decode cX8_dig 11 = .ok (.iload_n 2, 1) := by decide +kernel
theorem dX8_dig_12 : decode cX8_dig 12 = .ok (.bipush 24, 2) := by decide +kernel
theorem dX8_dig_14 : decode cX8_dig 14 = .ok (.if_icmp .lt 4, 3) := by decide +kernel
theorem dX8_dig_17 : decode cX8_dig 17 = .ok (.return_, 1) := by decide +kernel
theorem dX8_dig_18 : decode cX8_dig 18 = .ok (.aload_n 0, 1) := by decide +kernel
theorem dX8_dig_19 : decode cX8_dig 19 = .ok (.getfield 30, 3) := by decide +kernel
theorem dX8_dig_22 : decode cX8_dig 22 = .ok (.iload_n 1, 1) := by decide +kernel
theorem dX8_dig_23 : decode cX8_dig 23 = .ok (.iaload, 1) := by decide +kernel
theorem dX8_dig_24 : decode cX8_dig 24 = .ok (.istore_n 3, 1) := by decide +kernel
theorem dX8_dig_25 : decode cX8_dig 25 = .ok (.aload_n 0, 1) := by decide +kernel
theorem dX8_dig_26 : decode cX8_dig 26 = .ok (.getfield 18, 3) := by decide +kernel
theorem dX8_dig_29 : decode cX8_dig 29 = .ok (.iload_n 2, 1) := by decide +kernel
theorem dX8_dig_30 : decode cX8_dig 30 = .ok (.dup2, 1) := by decide +kernel
theorem dX8_dig_31 : decode cX8_dig 31 = .ok (.iaload, 1) := by decide +kernel
theorem dX8_dig_32 : decode cX8_dig 32 = .ok (.iload_n 3, 1) := by decide +kernel
theorem dX8_dig_33 : decode cX8_dig 33 = .ok (.isub, 1) := by decide +kernel
theorem dX8_dig_34 : decode cX8_dig 34 = .ok (.iastore, 1) := by decide +kernel
theorem dX8_dig_35 : decode cX8_dig 35 = .ok (.aload_n 0, 1) := by decide +kernel
theorem dX8_dig_36 : decode cX8_dig 36 = .ok (.getfield 18, 3) := by decide +kernel
theorem dX8_dig_39 : decode cX8_dig 39 = .ok (.iload_n 2, 1) := by decide +kernel
theorem dX8_dig_40 : decode cX8_dig 40 = .ok (.iaload, 1) := by decide +kernel
theorem dX8_dig_41 : decode cX8_dig 41 = .ok (.ifCond .ge 39, 3) := by decide +kernel
theorem dX8_dig_44 : decode cX8_dig 44 = .ok (.aload_n 0, 1) := by decide +kernel
theorem dX8_dig_45 : decode cX8_dig 45 = .ok (.getfield 9, 3) := by decide +kernel
theorem dX8_dig_48 : decode cX8_dig 48 = .ok (.iload_n 2, 1) := by decide +kernel
theorem dX8_dig_49 : decode cX8_dig 49 = .ok (.iaload, 1) := by decide +kernel
theorem dX8_dig_50 : decode cX8_dig 50 = .ok (.sipush 200, 3) := by decide +kernel
theorem dX8_dig_53 : decode cX8_dig 53 = .ok (.if_icmp .ge 27, 3) := by decide +kernel
theorem dX8_dig_56 : decode cX8_dig 56 = .ok (.aload_n 0, 1) := by decide +kernel
theorem dX8_dig_57 : decode cX8_dig 57 = .ok (.getfield 9, 3) := by decide +kernel
theorem dX8_dig_60 : decode cX8_dig 60 = .ok (.iload_n 2, 1) := by decide +kernel
theorem dX8_dig_61 : decode cX8_dig 61 = .ok (.dup2, 1) := by decide +kernel
theorem dX8_dig_62 : decode cX8_dig 62 = .ok (.iaload, 1) := by decide +kernel
theorem dX8_dig_63 : decode cX8_dig 63 = .ok (.iconst 1, 1) := by decide +kernel
theorem dX8_dig_64 : decode cX8_dig 64 = .ok (.iadd, 1) := by decide +kernel
theorem dX8_dig_65 : decode cX8_dig 65 = .ok (.iastore, 1) := by decide +kernel
theorem dX8_dig_66 : decode cX8_dig 66 = .ok (.aload_n 0, 1) := by decide +kernel
theorem dX8_dig_67 : decode cX8_dig 67 = .ok (.getfield 18, 3) := by decide +kernel
theorem dX8_dig_70 : decode cX8_dig 70 = .ok (.iload_n 2, 1) := by decide +kernel
theorem dX8_dig_71 : decode cX8_dig 71 = .ok (.dup2, 1) := by decide +kernel
theorem dX8_dig_72 : decode cX8_dig 72 = .ok (.iaload, 1) := by decide +kernel
theorem dX8_dig_73 : decode cX8_dig 73 = .ok (.bipush 50, 2) := by decide +kernel
theorem dX8_dig_75 : decode cX8_dig 75 = .ok (.iadd, 1) := by decide +kernel
theorem dX8_dig_76 : decode cX8_dig 76 = .ok (.iastore, 1) := by decide +kernel
theorem dX8_dig_77 : decode cX8_dig 77 = .ok (.goto (-42), 3) := by decide +kernel
theorem dX8_dig_80 : decode cX8_dig 80 = .ok (.aload_n 0, 1) := by decide +kernel
theorem dX8_dig_81 : decode cX8_dig 81 = .ok (.getfield 18, 3) := by decide +kernel
theorem dX8_dig_84 : decode cX8_dig 84 = .ok (.iload_n 2, 1) := by decide +kernel
theorem dX8_dig_85 : decode cX8_dig 85 = .ok (.iaload, 1) := by decide +kernel
theorem dX8_dig_86 : decode cX8_dig 86 = .ok (.ifCond .ge 19, 3) := by decide +kernel
theorem dX8_dig_89 : decode cX8_dig 89 = .ok (.iload_n 3, 1) := by decide +kernel
theorem dX8_dig_90 : decode cX8_dig 90 = .ok (.aload_n 0, 1) := by decide +kernel
theorem dX8_dig_91 : decode cX8_dig 91 = .ok (.getfield 18, 3) := by decide +kernel
theorem dX8_dig_94 : decode cX8_dig 94 = .ok (.iload_n 2, 1) := by decide +kernel
theorem dX8_dig_95 : decode cX8_dig 95 = .ok (.iaload, 1) := by decide +kernel
theorem dX8_dig_96 : decode cX8_dig 96 = .ok (.iadd, 1) := by decide +kernel
theorem dX8_dig_97 : decode cX8_dig 97 = .ok (.istore_n 3, 1) := by decide +kernel
theorem dX8_dig_98 : decode cX8_dig 98 = .ok (.aload_n 0, 1) := by decide +kernel
theorem dX8_dig_99 : decode cX8_dig 99 = .ok (.getfield 18, 3) := by decide +kernel
theorem dX8_dig_102 : decode cX8_dig 102 = .ok (.iload_n 2, 1) := by decide +kernel
theorem dX8_dig_103 : decode cX8_dig 103 = .ok (.iconst 0, 1) := by decide +kernel
theorem dX8_dig_104 : decode cX8_dig 104 = .ok (.iastore, 1) := by decide +kernel
theorem dX8_dig_105 : decode cX8_dig 105 = .ok (.aload_n 0, 1) := by decide +kernel
theorem dX8_dig_106 : decode cX8_dig 106 = .ok (.getfield 36, 3) := by decide +kernel
theorem dX8_dig_109 : decode cX8_dig 109 = .ok (.iload_n 1, 1) := by decide +kernel
theorem dX8_dig_110 : decode cX8_dig 110 = .ok (.iaload, 1) := by decide +kernel
theorem dX8_dig_111 : decode cX8_dig 111 = .ok (.istore 4, 2) := by decide +kernel
theorem dX8_dig_113 : decode cX8_dig 113 = .ok (.iload 4, 2) := by decide +kernel
theorem dX8_dig_115 : decode cX8_dig 115 = .ok (.ifCond .lt 10, 3) := by decide +kernel
theorem dX8_dig_118 : decode cX8_dig 118 = .ok (.iload 4, 2) := by decide +kernel
